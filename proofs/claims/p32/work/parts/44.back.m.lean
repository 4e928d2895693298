section
/-! plain programs: back -/
section GE
variable {ok : TOK} {tu : Nat → Bool} {mi lk : Nat → Int} {la : Int}
def geT (t r : Int) : Prop := r = -1 ∨ t ≤ r
theorem stF_ge {i : Nat} {sort t lasts : Int} (ht : TmOk t) (hl : 0 ≤ lasts) : geT t (stF ok i sort t lasts) := by
  rcases stF_rng (ok := ok) (i := i) (sort := sort) (t := t) (lasts := lasts) (by unfold TmOk at ht; omega) hl with h | h
  · exact Or.inl h
  · exact Or.inr h.1
theorem geT.tr {a b c : Int} (h1 : geT a b) (h2 : geT b c) (h3 : b = -1 → c = -1) : geT a c := by
  unfold geT at *
  omega
theorem miF_ge {i : Nat} : ∀ (n : Nat) (t : Int), TmOk t → geT t (miF ok i n t)
  | 0, t, _ => Or.inr (Int.le_refl t)
  | n + 1, t, h => (stF_ge h (by decide)).tr (miF_ge n _ (stF_tm h (by decide))) (fun e => by show miF ok i n (stF ok i 0 t 20) = -1; rw [e, miF_m1])
theorem enF_ge {i : Nat} {up : Bool} {t : Int} (hm : 0 ≤ mi i) (h : TmOk t) : geT t (enF ok tu mi i up t) := by
  unfold enF
  by_cases e : tu i = true
  · rw [if_pos e]
    by_cases e2 : 0 < mi i
    · rw [if_pos e2]; exact stF_ge h (by omega)
    · rw [if_neg e2]; exact Or.inr (Int.le_refl t)
  · rw [if_neg e]; exact miF_ge _ _ h
theorem lkF_ge {i : Nat} (hl : 0 ≤ la) : ∀ (n : Nat) (p : Int × List Int), TmOk p.1 → geT p.1 (lkF ok i la n p).1
  | 0, p, _ => Or.inr (Int.le_refl _)
  | n + 1, p, h => by
    unfold lkF
    by_cases e : stF ok i 1 p.1 la = -1
    · rw [if_pos e, lkF_m1]; exact Or.inl rfl
    · rw [if_neg e]
      exact (stF_ge h hl).tr (lkF_ge hl n (stF ok i 1 p.1 la, (stF ok i 1 p.1 la - la) / 1440 :: p.2) (stF_tm h hl)) (fun q => absurd q e)
theorem thF_ge {i : Nat} {up : Bool} {p : Int × List Int} (hl : 0 ≤ la) (hm : 0 ≤ mi i) (h : TmOk p.1) : geT p.1 (thF ok tu mi lk la i up p).1 := by
  unfold thF
  exact (enF_ge hm h).tr (lkF_ge hl _ (enF ok tu mi i up p.1, p.2) (enF_tm hm h)) (fun e => by rw [e, lkF_m1])
theorem thF_tm2 {i : Nat} {up : Bool} {p : Int × List Int} (hl : 0 ≤ la) (hm : 0 ≤ mi i) (hk : 0 ≤ lk i ∧ lk i ≤ 9) (h : TmOk p.1) : TmOk (thF ok tu mi lk la i up p).1 := by
  have q := thF_ok (ok := ok) (tu := tu) (mi := mi) (lk := lk) (i := i) (up := up) (p := (p.1, [])) hl hm hk h (by intro d hd; cases hd)
  rw [thF_fst (p := p) (q := (p.1, [])) rfl]
  exact q.1
theorem upF_ge (hl : 0 ≤ la) (hm : ∀ i, i < 15 → 0 ≤ mi i) (hk : ∀ i, i < 15 → 0 ≤ lk i ∧ lk i ≤ 9) : ∀ (n a : Nat) (p : Int × List Int), a + n ≤ 15 → TmOk p.1 → geT p.1 (upF ok tu mi lk la n a p).1
  | 0, _, p, _, _ => Or.inr (Int.le_refl _)
  | n + 1, a, p, h, ht => by
    unfold upF
    refine (thF_ge hl (hm a (by omega)) ht).tr (upF_ge hl hm hk n (a + 1) _ (by omega) (thF_tm2 hl (hm a (by omega)) (hk a (by omega)) ht)) (fun e => ?_)
    rw [upF_fst (q := (-1, [])) n (a + 1) _ e, upF_m1]
theorem dnF_ge (hl : 0 ≤ la) (hm : ∀ i, i < 15 → 0 ≤ mi i) (hk : ∀ i, i < 15 → 0 ≤ lk i ∧ lk i ≤ 9) : ∀ (n a : Nat) (p : Int × List Int), n ≤ a → a ≤ 15 → TmOk p.1 → geT p.1 (dnF ok tu mi lk la n a p).1
  | 0, _, p, _, _, _ => Or.inr (Int.le_refl _)
  | n + 1, a, p, h, h', ht => by
    unfold dnF
    refine (thF_ge hl (hm (a - 1) (by omega)) ht).tr (dnF_ge hl hm hk n (a - 1) _ (by omega) (by omega) (thF_tm2 hl (hm (a - 1) (by omega)) (hk (a - 1) (by omega)) ht)) (fun e => ?_)
    rw [dnF_fst (q := (-1, [])) n (a - 1) _ e, dnF_m1]
end GE
theorem ldM_ge {a c : Nat} {ta t : Int} {g : AG} (V : JV g) (ha : a ≤ 15) (hc : c ≤ 15) (ht : 0 ≤ ta ∧ ta ≤ 60) (htm : TmOk t) : ldM g ta a c t = -1 ∨ t ≤ ldM g ta a c t := by
  have v1 := V.1
  have hl : 0 ≤ laF ta := by unfold laF; omega
  unfold ldM ledF
  have u := upF_ge (ok := okM g (stpM g)) (tu := tuM g) (mi := g 118) (lk := g 119) hl (fun i hi => (v1 i hi).2.2.2.1) (fun i hi => ⟨(v1 i hi).2.2.2.2.2.1, (v1 i hi).2.2.2.2.2.2.1⟩) (c - a) a (t, []) (by omega) htm
  have ut := (upF_ok (ok := okM g (stpM g)) (tu := tuM g) (mi := g 118) (lk := g 119) hl (fun i hi => (v1 i hi).2.2.2.1) (fun i hi => ⟨(v1 i hi).2.2.2.2.2.1, (v1 i hi).2.2.2.2.2.2.1⟩) (c - a) a (t, []) (by omega) htm (by intro d hd; cases hd)).1
  have d := dnF_ge (ok := okM g (stpM g)) (tu := tuM g) (mi := g 118) (lk := g 119) hl (fun i hi => (v1 i hi).2.2.2.1) (fun i hi => ⟨(v1 i hi).2.2.2.2.2.1, (v1 i hi).2.2.2.2.2.2.1⟩) (a - c) a _ (by omega) ha ut
  exact u.tr d (fun e => by rw [dnF_fst (q := (-1, [])) _ _ _ e, dnF_m1])
/-- coming to a point n stretches on, and back -/
def bkA (g : AG) (ta : Int) (a : Nat) (p : Nat) (t : Int) : Int := ldM g ta p a (ldM g ta a p t)
def bkG (g : AG) (ta : Int) (a : Nat) (t due : Int) (p : Nat) : Prop := ¬ ldM g ta a p t = -1 ∧ ¬ bkA g ta a p t = -1 ∧ bkA g ta a p t ≤ due
/-- the point n stretches from a towards c -/
def ptF (a c n : Nat) : Nat := if c ≤ a then a - n else a + n
def xbF (g : AG) (ta : Int) (a c : Nat) (t due : Int) : Nat → Nat → Int → Int
  | 0, _, far => far
  | n + 1, j, far => xbF g ta a c t due n (j + 1) (if ¬ ldM g ta a (ptF a c j) t = -1 ∧ ¬ bkA g ta a (ptF a c j) t = -1 ∧ bkA g ta a (ptF a c j) t ≤ due then (ptF a c j : Int) else far)
theorem isBack_s {k p : Nat} {g : AG} (T : JT g) {b a c : Nat} (hk : (k : Int) < g 7 8) (e1 : g 76 k = b) (e2 : g 77 k = a) (hb : b < 10) (ha : a ≤ 15) (ht : 0 ≤ g 79 k ∧ g 79 k ≤ 20159) (hd : 0 ≤ g 80 k ∧ g 80 k ≤ 20159) (hr : 0 ≤ g 51 b ∧ g 51 b ≤ 60) (hp : p ≤ 15) : ∃ g', Trips_isBackInTime k p g = some (if ¬ ldM g (g 51 b) a p (g 79 k) = -1 ∧ ¬ bkA g (g 51 b) a p (g 79 k) = -1 ∧ bkA g (g 51 b) a p (g 79 k) ≤ g 80 k then 1 else 0, g') ∧ FR WV g g' := by
  have t1 := T.2.2.1
  obtain ⟨g1, r1, f1⟩ := X_comesTo1 (a := a) (c := p) (ta := g 51 b) (t := g 79 k) T.1 ha hp hr (Or.inr ht)
  have l1 := ldM_tm (g := g) (a := a) (c := p) (ta := g 51 b) (t := g 79 k) T.1 ha hp hr (Or.inr ht)
  obtain ⟨g2, r2, f2⟩ := X_comesTo1 (a := p) (c := a) (ta := g 51 b) (t := ldM g (g 51 b) a p (g 79 k)) (g := g1) (T.1.fr f1 rfl) hp ha hr l1
  have l2 := ldM_tm (g := g) (a := p) (c := a) (ta := g 51 b) (t := ldM g (g 51 b) a p (g 79 k)) T.1 hp ha hr l1
  rw [ldM_fr f1 rfl] at r2
  have q1 : g1 77 k = a := by rw [f1 77 k rfl]; exact e2
  have q2 : g2 80 k = g 80 k := by rw [f2 80 k rfl, f1 80 k rfl]
  unfold bkA
  unfold TmOk at l1 l2
  by_cases c1 : ldM g (g 51 b) a p (g 79 k) = -1
  · refine ⟨g1, ?_, f1⟩
    rw [c1] at r1
    unfold Trips_isBackInTime
    clear l1 l2 r2
    simp (disch := omega) only [nw_id, ix_id, sb, if_true, if_false, if_pos, if_neg, true_and, and_true, false_and, and_false, and_self, Int.toNat_natCast, e1, e2, r1, c1, not_true]
  · refine ⟨g2, ?_, f1.tr f2⟩
    unfold Trips_isBackInTime
    generalize ldM g (g 51 b) p a (ldM g (g 51 b) a p (g 79 k)) = M at r2 l2 ⊢
    generalize ldM g (g 51 b) a p (g 79 k) = L at r1 r2 l1 c1 ⊢
    have c2 : 0 ≤ L ∧ L ≤ 20159 := by omega
    clear l1
    by_cases c3 : M = -1
    · clear l2
      simp (disch := omega) only [nw_id, ix_id, sb, if_true, if_false, if_pos, if_neg, true_and, and_true, false_and, and_false, and_self, Int.toNat_natCast, e1, e2, r1, r2, q1, not_true, not_false_eq_true, true_or]
    · have c4 : 0 ≤ M ∧ M ≤ 20159 := by omega
      clear l2
      by_cases c5 : g 80 k < M
      · simp (disch := omega) only [nw_id, ix_id, sb, if_true, if_false, if_pos, if_neg, true_and, and_true, false_and, and_false, and_self, Int.toNat_natCast, e1, e2, r1, r2, q1, q2, not_false_eq_true, true_or]
      · simp (disch := omega) only [nw_id, ix_id, sb, if_true, if_false, if_pos, if_neg, true_and, and_true, false_and, and_false, and_self, Int.toNat_natCast, e1, e2, r1, r2, q1, q2, not_false_eq_true, or_true]
theorem ptF_int {a c n : Nat} (h : n ≤ (if c ≤ a then a - c else c - a)) : ((ptF a c n : Nat) : Int) = if c ≤ a then (a : Int) - n else (a : Int) + n := by
  unfold ptF
  split
  · next q => rw [if_pos q] at h; omega
  · omega
theorem ptF_le {a c n : Nat} (ha : a ≤ 15) (hc : c ≤ 15) (h : n ≤ (if c ≤ a then a - c else c - a)) : ptF a c n ≤ 15 := by
  unfold ptF
  split at h <;> split <;> omega
theorem X_tb_s {k : Nat} {b a c : Nat} (hb : b < 10) (ha : a ≤ 15) (hc : c ≤ 15) {way st ta t due : Int} {N : Nat} (hN : N = if c ≤ a then a - c else c - a) (hst : st = N) (hw : a = c ∨ way = if c ≤ a then -1 else 1) (ht : 0 ≤ t ∧ t ≤ 20159) (hd : 0 ≤ due ∧ due ≤ 20159) (hr : 0 ≤ ta ∧ ta ≤ 60) : ∀ (n j : Nat) (far : Int) (g : AG), j + n = N + 1 → JT g → (k : Int) < g 7 8 → g 76 k = b → g 77 k = a → g 79 k = t → g 80 k = due → g 51 b = ta → ∃ g', Trips_turningBack_b k way st far j g = some (xbF g ta a c t due n j far, g') ∧ FR WV g g' := by
  intro n
  induction n with
  | zero =>
    intro j far g h T hk e1 e2 e3 e4 e5
    refine ⟨g, ?_, Fr.rf⟩
    have : N ≤ 15 := by rw [hN]; split <;> omega
    rw [Trips_turningBack_b]
    simp (disch := omega) only [nw_id, ix_id, sb, if_true, if_false, if_pos, if_neg, true_and, and_true, false_and, and_false, and_self]
    rfl
  | succ n ih =>
    intro j far g h T hk e1 e2 e3 e4 e5
    have t1 := T.2.2.1
    have hjN : j ≤ N := by omega
    have hpl := ptF_le (n := j) ha hc (by rw [← hN]; exact hjN)
    have hpi := ptF_int (a := a) (c := c) (n := j) (by rw [← hN]; exact hjN)
    have hpt : (a : Int) + (j : Int) * way = (ptF a c j : Nat) := by
      rw [hpi]
      rcases hw with q | q
      · subst q
        have : j = 0 := by rw [if_pos (Nat.le_refl _)] at hN; omega
        subst this
        simp
      · rw [q]
        split <;> omega
    obtain ⟨g1, r1, f1⟩ := isBack_s (p := ptF a c j) T (b := b) (a := a) (c := c) hk e1 e2 hb ha (by rw [e3]; exact ht) (by rw [e4]; exact hd) (by rw [e5]; exact hr) hpl
    rw [e3, e4, e5] at r1
    obtain ⟨g2, r2, f2⟩ := ih (j + 1) (if ¬ ldM g ta a (ptF a c j) t = -1 ∧ ¬ bkA g ta a (ptF a c j) t = -1 ∧ bkA g ta a (ptF a c j) t ≤ due then (ptF a c j : Int) else far) g1 (by omega) (T.fr f1 rfl rfl rfl) (by rw [f1 7 8 rfl]; exact hk) (by rw [f1 76 k rfl]; exact e1) (by rw [f1 77 k rfl]; exact e2) (by rw [f1 79 k rfl]; exact e3) (by rw [f1 80 k rfl]; exact e4) (by rw [f1 51 b rfl]; exact e5)
    have xf : xbF g1 ta a c t due = xbF g ta a c t due := by
      have lf := ldM_fr f1 rfl
      funext n
      induction n with
      | zero => rfl
      | succ n ihn =>
        funext j far
        unfold xbF bkA
        rw [lf, ihn]
    rw [xf, show ((j + 1 : Nat) : Int) = (j : Int) + 1 from rfl] at r2
    refine ⟨g2, ?_, f1.tr f2⟩
    unfold xbF
    rw [← r2, Trips_turningBack_b]
    have hN15 : N ≤ 15 := by rw [hN]; split <;> omega
    have q1 : g1 77 k = a := by rw [f1 77 k rfl]; exact e2
    have c1 : ¬ nw st < nw (j : Int) := by rw [nw_id (by omega) (by omega), nw_id (by omega) (by omega)]; omega
    have c2 : 0 ≤ nw (k : Int) ∧ nw (k : Int) < 20 := by clear c1; rw [nw_id (by omega) (by omega)]; omega
    have c3 : ix (k : Int) = k := by clear c1 c2; rw [ix_id (by omega) (by omega), Int.toNat_natCast]
    rw [if_neg c1, if_pos c2, c3, e2, hpt, r1, sb]
    by_cases z : ¬ ldM g ta a (ptF a c j) t = -1 ∧ ¬ bkA g ta a (ptF a c j) t = -1 ∧ bkA g ta a (ptF a c j) t ≤ due
    · simp only [if_pos z]
      rw [nw_1, if_neg (by decide), sb]
    · simp only [if_neg z]
      rw [nw_0, if_pos rfl, sb]
/-- the reference's loop -/
theorem M_tb_s {k : Nat} {b a c : Nat} (hb : b < 10) (ha : a ≤ 15) (hc : c ≤ 15) {way ta t due : Int} {N : Nat} (hN : N = if c ≤ a then a - c else c - a) (hw : way = if c ≤ a then -1 else 1) (ht : 0 ≤ t ∧ t ≤ 20159) (hd : 0 ≤ due ∧ due ≤ 20159) (hr : 0 ≤ ta ∧ ta ≤ 60) : ∀ (n j : Nat) (far best : Int) (g : AG), j + n = N + 1 → JT g → JFlag g → (k : Int) < g 7 8 → g 149 k = b → g 150 k = a → g 151 k = c → g 152 k = t → g 153 k = due → g 127 b = ta → ((best = -1 ∧ far = -1000000) ∨ (best = far ∧ 0 ≤ best ∧ best ≤ 15)) → ∃ g', M_turningBack_b k way 1 best j g = some (xbF g ta a c t due n j far, g') ∧ FR WM g g' := by
  have fin : ∀ (far best : Int) (m : Int) (g : AG), ((best = -1 ∧ far = -1000000) ∨ (best = far ∧ 0 ≤ best ∧ best ≤ 15)) → M_turningBack_b k way 2 best m g = some (far, g) := by
    intro far best m g h
    rw [M_turningBack_b, if_neg (by decide), if_pos rfl, sb]
    rcases h with ⟨rfl, rfl⟩ | ⟨rfl, h0, h1⟩
    · rw [nw_m1]; rfl
    · rw [if_neg (by rw [nw_id (by omega) (by omega)]; omega)]
  intro n
  induction n with
  | zero =>
    intro j far best g h T hf hk e1 e2 e3 e4 e5 e6 hbf
    have t1 := T.2.2.1
    refine ⟨g, ?_, Fr.rf⟩
    have hN15 : N ≤ 15 := by rw [hN]; split <;> omega
    have hNi : ((c : Int) - (a : Int)) * way = N := by
      rw [hN, hw]; split <;> omega
    have c2 : 0 ≤ nw (k : Int) ∧ nw (k : Int) < 20 := by clear hNi; rw [nw_id (by omega) (by omega)]; omega
    have c3 : ix (k : Int) = k := by clear c2 hNi; rw [ix_id (by omega) (by omega), Int.toNat_natCast]
    have c4 : nw (N : Int) < nw (j : Int) := by clear c2 c3 hNi; rw [nw_id (by omega) (by omega), nw_id (by omega) (by omega)]; omega
    rw [M_turningBack_b, if_pos rfl, if_pos c2, c3, e3, e2, hNi, if_pos c4, fin far best j g hbf]
    rfl
  | succ n ih =>
    intro j far best g h T hf hk e1 e2 e3 e4 e5 e6 hbf
    have t1 := T.2.2.1
    have hjN : j ≤ N := by omega
    have hpl := ptF_le (n := j) ha hc (by rw [← hN]; exact hjN)
    have hpi := ptF_int (a := a) (c := c) (n := j) (by rw [← hN]; exact hjN)
    have hpt : (a : Int) + (j : Int) * way = (ptF a c j : Nat) := by
      rw [hpi, hw]
      split <;> omega
    have hN15 : N ≤ 15 := by rw [hN]; split <;> omega
    have hNi : ((c : Int) - (a : Int)) * way = N := by
      rw [hN, hw]; split <;> omega
    have c2 : 0 ≤ nw (k : Int) ∧ nw (k : Int) < 20 := by clear hNi hpt; rw [nw_id (by omega) (by omega)]; omega
    have c3 : ix (k : Int) = k := by clear c2 hNi hpt; rw [ix_id (by omega) (by omega), Int.toNat_natCast]
    have c4 : ¬ nw (N : Int) < nw (j : Int) := by clear c2 c3 hNi hpt; rw [nw_id (by omega) (by omega), nw_id (by omega) (by omega)]; omega
    have tmt : TmOk t := Or.inr ht
    have l1 := ldM_tm (g := g) (a := a) (c := ptF a c j) (ta := ta) (t := t) T.1 ha hpl hr tmt
    have g1e := ldM_ge (g := g) (a := a) (c := ptF a c j) (ta := ta) (t := t) T.1 ha hpl hr tmt
    have l2 := ldM_tm (g := g) (a := ptF a c j) (c := a) (ta := ta) (t := ldM g ta a (ptF a c j) t) T.1 hpl ha hr l1
    have g2e := ldM_ge (g := g) (a := ptF a c j) (c := a) (ta := ta) (t := ldM g ta a (ptF a c j) t) T.1 hpl ha hr l1
    -- nothing good from here on
    have dead : (∀ i : Nat, j ≤ i → i ≤ N → ¬ (¬ ldM g ta a (ptF a c i) t = -1 ∧ ¬ bkA g ta a (ptF a c i) t = -1 ∧ bkA g ta a (ptF a c i) t ≤ due)) → xbF g ta a c t due (n + 1) j far = far := by
      intro hno
      have key : ∀ (m i : Nat) (f : Int), j ≤ i → i + m = N + 1 → xbF g ta a c t due m i f = f := by
        intro m
        induction m with
        | zero => intro i f _ _; rfl
        | succ m ihm =>
          intro i f h1 h2
          unfold xbF
          rw [if_neg (hno i h1 (by omega))]
          exact ihm (i + 1) f (by omega) (by omega)
      exact key (n + 1) j far (Nat.le_refl _) h
    rw [M_turningBack_b, if_pos rfl, if_pos c2, c3, e3, e2, hNi, if_neg c4, e5, e4]
    clear c2 c3 c4 hNi
    have c5 : nw due = due := nw_id (by omega) (by omega)
    have c6 : nw t = t := by clear c5; exact nw_id (by omega) (by omega)
    rw [c5, c6]
    clear c5 c6
    by_cases z : due < t
    · rw [if_pos z, fin far best j g hbf, dead (fun i h1 h2 q => ?_)]
      · exact ⟨g, rfl, Fr.rf⟩
      · have hpl' := ptF_le (n := i) ha hc (by rw [← hN]; exact h2)
        have a1 := ldM_tm (g := g) (a := a) (c := ptF a c i) (ta := ta) (t := t) T.1 ha hpl' hr tmt
        have a2 := ldM_ge (g := g) (a := a) (c := ptF a c i) (ta := ta) (t := t) T.1 ha hpl' hr tmt
        have a3 := ldM_ge (g := g) (a := ptF a c i) (c := a) (ta := ta) (t := ldM g ta a (ptF a c i) t) T.1 hpl' ha hr a1
        unfold bkA at q
        omega
    · rw [if_neg z, e1, hpt]
      obtain ⟨g1, r1, f1⟩ := M_led1 (b := b) (a := a) (c := ptF a c j) (t := t) (g := g) T.1 hf hb ha hpl (by rw [e6]; exact hr) tmt
      rw [e6] at r1
      rw [r1, sb]
      dsimp only
      by_cases d1 : ldM g ta a (ptF a c j) t = -1
      · rw [d1, nw_m1, if_pos rfl, sb]
        have := fin far best j g1 hbf
        rw [M_turningBack_b, if_neg (by decide), if_pos rfl, sb] at this
        rw [this, dead (fun i h1 h2 q => ?_)]
        · exact ⟨g1, rfl, f1⟩
        · refine q.1 ?_
          unfold ldM at d1 ⊢
          unfold ptF at d1 ⊢
          by_cases y : c ≤ a
          · rw [if_pos y] at d1 ⊢
            rw [if_pos y] at hN
            exact led_dn_m1 (by omega) (by omega) d1
          · rw [if_neg y] at d1 ⊢
            exact led_up_m1 (by omega) (by omega) d1
      · unfold TmOk at l1 l2
        have d2 : ¬ nw (ldM g ta a (ptF a c j) t) = -1 := by clear dead ih; rw [nw_id (by omega) (by omega)]; exact d1
        have q1 : g1 149 k = b := by rw [f1 149 k rfl]; exact e1
        have q2 : g1 150 k = a := by rw [f1 150 k rfl]; exact e2
        obtain ⟨g2, r2, f2⟩ := M_led1 (b := b) (a := ptF a c j) (c := a) (t := ldM g ta a (ptF a c j) t) (g := g1) (T.1.fr f1 rfl) (by unfold JFlag; rw [f1 117 47 rfl]; exact hf) hb hpl ha (by rw [f1 127 b rfl, e6]; exact hr) l1
        rw [ldM_fr f1 rfl, f1 127 b rfl, e6] at r2
        have f12 := f1.tr f2
        have q3 : g2 153 k = due := by rw [f12 153 k rfl]; exact e5
        have xf : xbF g2 ta a c t due = xbF g ta a c t due := by
          have lf := ldM_fr f12 rfl
          funext n
          induction n with
          | zero => rfl
          | succ n ihn =>
            funext j far
            unfold xbF bkA
            rw [lf, ihn]
        have go : ∀ far' best' : Int, ((best' = -1 ∧ far' = -1000000) ∨ (best' = far' ∧ 0 ≤ best' ∧ best' ≤ 15)) → far' = (if ¬ ldM g ta a (ptF a c j) t = -1 ∧ ¬ bkA g ta a (ptF a c j) t = -1 ∧ bkA g ta a (ptF a c j) t ≤ due then (ptF a c j : Int) else far) → ∃ g', M_turningBack_b k way 1 best' ((j : Int) + 1) g2 = some (xbF g ta a c t due (n + 1) j far, g') ∧ FR WM g g' := by
          intro far' best' hb' hf'
          obtain ⟨g3, r3, f3⟩ := ih (j + 1) far' best' g2 (by omega) (T.fr f12 rfl rfl rfl) (by unfold JFlag; rw [f12 117 47 rfl]; exact hf) (by rw [f12 7 8 rfl]; exact hk) (by rw [f12 149 k rfl]; exact e1) (by rw [f12 150 k rfl]; exact e2) (by rw [f12 151 k rfl]; exact e3) (by rw [f12 152 k rfl]; exact e4) q3 (by rw [f12 127 b rfl]; exact e6) hb'
          rw [xf, show ((j + 1 : Nat) : Int) = (j : Int) + 1 from rfl] at r3
          refine ⟨g3, ?_, f12.tr f3⟩
          rw [r3, hf']
          rfl
        rw [if_neg d2, q1, q2, r2, sb]
        clear d2
        simp only [q3]
        have bk : bkA g ta a (ptF a c j) t = ldM g ta (ptF a c j) a (ldM g ta a (ptF a c j) t) := rfl
        rw [← bk] at l2 ⊢
        by_cases d3 : bkA g ta a (ptF a c j) t = -1
        · rw [d3, nw_m1, if_pos rfl, sb]
          exact go far best hbf (by rw [if_neg (fun w => w.2.1 d3)])
        · have d4 : ¬ nw (bkA g ta a (ptF a c j) t) = -1 := by clear dead ih go; rw [nw_id (by omega) (by omega)]; exact d3
          have d5 : nw (bkA g ta a (ptF a c j) t) = bkA g ta a (ptF a c j) t := by clear dead ih go d4; exact nw_id (by omega) (by omega)
          have d6 : nw due = due := by clear d5 d4 dead ih go; exact nw_id (by omega) (by omega)
          rw [if_neg d4, d5, d6]
          clear d4 d5 d6
          by_cases d7 : due < bkA g ta a (ptF a c j) t
          · rw [if_pos d7, sb]
            exact go far best hbf (by rw [if_neg (fun w => by have := w.2.2; omega)])
          · rw [if_neg d7, sb]
            exact go (ptF a c j) (ptF a c j) (Or.inr ⟨rfl, by omega, by omega⟩) (by rw [if_pos ⟨d1, d3, by omega⟩])
theorem sm_turning {k : Nat} {g : AG} (T : JT g) (hf : JFlag g) (hk : (k : Int) < g 7 8) : ∃ v g1 g2, Trips_turningBack k g = some (v, g1) ∧ FR WV g g1 ∧ M_turningBack k g1 = some (v, g2) ∧ FR WM g1 g2 := by
  obtain ⟨b, a, c, e1, e2, e3, e4, e5, e6, e7, e8, hb, hb2, ha, hc, ht, hd, hta, hr, hk20⟩ := T.row hk
  obtain ⟨g1, r1, f1⟩ := X_tb_s (k := k) hb ha hc (way := if (a : Int) ≤ c then 1 else -1) (st := ((if c ≤ a then a - c else c - a : Nat) : Int)) (N := if c ≤ a then a - c else c - a) rfl rfl (by
    by_cases z : a = c
    · exact Or.inl z
    · refine Or.inr ?_
      split <;> split <;> omega) ht hd hr ((if c ≤ a then a - c else c - a) + 1) 0 (-1000000) g (by omega) T hk e1 e2 rfl rfl rfl
  have T1 := T.fr f1 rfl rfl rfl
  obtain ⟨g2, r2, f2⟩ := M_tb_s (k := k) hb ha hc (way := if c ≤ a then -1 else 1) (N := if c ≤ a then a - c else c - a) rfl rfl ht hd hr ((if c ≤ a then a - c else c - a) + 1) 0 (-1000000) (-1) g1 (by omega) T1 (by unfold JFlag; rw [f1 117 47 rfl]; exact hf) (by rw [f1 7 8 rfl]; exact hk) (by rw [f1 149 k rfl]; exact e4) (by rw [f1 150 k rfl]; exact e5) (by rw [f1 151 k rfl]; exact e6) (by rw [f1 152 k rfl]; exact e7) (by rw [f1 153 k rfl]; exact e8) (by rw [f1 127 b rfl]; exact hta) (Or.inl ⟨rfl, rfl⟩)
  have xf : xbF g1 (g 51 b) a c (g 79 k) (g 80 k) = xbF g (g 51 b) a c (g 79 k) (g 80 k) := by
    have lf := ldM_fr f1 rfl
    funext n
    induction n with
    | zero => rfl
    | succ n ihn =>
      funext j far
      unfold xbF bkA
      rw [lf, ihn]
  rw [xf] at r2
  have c2 : 0 ≤ nw (k : Int) ∧ nw (k : Int) < 20 := by rw [nw_id (by omega) (by omega)]; omega
  have c3 : ix (k : Int) = k := by clear c2; rw [ix_id (by omega) (by omega), Int.toNat_natCast]
  have c4 : nw (a : Int) = a := by clear c2 c3; exact nw_id (by omega) (by omega)
  have c5 : nw (c : Int) = c := by clear c2 c3 c4; exact nw_id (by omega) (by omega)
  refine ⟨xbF g (g 51 b) a c (g 79 k) (g 80 k) ((if c ≤ a then a - c else c - a) + 1) 0 (-1000000), g1, g2, ?_, f1, ?_, f2⟩
  · rw [← r1]
    unfold Trips_turningBack
    rw [if_pos c2, c3, e2, e3, c4, c5, sb]
    have ab : abI ((c : Int) - a) = ((if c ≤ a then a - c else c - a : Nat) : Int) := by
      clear c2 c3 c4 c5
      unfold abI
      rw [nw_id (by omega) (by omega)]
      split <;> split <;> omega
    rw [ab]
    rfl
  · rw [← r2]
    unfold M_turningBack
    have q2 : g1 150 k = a := by rw [f1 150 k rfl]; exact e5
    have q3 : g1 151 k = c := by rw [f1 151 k rfl]; exact e6
    rw [if_pos c2, c3, q2, q3, c4, c5, sb]
    have : (if (c : Int) ≤ a then (-1 : Int) else 1) = (if c ≤ a then -1 else 1) := by clear c2 c3 c4 c5; split <;> split <;> omega
    rw [this]
    rfl
end
section
/-! plain programs: refunds -/
theorem nw_nat_ne {n : Nat} (h : (n : Int) < 100) : ¬ nw (n : Int) = -1 := by rw [nw_id (by omega) (by omega)]; omega
/-- days begun of being late, seven at most -/
def dyF (late : Int) : Int := if (late + 1439) / 1440 ≤ 7 then (late + 1439) / 1440 else 7
abbrev SCR : Reg := [(5, 7), (5, 8), (47, 0), (27, 0), (28, 0), (147, 0), (148, 0), (117, 49), (117, 101)]
theorem sm_refund {k : Nat} {g : AG} (T : JT g) (hf : JFlag g) (hk : (k : Int) < g 7 8) : ∃ v g1 g2, Trips_refund k g = some (v, g1) ∧ FR [(5, 7), (5, 8), (47, 0), (27, 0), (28, 0)] g g1 ∧ M_refund k g1 = some (v, g2) ∧ FR [(147, 0), (148, 0), (117, 49), (117, 101)] g1 g2 := by
  obtain ⟨b, a, c, e1, e2, e3, e4, e5, e6, e7, e8, hb, hb2, ha, hc, ht, hd, hta, hr, hk20⟩ := T.row hk
  have T0 := T
  obtain ⟨V, ⟨hBR, bv, bs⟩, Tr⟩ := T
  have lr := ltM_rng T0 hk
  have vb := bv b hb
  obtain ⟨g1, r1, f1⟩ := X_lateBy_s (k := k) (hd := 1) T0 hk (Or.inr rfl)
  rw [if_pos rfl] at r1
  have T1 := T0.fr f1 rfl rfl rfl
  -- the reference, from a state that differs by the class's scratch
  have refL : ∀ G : AG, FR [(5, 7), (5, 8), (47, 0), (27, 0), (28, 0)] g G → ∃ G', M_lateOf k G = some (ltM g k, G') ∧ FR WM G G' := by
    intro G f
    obtain ⟨G', q1, q2⟩ := M_lateOf_s (k := k) (T0.fr f rfl rfl rfl) (by unfold JFlag; rw [f 117 47 rfl]; exact hf) (by rw [f 7 8 rfl]; exact hk)
    rw [ltM_fr f rfl rfl] at q1
    exact ⟨G', q1, q2⟩
  have k2 : 0 ≤ nw (k : Int) ∧ nw (k : Int) < 20 := by rw [nw_id (by omega) (by omega)]; omega
  have k3 : ix (k : Int) = k := by clear k2; rw [ix_id (by omega) (by omega), Int.toNat_natCast]
  by_cases z : ltM g k = 0
  · obtain ⟨G', q1, q2⟩ := refL g1 (f1.mo rfl)
    rw [z] at r1 q1
    refine ⟨0, g1, G', ?_, f1.mo rfl, ?_, q2.mo rfl⟩
    · unfold Trips_refund
      rw [r1, sb, nw_0, if_pos rfl]
    · unfold M_refund
      rw [q1, sb, nw_0, if_pos rfl]
  · have zl : ¬ nw (ltM g k) = 0 := by clear k2 k3; rw [nw_id (by omega) (by omega)]; exact z
    -- away, week
    have aw01 : (if a = c then (0 : Int) else 1) = 0 ∨ (if a = c then (0 : Int) else 1) = 1 := by split <;> simp
    have wk9 : 0 ≤ g 79 k / 1440 / 7 ∧ g 79 k / 1440 / 7 ≤ 9 := by clear k2 k3 zl; omega
    have awE : (if nw (a : Int) = nw (c : Int) then (0 : Int) else 1) = (if a = c then (0 : Int) else 1) := by
      have n1 : nw (a : Int) = a := by clear k2 k3 zl; exact nw_id (by omega) (by omega)
      have n2 : nw (c : Int) = c := by clear k2 k3 zl n1; exact nw_id (by omega) (by omega)
      rw [n1, n2]
      clear n1 n2 k2 k3 zl
      split <;> split <;> omega
    have wkE : (nw ((nw (g 79 k)).tdiv 1440)).tdiv 7 = g 79 k / 1440 / 7 := by
      clear k2 k3 zl
      rw [nw_id (a := g 79 k) (by omega) (by omega), tdE (a := g 79 k) (by omega), nw_id (a := g 79 k / 1440) (by omega) (by omega), tdE (a := g 79 k / 1440) (by omega)]
    have dyM : (if nw ((nw (ltM g k + 1439)).tdiv 1440) ≤ 7 then (nw (ltM g k + 1439)).tdiv 1440 else 7) = dyF (ltM g k) := by
      clear k2 k3 zl awE wkE
      generalize ltM g k = L at lr ⊢
      unfold dyF
      rw [nw_id (a := L + 1439) (by omega) (by omega), tdE (a := L + 1439) (by omega), nw_id (a := (L + 1439) / 1440) (by omega) (by omega)]
    have dyX : mnI 7 ((nw (ltM g k + 1440 - 1)).tdiv 1440) = dyF (ltM g k) := by
      clear k2 k3 zl awE wkE dyM
      generalize ltM g k = L at lr ⊢
      unfold dyF
      rw [nw_id (a := L + 1440 - 1) (by omega) (by omega), tdE (a := L + 1440 - 1) (by omega), mnI_s (by decide) (by decide) (by omega) (by omega), show L + 1440 - 1 = L + 1439 by omega]
      split <;> omega
    have hBR1 : JBoR g1 := T1.2.1.1
    obtain ⟨g2, r2, f2, a2⟩ := X_priceLine_s (b := b) (wk := g 79 k / 1440 / 7) (aw := if a = c then 0 else 1) (g := g1) hb aw01 T1.1.2.1
    rw [f1 48 b rfl, f1 49 b rfl] at r2 a2
    have s1 : ∀ W' : Reg, ∀ G : AG, FR W' g G → djR [(2, 4), (128, 0), (132, 0), (133, 0), (134, 0)] W' = true → ∀ fc, srvG G fc 2 (G 2 3).toNat 0 = srvG g fc 2 (g 2 3).toNat 0 := by
      intro W' G f d fc
      have q := f.cg d
      unfold srvG
      rw [q 2 3 rfl, funext fun i => q 128 i rfl, funext fun i => q 132 i rfl, funext fun i => q 133 i rfl, funext fun i => q 134 i rfl]
    rw [s1 _ g1 f1 rfl] at r2
    have preX : ∀ (l : Int) (G : AG), Boats_priceLine b (g 79 k / 1440 / 7) (if a = c then 0 else 1) g1 = some (l, G) → Trips_refund k g = (if nw l = -1 then some (-1000000, G) else Rules_valueOf l G >>= fun r10 => some ((nl (nw r10.1 * nw (dyF (ltM g k)))).tdiv 7, r10.2)) := by
      intro l G hl
      have p1 : g1 77 k = a := by rw [f1 77 k rfl]; exact e2
      have p2 : g1 78 k = c := by rw [f1 78 k rfl]; exact e3
      have p3 : g1 76 k = b := by rw [f1 76 k rfl]; exact e1
      have p4 : g1 79 k = g 79 k := f1 79 k rfl
      unfold Trips_refund
      rw [r1, sb, if_neg zl, if_pos k2, k3]
      have hT : (if nw (g1 77 k) = nw (g1 78 k) then (0 : Int) else 1) = (if a = c then (0 : Int) else 1) := by rw [← awE, ← p1, ← p2]
      dsimp only
      rw [hT, sb, p3, p4, wkE, hl, sb]
      dsimp only
      rw [dyX]
    have preM : ∀ (G G1 : AG), FR [(5, 7), (5, 8), (47, 0), (27, 0), (28, 0)] g G → M_lateOf k G = some (ltM g k, G1) → FR WM G G1 → M_refund k G = (M_price b (g 79 k / 1440 / 7) (if a = c then 0 else 1) G1 >>= fun r7 => (if nw (r7.2 117 100) = 0 then some (-1000000, r7.2) else some (dyF (ltM g k)) >>= fun t10 => some ((nl (nw r7.1 * nw t10)).tdiv 7, r7.2)) >>= fun r13 => some (r13.1, r13.2)) := by
      intro G G1 fG hG fG1
      have p1 : G1 150 k = a := by rw [fG1 150 k rfl, fG 150 k rfl]; exact e5
      have p2 : G1 151 k = c := by rw [fG1 151 k rfl, fG 151 k rfl]; exact e6
      have p3 : G1 149 k = b := by rw [fG1 149 k rfl, fG 149 k rfl]; exact e4
      have p4 : G1 152 k = g 79 k := by rw [fG1 152 k rfl, fG 152 k rfl]; exact e7
      unfold M_refund
      rw [hG, sb, if_neg zl, if_pos k2, k3]
      have hT : (if nw (G1 150 k) = nw (G1 151 k) then (0 : Int) else 1) = (if a = c then (0 : Int) else 1) := by rw [← awE, ← p1, ← p2]
      dsimp only
      rw [hT, sb, p3, p4, wkE, dyM]
    have prM : ∀ (G G1 : AG), FR [(5, 7), (5, 8), (47, 0), (27, 0), (28, 0)] g G → FR WM G G1 → _ := fun (G G1 : AG) fG fG1 => M_price_s (b := b) (wk := g 79 k / 1440 / 7) (aw := if a = c then 0 else 1) (g := G1) (by
      have f : FR [(5, 7), (5, 8), (47, 0), (27, 0), (28, 0), (147, 0), (148, 0), (117, 49)] g G1 := (fG.mo rfl).tr (fG1.mo rfl)
      rw [f 6 7 rfl]; exact hb2) (by
      have f : FR [(5, 7), (5, 8), (47, 0), (27, 0), (28, 0), (147, 0), (148, 0), (117, 49)] g G1 := (fG.mo rfl).tr (fG1.mo rfl)
      unfold JBoR
      rw [f 6 7 rfl, f 117 12 rfl]; exact hBR) wk9 aw01 (by
      have f : FR [(5, 7), (5, 8), (47, 0), (27, 0), (28, 0), (147, 0), (148, 0), (117, 49)] g G1 := (fG.mo rfl).tr (fG1.mo rfl)
      exact V.2.1.cg (f.cg rfl))
    have prE : ∀ (G G1 : AG), FR [(5, 7), (5, 8), (47, 0), (27, 0), (28, 0)] g G → FR WM G G1 → G1 124 b = g 48 b ∧ G1 125 b = g 49 b ∧ G1 2 3 = g 2 3 ∧ G1 128 = g 128 ∧ G1 131 = g 131 ∧ G1 132 = g 132 ∧ G1 134 = g 134 ∧ (∀ fc, srvG G1 fc 2 (G1 2 3).toNat 0 = srvG g fc 2 (g 2 3).toNat 0) := by
      intro G G1 fG fG1
      have f : FR [(5, 7), (5, 8), (47, 0), (27, 0), (28, 0), (147, 0), (148, 0), (117, 49)] g G1 := (fG.mo rfl).tr (fG1.mo rfl)
      exact ⟨by rw [f 124 b rfl]; exact vb.1, by rw [f 125 b rfl]; exact vb.2.1, f 2 3 rfl, f.cell (fun _ => rfl), f.cell (fun _ => rfl), f.cell (fun _ => rfl), f.cell (fun _ => rfl), s1 _ G1 f rfl⟩
    by_cases y : srvG g (fcPrice (g 79 k / 1440 / 7) (g 48 b) (if a = c then 0 else 1) (g 49 b)) 2 (g 2 3).toNat 0 = -1
    · have fT : FR [(5, 7), (5, 8), (47, 0), (27, 0), (28, 0)] g g2 := (f1.mo rfl).tr (f2.mo rfl)
      obtain ⟨G1, q1, q2⟩ := refL g2 fT
      have pe := prE g2 G1 fT q2
      have pm := (prM g2 G1 fT q2).1
      rw [pe.1, pe.2.1, pe.2.2.2.2.2.2.2] at pm
      obtain ⟨G2, q3, q4, q5⟩ := pm y
      refine ⟨-1000000, g2, G2, ?_, fT, ?_, (q2.mo rfl).tr (q4.mo rfl)⟩
      · rw [y] at r2
        rw [preX _ _ r2, nw_m1, if_pos rfl]
      · rw [preM g2 G1 fT q1 q2, q3, sb]
        dsimp only
        rw [if_pos (by rw [q5, nw_0]), sb]
    · -- the line l serves
      obtain ⟨Ga, qa1, qa2⟩ := refL g Fr.rf
      have pea := prE g Ga Fr.rf qa2
      have pma := (prM g Ga Fr.rf qa2).2
      rw [pea.1, pea.2.1, pea.2.2.2.2.2.2.2, pea.2.2.1, pea.2.2.2.1, pea.2.2.2.2.1, pea.2.2.2.2.2.1, pea.2.2.2.2.2.2.1] at pma
      obtain ⟨l, v, _, w1, w2, w3, w4, _, _, _⟩ := pma y
      rw [w1] at r2
      have f12 : FR [(5, 7), (5, 8), (47, 0), (27, 0), (28, 0)] g g2 := (f1.mo rfl).tr (f2.mo rfl)
      obtain ⟨v', g3, r3, f3, hv'⟩ := (V.2.1.xrel.fr f12 rfl).val (fc := fcPrice (g 79 k / 1440 / 7) (g 48 b) (if a = c then 0 else 1) (g 49 b)) a2 (l := l) (by rw [f12 2 3 rfl]; exact w2) (by rw [w3]; exact Int.le_refl _)
      rw [w4] at hv'
      have hvv : v' = v := by
        have := Option.some.inj hv'
        simp at this
        exact this.symm
      subst hvv
      have fT : FR [(5, 7), (5, 8), (47, 0), (27, 0), (28, 0)] g g3 := f12.tr (f3.mo rfl)
      obtain ⟨G1, q1, q2⟩ := refL g3 fT
      have pe := prE g3 G1 fT q2
      have pm := (prM g3 G1 fT q2).2
      rw [pe.1, pe.2.1, pe.2.2.2.2.2.2.2, pe.2.2.1, pe.2.2.2.1, pe.2.2.2.2.1, pe.2.2.2.2.2.1, pe.2.2.2.2.2.2.1] at pm
      obtain ⟨l2, v2, G2, u1, u2, u3, u4, q3, q4, q5⟩ := pm y
      have hl : l2 = l := by
        rw [w1] at u1
        exact (Int.ofNat.inj u1).symm
      subst hl
      rw [w4] at u4
      have hv2 : v2 = v' := by
        have := Option.some.inj u4
        simp at this
        exact this.symm
      subst hv2
      refine ⟨(nl (nw v2 * nw (dyF (ltM g k)))).tdiv 7, g3, G2, ?_, fT, ?_, (q2.mo rfl).tr (q4.mo rfl)⟩
      · have n1 : ¬ nw (l2 : Int) = -1 := nw_nat_ne (Int.lt_of_lt_of_le w2 (Int.le_trans V.2.1.1.2.2 (by decide)))
        rw [preX _ _ r2, if_neg n1, r3, sb]
      · rw [preM g3 G1 fT q1 q2, q3, sb]
        dsimp only
        rw [if_neg (by rw [q5, nw_1]; decide), sb, sb]
theorem sm_back {x1 x2 : Int} {g : AG} (h1 : I32 x1) (h2 : I32 x2) (T : JT g) (hf : JFlag g) :
    ∃ r1 r2, X_back x1 x2 g = some r1 ∧ M_back x1 x2 r1.2 = some r2 ∧ nw r1.1 = nw r2.1 ∧ FR SCR g r2.2 := by
  unfold I32 at *
  have t1 := T.2.2.1
  by_cases h : 0 ≤ x1 ∧ x1 < g 7 8
  · obtain ⟨k, rfl⟩ := natOf h.1
    by_cases e0 : x2 = 0
    · subst e0
      obtain ⟨v, g1, g2, r1, f1, r2, f2⟩ := sm_turning T hf (k := k) (by omega)
      have q2 : g1 117 49 = g 7 8 := by rw [f1 117 49 rfl]; exact t1.1
      refine ⟨(v, g1), (v, g2), ?_, ?_, rfl, (f1.mo rfl).tr (f2.mo rfl)⟩
      · unfold X_back
        simp (disch := omega) only [nw_id, ix_id, sb, if_true, if_false, if_pos, if_neg, true_and, and_true, false_and, and_false, and_self, within0, r1]
      · unfold M_back
        simp (disch := omega) only [nw_id, ix_id, sb, if_true, if_false, if_pos, if_neg, true_and, and_true, false_and, and_false, and_self, isIn0, q2, r2]
    · by_cases e1 : x2 = 1
      · subst e1
        obtain ⟨v, g1, g2, r1, f1, r2, f2⟩ := sm_refund T hf (k := k) (by omega)
        have q2 : g1 117 49 = g 7 8 := by rw [f1 117 49 rfl]; exact t1.1
        refine ⟨(v, g1), (v, g2), ?_, ?_, rfl, (f1.mo rfl).tr (f2.mo rfl)⟩
        · unfold X_back
          simp (disch := omega) only [nw_id, ix_id, sb, if_true, if_false, if_pos, if_neg, true_and, and_true, false_and, and_false, and_self, within0, r1]
        · unfold M_back
          simp (disch := omega) only [nw_id, ix_id, sb, if_true, if_false, if_pos, if_neg, true_and, and_true, false_and, and_false, and_self, isIn0, q2, r2]
      · refine ⟨(-1000000, g), (-1000000, g), ?_, ?_, rfl, Fr.rf⟩
        · unfold X_back
          simp (disch := omega) only [nw_id, ix_id, sb, if_true, if_false, if_pos, if_neg, true_and, and_true, false_and, and_false, and_self, within0]
        · unfold M_back
          simp (disch := omega) only [nw_id, ix_id, sb, if_true, if_false, if_pos, if_neg, true_and, and_true, false_and, and_false, and_self, isIn0, t1.1]
  · refine ⟨(-1000000, g), (-1000000, g), ?_, ?_, rfl, Fr.rf⟩
    · unfold X_back
      simp (disch := omega) only [nw_id, ix_id, sb, if_true, if_false, if_pos, if_neg, true_and, and_true, false_and, and_false, and_self, within0]
    · unfold M_back
      simp (disch := omega) only [nw_id, ix_id, sb, if_true, if_false, if_pos, if_neg, true_and, and_true, false_and, and_false, and_self, isIn0, t1.1]
end
section
/-! plain programs: could, whose -/
/-- the k-th place that is known of a boat: its home, then its logs -/
def plF (g : AG) (b k : Nat) : Nat := if k = 0 then (g 50 b).toNat else (g (53 + b) (k - 1)).toNat
def tmF (g : AG) (b k : Nat) : Int := if k = 0 then 0 else g (64 + b) (k - 1)
def btF (g : AG) (b p : Nat) (a c : Int) (k : Nat) : Bool :=
  let there := ldM g (g 51 b) (plF g b k) p (tmF g b k)
  let t := max there a
  if there = -1 then false else if c < t then false else if (k : Int) = g 74 b then true
  else if g (64 + b) k ≤ t then false
  else decide (¬ ldM g (g 51 b) p (g (53 + b) k).toNat t = -1 ∧ ldM g (g 51 b) p (g (53 + b) k).toNat t ≤ g (64 + b) k)
def chF (g : AG) (b p : Nat) (a c : Int) : Nat → Nat → Bool
  | 0, _ => false
  | n + 1, k => if btF g b p a c k = true then true else chF g b p a c n (k + 1)
theorem btF_fr {W : Reg} {g g' : AG} {b : Nat} (hb : b < 10) (f : FR W g g') (d : djR [(117, 11), (117, 12), (121, 0), (122, 0), (123, 0), (2, 4), (128, 0), (129, 0), (130, 0), (132, 0), (133, 0), (134, 0), (142, 0), (144, 0), (118, 0), (119, 0)] W = true) (d2 : djR ((50, 0) :: (51, 0) :: RLog) W = true) : btF g' b = btF g b := by
  have c := f.cg d2
  have c1 : g' 50 b = g 50 b := c 50 b rfl
  have c2 : g' 51 b = g 51 b := c 51 b rfl
  have c3 : g' 74 b = g 74 b := c 74 b rfl
  have up' : ∀ k i, inR RLog k i = true → inR ((50, 0) :: (51, 0) :: RLog) k i = true := by
    intro k i h
    show (inP (50, 0) k i || (inP (51, 0) k i || inR RLog k i)) = true
    rw [h]; simp
  have c4 : g' (53 + b) = g (53 + b) := funext fun i => c _ i (up' _ i (RLog_at b hb i).1)
  have c5 : g' (64 + b) = g (64 + b) := funext fun i => c _ i (up' _ i (RLog_at b hb i).2)
  funext p a c k
  unfold btF plF tmF
  rw [ldM_fr f d, c1, c2, c3, c4, c5]
theorem chF_fr {W : Reg} {g g' : AG} {b : Nat} (hb : b < 10) (f : FR W g g') (d : djR [(117, 11), (117, 12), (121, 0), (122, 0), (123, 0), (2, 4), (128, 0), (129, 0), (130, 0), (132, 0), (133, 0), (134, 0), (142, 0), (144, 0), (118, 0), (119, 0)] W = true) (d2 : djR ((50, 0) :: (51, 0) :: RLog) W = true) : chF g' b = chF g b := by
  have e := btF_fr hb f d d2
  funext p a c n
  induction n with
  | zero => rfl
  | succ n ih =>
    funext k
    unfold chF
    rw [e, ih]
def JL (g : AG) : Prop := JV g ∧ JBoat g ∧ JLog g
theorem JL.fr {W : Reg} {g g' : AG} (h : JL g) (f : FR W g g') (d : djR (RWay ++ (RRule ++ (RHour ++ (RStop ++ RWat)))) W = true) (d2 : djR RBoat W = true) (d3 : djR RLog W = true) : JL g' := ⟨h.1.fr f d, h.2.1.cg (f.cg d2), h.2.2.cg (f.cg d3)⟩
theorem JL.row {g : AG} (h : JL g) {b : Nat} (hb : (b : Int) < g 6 7) : b < 10 ∧ (∃ hm : Nat, g 50 b = hm ∧ hm ≤ 15) ∧ g 126 b = g 50 b ∧ g 127 b = g 51 b ∧ (0 ≤ g 51 b ∧ g 51 b ≤ 60) ∧ (∃ n : Nat, g 74 b = n ∧ n ≤ 10) ∧ g 155 b = g 74 b ∧ ∀ j : Nat, (j : Int) < g 74 b → (∃ q : Nat, g (53 + b) j = q ∧ q ≤ 15) ∧ (0 ≤ g (64 + b) j ∧ g (64 + b) j ≤ 20159) ∧ g 156 (10 * b + j) = g (53 + b) j ∧ g 157 (10 * b + j) = g (64 + b) j := by
  obtain ⟨V, ⟨⟨b1, b2, b3⟩, bv, bs⟩, l1, l2⟩ := h
  have hb10 : b < 10 := by omega
  have vb := bv b hb10
  have sb' := bs b hb
  have lb := l1 b hb10
  refine ⟨hb10, ?_, vb.2.2.1, vb.2.2.2, sb'.2.2.2, ?_, lb.1, fun j hj => ?_⟩
  · obtain ⟨q, hq⟩ := natOf sb'.2.2.1.1
    exact ⟨q, hq, by omega⟩
  · obtain ⟨q, hq⟩ := natOf lb.2.1
    exact ⟨q, hq, by omega⟩
  · have r := l2 b j hb10 hj
    obtain ⟨q, hq⟩ := natOf r.2.2.1.1
    exact ⟨⟨q, hq, by omega⟩, r.2.2.2, r.1, r.2.1⟩
theorem JL.place {g : AG} (h : JL g) {b k : Nat} (hb : (b : Int) < g 6 7) (hk : (k : Int) ≤ g 74 b) : plF g b k ≤ 15 ∧ (0 ≤ tmF g b k ∧ tmF g b k ≤ 20159) := by
  obtain ⟨hb10, ⟨hm, e1, e2⟩, _, _, _, ⟨n, e3, e4⟩, _, hj⟩ := h.row hb
  unfold plF tmF
  by_cases z : k = 0
  · rw [if_pos z, if_pos z, e1]; omega
  · rw [if_neg z, if_neg z]
    obtain ⟨⟨q, q1, q2⟩, r, _⟩ := hj (k - 1) (by omega)
    rw [q1]; omega
theorem WV_log : ∀ b : Nat, b < 10 → ∀ k, inR WV (53 + b) k = false ∧ inR WV (64 + b) k = false := by
  intro b hb k
  have : b = 0 ∨ b = 1 ∨ b = 2 ∨ b = 3 ∨ b = 4 ∨ b = 5 ∨ b = 6 ∨ b = 7 ∨ b = 8 ∨ b = 9 := by omega
  rcases this with e | e | e | e | e | e | e | e | e | e <;> subst e <;> exact ⟨rfl, rfl⟩
theorem X_placeOf_s {b k : Nat} {g : AG} (L : JL g) (hb : (b : Int) < g 6 7) (hk : (k : Int) ≤ g 74 b) : Boats_placeOf b ((k : Int) - 1) g = some ((plF g b k : Nat) : Int) := by
  obtain ⟨hb10, ⟨hm, e1, e2⟩, e3, e4, hr, ⟨n, e5, e6⟩, e7, hj⟩ := L.row hb
  unfold Boats_placeOf plF
  by_cases z : k = 0
  · subst z
    simp (disch := omega) only [nw_id, ix_id, sb, if_true, if_false, if_pos, if_neg, true_and, and_true, false_and, and_false, and_self]
    rw [Int.toNat_natCast, e1, Int.toNat_natCast]
  · obtain ⟨⟨q, q1, q2⟩, _, _⟩ := hj (k - 1) (by omega)
    simp (disch := omega) only [nw_id, ix_id, sb, if_true, if_false, if_pos, if_neg, true_and, and_true, false_and, and_false, and_self]
    rw [Int.toNat_natCast, show ((k : Int) - 1).toNat = k - 1 by omega, q1, Int.toNat_natCast]
theorem X_timeOf_s {b k : Nat} {g : AG} (L : JL g) (hb : (b : Int) < g 6 7) (hk : (k : Int) ≤ g 74 b) : Boats_timeOf b ((k : Int) - 1) g = some (tmF g b k) := by
  obtain ⟨hb10, ⟨hm, e1, e2⟩, e3, e4, hr, ⟨n, e5, e6⟩, e7, hj⟩ := L.row hb
  unfold Boats_timeOf tmF
  by_cases z : k = 0
  · subst z
    simp (disch := omega) only [nw_id, ix_id, sb, if_true, if_false, if_pos, if_neg, true_and, and_true, false_and, and_false, and_self]
  · simp (disch := omega) only [nw_id, ix_id, sb, if_true, if_false, if_pos, if_neg, true_and, and_true, false_and, and_false, and_self]
    rw [Int.toNat_natCast, show ((k : Int) - 1).toNat = k - 1 by omega]
theorem X_between_s {b p k : Nat} {a c : Int} {g : AG} (L : JL g) (hb : (b : Int) < g 6 7) (hp : p ≤ 15) (ha : 0 ≤ a ∧ a ≤ 20159) (hc : 0 ≤ c ∧ c ≤ 20159) (hk : (k : Int) ≤ g 74 b) : ∃ g', Boats_canBetween b ((k : Int) - 1) p a c g = some (if btF g b p a c k = true then 1 else 0, g') ∧ FR WV g g' := by
  have ePl := X_placeOf_s L hb hk
  have eTm := X_timeOf_s L hb hk
  obtain ⟨hb10, ⟨hm, e1, e2⟩, e3, e4, hr, ⟨n, e5, e6⟩, e7, hj⟩ := L.row hb
  have pl := L.place hb hk
  obtain ⟨g1, r1, f1⟩ := X_comesTo1 (a := plF g b k) (c := p) (ta := g 51 b) (t := tmF g b k) L.1 pl.1 hp hr (Or.inr pl.2)
  have lt := ldM_tm (g := g) (a := plF g b k) (c := p) (ta := g 51 b) (t := tmF g b k) L.1 pl.1 hp hr (Or.inr pl.2)
  have key : ∀ L0 : Int, TmOk L0 → Voyage_comesTo (g 51 b) (plF g b k) p (tmF g b k) 1 g = some (L0, g1) → ∃ g', Boats_canBetween b ((k : Int) - 1) p a c g = some (if (if L0 = -1 then false else if c < max L0 a then false else if (k : Int) = g 74 b then true else if g (64 + b) k ≤ max L0 a then false else decide (¬ ldM g (g 51 b) p (g (53 + b) k).toNat (max L0 a) = -1 ∧ ldM g (g 51 b) p (g (53 + b) k).toNat (max L0 a) ≤ g (64 + b) k)) = true then 1 else 0, g') ∧ FR WV g g' := by
    intro L0 lt0 hL
    clear r1 lt pl
    have k1 : ((k : Int) - 1) + 1 = k := by omega
    have hk11 : (k : Int) ≤ 10 := by omega
    clear e1 e2 e3 e4 e7
    obtain ⟨T, hT⟩ : ∃ T, T = max L0 a := ⟨_, rfl⟩
    have lt1 : L0 = -1 ∨ (0 ≤ L0 ∧ L0 ≤ 20159) := lt0
    clear lt0
    have hT1 : 0 ≤ T ∧ T ≤ 20159 := by omega
    rw [← hT]
    -- the numbers
    have m1 : nw L0 = L0 := by clear hT; exact nw_id (by omega) (by omega)
    have m2 : nw T = T := by clear m1 hT; exact nw_id (by omega) (by omega)
    have m3 : nw c = c := by clear m1 m2 hT; exact nw_id (by omega) (by omega)
    have m4 : 0 ≤ nw (b : Int) ∧ nw (b : Int) < 10 := by clear m1 m2 m3 hT; rw [nw_id (by omega) (by omega)]; omega
    have m5 : ix (b : Int) = b := by clear m1 m2 m3 m4 hT; rw [ix_id (by omega) (by omega), Int.toNat_natCast]
    have m6 : nw (k : Int) = k := by clear m1 m2 m3 m4 m5 hT; exact nw_id (by omega) (by omega)
    have m7 : nw (g 74 b) = g 74 b := by clear m1 m2 m3 m4 m5 m6 hT; exact nw_id (by omega) (by omega)
    have mm : mxI L0 a = T := by clear m1 m2 m3 m4 m5 m6 m7; rw [mxI_s (by omega) (by omega) (by omega) (by omega), ← hT]
    unfold Boats_canBetween
    by_cases last : (k : Int) = g 74 b
    · have p1 : ¬ (k : Int) < g 74 b := by rw [last]; exact Int.lt_irrefl _
      have p2 : T < 20160 := by clear m1 m2 m3 m4 m5 m6 m7 mm hT; omega
      have n2 : nw 20160 = 20160 := nw_id (by decide) (by decide)
      rw [if_pos m4, m5, k1]
      simp only [m6, m7]
      rw [if_neg p1, sb, nw_1, if_neg (by decide), sb]
      dsimp only
      rw [ePl, sb, eTm, sb, hL, sb]
      simp only [m1, m2, m3, n2, mm]
      by_cases d1 : L0 = -1
      · simp only [if_pos d1]
        exact ⟨g1, by simp, f1⟩
      · simp only [if_neg d1]
        by_cases d3 : c < T
        · simp only [if_pos d3]
          exact ⟨g1, by simp, f1⟩
        · simp only [if_neg d3, if_pos p2, if_pos last]
          exact ⟨g1, by simp, f1⟩
    · have p1 : (k : Int) < g 74 b := by clear m1 m2 m3 m4 m5 m6 m7 mm hT; omega
      obtain ⟨⟨q, q1, q2⟩, qt, _⟩ := hj k p1
      have m8 : 0 ≤ nw (k : Int) ∧ nw (k : Int) < 10 := by rw [m6]; clear m1 m2 m3 m4 m5 m6 m7 mm hT; omega
      have m9 : ix (k : Int) = k := by clear m1 m2 m3 m4 m5 m6 m7 m8 mm hT; rw [ix_id (by omega) (by omega), Int.toNat_natCast]
      have n2 : nw (g (64 + b) k) = g (64 + b) k := by clear m1 m2 m3 m4 m5 m6 m7 m8 m9 mm hT; exact nw_id (by omega) (by omega)
      rw [if_pos m4, m5, k1]
      simp only [m6, m7]
      rw [if_pos p1, sb, nw_0, if_pos rfl, if_pos (by rw [m6] at m8; exact m8), m9, sb]
      dsimp only
      rw [ePl, sb, eTm, sb, hL, sb]
      simp only [m1, m2, m3, n2, mm]
      by_cases d1 : L0 = -1
      · simp only [if_pos d1]
        exact ⟨g1, by simp, f1⟩
      · simp only [if_neg d1]
        by_cases d3 : c < T
        · simp only [if_pos d3]
          exact ⟨g1, by simp, f1⟩
        · simp only [if_neg d3, if_neg last]
          by_cases d4 : T < g (64 + b) k
          · have L1 := L.fr f1 rfl rfl rfl
            obtain ⟨g2, r2, f2⟩ := X_comesTo1 (a := p) (c := q) (ta := g 51 b) (t := T) (g := g1) L1.1 hp q2 hr (Or.inr hT1)
            have lt2 := ldM_tm (g := g) (a := p) (c := q) (ta := g 51 b) (t := T) L.1 hp q2 hr (Or.inr hT1)
            rw [ldM_fr f1 rfl] at r2
            have q3 : g1 51 b = g 51 b := f1 51 b rfl
            have q4 : g1 (53 + b) k = q := by rw [f1 (53 + b) k (WV_log b hb10 k).1]; exact q1
            rw [q1, Int.toNat_natCast]
            have d4' : ¬ g (64 + b) k ≤ T := by clear m1 m2 m3 m4 m5 m6 m7 m8 m9 n2 mm hT; omega
            simp only [if_pos d4, if_neg d4']
            rw [if_pos trivial, q3, q4, r2, sb, sb]
            dsimp only
            generalize ldM g (g 51 b) p q T = M at lt2 ⊢
            have lt3 : M = -1 ∨ (0 ≤ M ∧ M ≤ 20159) := lt2
            have n3 : nw M = M := by clear m1 m2 m3 m4 m5 m6 m7 m8 m9 n2 mm hT lt2 r2; exact nw_id (by omega) (by omega)
            simp only [n3, n2]
            refine ⟨g2, ?_, f1.tr f2⟩
            clear m1 m2 m3 m4 m5 m6 m7 m8 m9 n2 n3 mm hT lt2 r2
            by_cases d5 : M = -1
            · simp [d5]; (try omega)
            · by_cases d6 : g (64 + b) k < M
              · simp [d5, d6]; (try omega)
              · simp [d5, d6]; (try omega)
          · have d4' : g (64 + b) k ≤ T := by clear m1 m2 m3 m4 m5 m6 m7 m8 m9 n2 mm hT; omega
            simp only [if_neg d4, if_pos d4']
            exact ⟨g1, by simp, f1⟩
  exact key _ lt r1
theorem M_between_s {b p k : Nat} {a c : Int} {g : AG} (L : JL g) (hf : JFlag g) (hb : (b : Int) < g 6 7) (hp : p ≤ 15) (ha : 0 ≤ a ∧ a ≤ 20159) (hc : 0 ≤ c ∧ c ≤ 20159) (hk : (k : Int) ≤ g 74 b) : ∃ g', M_between b p a c ((k : Int) - 1) g = some (if btF g b p a c k = true then 1 else 0, g') ∧ FR WM g g' := by
  obtain ⟨hb10, ⟨hm, e1, e2⟩, e3, e4, hr, ⟨n, e5, e6⟩, e7, hj⟩ := L.row hb
  have pl := L.place hb hk
  obtain ⟨g1, r1, f1⟩ := M_led1 (b := b) (a := plF g b k) (c := p) (t := tmF g b k) (g := g) L.1 hf hb10 pl.1 hp (by rw [e4]; exact hr) (Or.inr pl.2)
  rw [e4] at r1
  have lt := ldM_tm (g := g) (a := plF g b k) (c := p) (ta := g 51 b) (t := tmF g b k) L.1 pl.1 hp hr (Or.inr pl.2)
  have k1 : ((k : Int) - 1) + 1 = k := by omega
  have m4 : 0 ≤ nw (b : Int) ∧ nw (b : Int) < 10 := by rw [nw_id (by omega) (by omega)]; omega
  have m5 : ix (b : Int) = b := by clear m4; rw [ix_id (by omega) (by omega), Int.toNat_natCast]
  -- the head of it
  have head : M_between b p a c ((k : Int) - 1) g = (M_led b (plF g b k : Nat) p (tmF g b k) g >>= fun r10 => (if nw r10.1 = (-1) then some (0, r10.2) else (some ((if nw r10.1 ≤ nw a then a else r10.1)) >>= fun t13 => if 0 ≤ nw (b : Int) ∧ nw (b : Int) < 10 then (some ((if nw (((k : Int) - 1) + 1) = nw (r10.2 155 (ix b)) then 1 else 0)) >>= fun t16 => (if nw c < nw t13 then some (0, r10.2) else (if nw t16 = 0 then if 0 ≤ nw (((10 * (b : Int)) + ((k : Int) - 1)) + 1) ∧ nw (((10 * (b : Int)) + ((k : Int) - 1)) + 1) < 100 then (if nw t13 < nw (r10.2 157 (ix (((10 * (b : Int)) + ((k : Int) - 1)) + 1))) then M_between_b b p ((k : Int) - 1) t13 t16 r10.2 else some (0, r10.2)) else none else M_between_b b p ((k : Int) - 1) t13 t16 r10.2))) else none))) := by
    unfold M_between plF tmF
    by_cases z : k = 0
    · subst z
      have z1 : ((0 : Nat) : Int) - 1 = -1 := by decide
      rw [z1, nw_m1, if_pos rfl, sb, if_pos rfl, if_pos m4, sb, if_pos rfl, if_pos rfl]
      dsimp only
      rw [m5, e3, e1, Int.toNat_natCast]
    · obtain ⟨⟨q, q1, q2⟩, qt, q3, q4⟩ := hj (k - 1) (by clear m4 m5; omega)
      have z1 : ¬ nw ((k : Int) - 1) = -1 := by clear m4 m5; rw [nw_id (by omega) (by omega)]; omega
      have z2 : 0 ≤ nw (10 * (b : Int) + ((k : Int) - 1)) ∧ nw (10 * (b : Int) + ((k : Int) - 1)) < 100 := by clear m4 m5 z1; rw [nw_id (by omega) (by omega)]; omega
      have z3 : ix (10 * (b : Int) + ((k : Int) - 1)) = 10 * b + (k - 1) := by clear m4 m5 z1 z2; rw [ix_id (by omega) (by omega)]; omega
      rw [if_neg z1, if_pos z2, sb, if_neg z1, if_pos z2, sb, z3, if_neg z, if_neg z]
      dsimp only
      rw [q3, q4, q1, Int.toNat_natCast]
  rw [head, r1, sb]
  dsimp only
  have h155 : g1 155 b = g 74 b := by rw [f1 155 b rfl, e7]
  simp only [sb, if_pos m4, m5, h155, k1]
  clear head r1
  have hk11 : (k : Int) ≤ 10 := by clear m4 m5; omega
  unfold btF
  dsimp only
  generalize ldM g (g 51 b) (plF g b k) p (tmF g b k) = L0 at lt ⊢
  have lt1 : L0 = -1 ∨ (0 ≤ L0 ∧ L0 ≤ 20159) := lt
  clear lt e1 e2 pl
  show ∃ g', _ = some (if (if L0 = -1 then false else if c < max L0 a then false else if (k : Int) = g 74 b then true else if g (64 + b) k ≤ max L0 a then false else decide (¬ ldM g (g 51 b) p (g (53 + b) k).toNat (max L0 a) = -1 ∧ ldM g (g 51 b) p (g (53 + b) k).toNat (max L0 a) ≤ g (64 + b) k)) = true then 1 else 0, g') ∧ _
  generalize hT : max L0 a = T
  have hT1 : 0 ≤ T ∧ T ≤ 20159 := by clear m4 m5; omega
  have hT2 : (if L0 ≤ a then a else L0) = T := by clear m4 m5; split <;> omega
  clear hT
  have m1 : nw L0 = L0 := by clear m4 m5 hT2; exact nw_id (by omega) (by omega)
  have m0 : nw a = a := by clear m4 m5 hT2 m1; exact nw_id (by omega) (by omega)
  have m2 : nw T = T := by clear m4 m5 hT2 m1 m0; exact nw_id (by omega) (by omega)
  have m3 : nw c = c := by clear m4 m5 hT2 m1 m0 m2; exact nw_id (by omega) (by omega)
  have m6 : nw (k : Int) = k := by clear m4 m5 hT2 m1 m0 m2 m3; exact nw_id (by omega) (by omega)
  have m7 : nw (g 74 b) = g 74 b := by clear m4 m5 hT2 m1 m0 m2 m3 m6; exact nw_id (by omega) (by omega)
  have z2 : (k : Int) < g 74 b → 0 ≤ nw (10 * (b : Int) + ((k : Int) - 1) + 1) ∧ nw (10 * (b : Int) + ((k : Int) - 1) + 1) < 100 := by clear m4 m5 hT2 m1 m0 m2 m3 m6 m7; intro h; rw [nw_id (by omega) (by omega)]; omega
  have z3 : ix (10 * (b : Int) + ((k : Int) - 1) + 1) = 10 * b + k := by clear m4 m5 hT2 m1 m0 m2 m3 m6 m7 z2; rw [ix_id (by omega) (by omega)]; omega
  simp only [m1, m0, hT2, sb, m2, m3, m6, m7]
  by_cases d1 : L0 = -1
  · simp only [if_pos d1]
    exact ⟨g1, by simp, f1⟩
  · simp only [if_neg d1]
    by_cases d3 : c < T
    · simp only [if_pos d3]
      exact ⟨g1, by simp, f1⟩
    · simp only [if_neg d3]
      by_cases last : (k : Int) = g 74 b
      · simp only [if_pos last]
        rw [nw_1, if_neg (by decide), M_between_b, nw_1, if_neg (by decide)]
        exact ⟨g1, by simp, f1⟩
      · have p1 : (k : Int) < g 74 b := by clear m4 m5 hT2 m1 m0 m2 m3 m6 m7 z2 z3; omega
        obtain ⟨⟨q, q1, q2⟩, qt, q3, q4⟩ := hj k p1
        have n2 : nw (g (64 + b) k) = g (64 + b) k := by clear m4 m5 hT2 m1 m0 m2 m3 m6 m7 z2 z3; exact nw_id (by omega) (by omega)
        have h157 : g1 157 (10 * b + k) = g (64 + b) k := by rw [f1 157 _ rfl, q4]
        have h156 : g1 156 (10 * b + k) = q := by rw [f1 156 _ rfl, q3, q1]
        simp only [if_neg last]
        rw [nw_0, if_pos rfl, if_pos (z2 p1), z3, h157]
        simp only [n2]
        by_cases d4 : T < g (64 + b) k
        · have d4' : ¬ g (64 + b) k ≤ T := by clear m4 m5 hT2 m1 m0 m2 m3 m6 m7 z2 z3 n2; omega
          obtain ⟨g2, r2, f2⟩ := M_led1 (b := b) (a := p) (c := q) (t := T) (g := g1) (L.1.fr f1 rfl) (by unfold JFlag; rw [f1 117 47 rfl]; exact hf) hb10 hp q2 (by rw [f1 127 b rfl, e4]; exact hr) (Or.inr hT1)
          have lt2 := ldM_tm (g := g) (a := p) (c := q) (ta := g 51 b) (t := T) L.1 hp q2 hr (Or.inr hT1)
          rw [ldM_fr f1 rfl, f1 127 b rfl, e4] at r2
          have h157' : g2 157 (10 * b + k) = g (64 + b) k := by rw [f2 157 _ rfl, h157]
          rw [q1, Int.toNat_natCast]
          simp only [if_pos d4, if_neg d4']
          rw [M_between_b, nw_0, if_pos rfl, if_pos (z2 p1), z3, h156, r2, sb]
          simp only [h157']
          generalize ldM g (g 51 b) p q T = M at lt2 ⊢
          have lt3 : M = -1 ∨ (0 ≤ M ∧ M ≤ 20159) := lt2
          have n3 : nw M = M := by clear m4 m5 hT2 m1 m0 m2 m3 m6 m7 z2 z3 n2 lt2 r2; exact nw_id (by omega) (by omega)
          simp only [n3, n2]
          refine ⟨g2, ?_, f1.tr f2⟩
          clear m4 m5 hT2 m1 m0 m2 m3 m6 m7 z2 z3 n2 n3 lt2 r2
          by_cases d5 : M = -1
          · simp only [if_pos d5, sb]
            simp [d5]
          · by_cases d6 : g (64 + b) k < M
            · simp only [if_neg d5, if_pos d6, sb]
              simp [d5]
              omega
            · simp only [if_neg d5, if_neg d6, sb]
              simp [d5]
              omega
        · have d4' : g (64 + b) k ≤ T := by clear m4 m5 hT2 m1 m0 m2 m3 m6 m7 z2 z3 n2; omega
          simp only [if_neg d4, if_pos d4']
          exact ⟨g1, by simp, f1⟩
theorem X_can_s {b p : Nat} {a c : Int} (hp : p ≤ 15) (ha : 0 ≤ a ∧ a ≤ 20159) (hc : 0 ≤ c ∧ c ≤ 20159) : ∀ (n k : Nat) (g : AG), JL g → (b : Int) < g 6 7 → ((k + n : Nat) : Int) = g 74 b + 1 → ∃ g', Boats_canHaveBeen_b b p a c ((k : Int) - 1) g = some (if chF g b p a c n k = true then 1 else 0, g') ∧ FR WV g g' := by
  intro n
  induction n with
  | zero =>
    intro k g L hb h
    obtain ⟨hb10, _, _, _, _, ⟨n, e5, e6⟩, _, _⟩ := L.row hb
    refine ⟨g, ?_, Fr.rf⟩
    rw [Boats_canHaveBeen_b]
    simp (disch := omega) only [nw_id, ix_id, sb, if_true, if_false, if_pos, if_neg, true_and, and_true, false_and, and_false, and_self, Int.toNat_natCast]
    rfl
  | succ n ih =>
    intro k g L hb h
    obtain ⟨hb10, _, _, _, _, ⟨n', e5, e6⟩, _, _⟩ := L.row hb
    obtain ⟨g1, e1, f1⟩ := X_between_s (k := k) L hb hp ha hc (by omega)
    obtain ⟨g2, e2, f2⟩ := ih (k + 1) g1 (L.fr f1 rfl rfl rfl) (by rw [f1 6 7 rfl]; exact hb) (by rw [f1 74 b rfl]; omega)
    rw [chF_fr hb10 f1 rfl rfl, show ((k + 1 : Nat) : Int) - 1 = (k : Int) - 1 + 1 by omega] at e2
    rw [Boats_canHaveBeen_b]
    unfold chF
    cases hbt : btF g b p a c k with
    | true =>
      rw [hbt] at e1
      refine ⟨g1, ?_, f1⟩
      simp (disch := omega) only [nw_id, ix_id, sb, if_true, if_false, if_pos, if_neg, true_and, and_true, false_and, and_false, and_self, Int.toNat_natCast, e1]
    | false =>
      rw [hbt] at e1
      refine ⟨g2, ?_, f1.tr f2⟩
      simp (disch := omega) only [nw_id, ix_id, sb, if_true, if_false, if_pos, if_neg, true_and, and_true, false_and, and_false, and_self, Int.toNat_natCast, e1, Bool.false_eq_true, e2]
theorem M_can_s {b p : Nat} {a c : Int} (hp : p ≤ 15) (ha : 0 ≤ a ∧ a ≤ 20159) (hc : 0 ≤ c ∧ c ≤ 20159) : ∀ (n k : Nat) (g : AG), JL g → JFlag g → (b : Int) < g 6 7 → ((k + n : Nat) : Int) = g 74 b + 1 → ∃ g', M_canHaveBeen_b b p a c ((k : Int) - 1) g = some (if chF g b p a c n k = true then 1 else 0, g') ∧ FR WM g g' := by
  intro n
  induction n with
  | zero =>
    intro k g L hf hb h
    obtain ⟨hb10, _, _, _, _, ⟨n, e5, e6⟩, e7, _⟩ := L.row hb
    refine ⟨g, ?_, Fr.rf⟩
    rw [M_canHaveBeen_b]
    simp (disch := omega) only [nw_id, ix_id, sb, if_true, if_false, if_pos, if_neg, true_and, and_true, false_and, and_false, and_self, Int.toNat_natCast]
    rfl
  | succ n ih =>
    intro k g L hf hb h
    obtain ⟨hb10, _, _, _, _, ⟨n', e5, e6⟩, e7, _⟩ := L.row hb
    obtain ⟨g1, e1, f1⟩ := M_between_s (k := k) L hf hb hp ha hc (by omega)
    obtain ⟨g2, e2, f2⟩ := ih (k + 1) g1 (L.fr f1 rfl rfl rfl) (by unfold JFlag; rw [f1 117 47 rfl]; exact hf) (by rw [f1 6 7 rfl]; exact hb) (by rw [f1 74 b rfl]; omega)
    rw [chF_fr hb10 f1 rfl rfl, show ((k + 1 : Nat) : Int) - 1 = (k : Int) - 1 + 1 by omega] at e2
    rw [M_canHaveBeen_b]
    unfold chF
    cases hbt : btF g b p a c k with
    | true =>
      rw [hbt] at e1
      refine ⟨g1, ?_, f1⟩
      simp (disch := omega) only [nw_id, ix_id, sb, if_true, if_false, if_pos, if_neg, true_and, and_true, false_and, and_false, and_self, Int.toNat_natCast, e1]
    | false =>
      rw [hbt] at e1
      refine ⟨g2, ?_, f1.tr f2⟩
      simp (disch := omega) only [nw_id, ix_id, sb, if_true, if_false, if_pos, if_neg, true_and, and_true, false_and, and_false, and_self, Int.toNat_natCast, e1, Bool.false_eq_true, e2]
end
section
/-! plain programs: could, whose, tonight -/
theorem sm_could {x1 x2 x3 x4 : Int} {g : AG} (h1 : I32 x1) (h2 : I32 x2) (h3 : I32 x3) (h4 : I32 x4) (L : JL g) (hf : JFlag g) :
    ∃ r1 r2, X_could x1 x2 x3 x4 g = some r1 ∧ M_could x1 x2 x3 x4 r1.2 = some r2 ∧ nw r1.1 = nw r2.1 ∧ FR SCV g r2.2 := by
  unfold I32 at *
  have B := L.2.1
  obtain ⟨⟨b1, b2, b3⟩, bv, bs⟩ := B
  by_cases h : 0 ≤ x1 ∧ x1 < g 6 7 ∧ 0 ≤ x2 ∧ x2 ≤ 15 ∧ 0 ≤ x3 ∧ x3 ≤ x4 ∧ x4 ≤ 20159
  · obtain ⟨b, rfl⟩ := natOf h.1
    obtain ⟨p, rfl⟩ := natOf h.2.2.1
    obtain ⟨hb10, _, _, _, _, ⟨n, e5, e6⟩, _, _⟩ := L.row (b := b) (by omega)
    obtain ⟨g1, e1, f1⟩ := X_can_s (b := b) (p := p) (a := x3) (c := x4) (by omega) (by omega) (by omega) (n + 1) 0 g L (by omega) (by omega)
    obtain ⟨g2, e2, f2⟩ := M_can_s (b := b) (p := p) (a := x3) (c := x4) (by omega) (by omega) (by omega) (n + 1) 0 g1 (L.fr f1 rfl rfl rfl) (by unfold JFlag; rw [f1 117 47 rfl]; exact hf) (by rw [f1 6 7 rfl]; omega) (by rw [f1 74 b rfl]; omega)
    rw [chF_fr hb10 f1 rfl rfl] at e2
    rw [show ((0 : Nat) : Int) - 1 = -1 by decide] at e1 e2
    have q1 : g1 117 12 = g 117 12 := f1 117 12 rfl
    refine ⟨(if chF g b p x3 x4 (n + 1) 0 = true then 1 else 0, g1), (if chF g b p x3 x4 (n + 1) 0 = true then 1 else 0, g2), ?_, ?_, rfl, (f1.mo rfl).tr (f2.mo rfl)⟩
    · unfold X_could Boats_canHaveBeen
      simp (disch := omega) only [nw_id, ix_id, sb, if_true, if_false, if_pos, if_neg, true_and, and_true, false_and, and_false, and_self, X_isWay0, isTimeX0, e1]
      cases chF g b p x3 x4 (n + 1) 0 <;> simp (disch := omega) only [nw_id, ix_id, sb, if_true, if_false, if_pos, if_neg, true_and, and_true, false_and, and_false, and_self, Bool.false_eq_true]
    · unfold M_could M_canHaveBeen M_isSpan
      simp (disch := omega) only [nw_id, ix_id, sb, if_true, if_false, if_pos, if_neg, true_and, and_true, false_and, and_false, and_self, M_isBoat0, isPoint0, isTime0, isIn0, e2]
      cases chF g b p x3 x4 (n + 1) 0 <;> simp (disch := omega) only [nw_id, ix_id, sb, if_true, if_false, if_pos, if_neg, true_and, and_true, false_and, and_false, and_self, Bool.false_eq_true]
  · have eX : X_could x1 x2 x3 x4 g = some (-1, g) := by
      unfold X_could
      revert h
      simp (disch := omega) only [nw_id, ix_id, X_isWay0, isTimeX0]
      intro h
      ((repeat (first | (split; · with_reducible rfl) | (split; rotate_left 1; · with_reducible rfl))) <;> first | with_reducible rfl | (refine absurd ?_ h; clear h; (repeat' apply And.intro) <;> omega) | omega | ((repeat' split) <;> first | rfl | omega))
    have eM : M_could x1 x2 x3 x4 g = some (-1, g) := by
      unfold M_could M_isSpan
      by_cases c1 : x1 < 0 ∨ g 117 12 - 1 < x1
      · simp (disch := omega) only [nw_id, ix_id, sb, if_true, if_false, if_pos, if_neg, true_and, and_true, false_and, and_false, and_self, M_isBoat0]
      · by_cases c2 : x2 < 0 ∨ 15 < x2
        · simp (disch := omega) only [nw_id, ix_id, sb, if_true, if_false, if_pos, if_neg, true_and, and_true, false_and, and_false, and_self, M_isBoat0, isPoint0]
        · by_cases c3 : x3 < 0 ∨ 20159 < x3
          · simp (disch := omega) only [nw_id, ix_id, sb, if_true, if_false, if_pos, if_neg, true_and, and_true, false_and, and_false, and_self, M_isBoat0, isPoint0, isTime0]
          · simp (disch := omega) only [nw_id, ix_id, sb, if_true, if_false, if_pos, if_neg, true_and, and_true, false_and, and_false, and_self, M_isBoat0, isPoint0, isTime0, isIn0]
    exact ⟨_, _, eX, eM, rfl, Fr.rf⟩
/-- how many bits a set has -/
def pcF (S : Nat) : Int := (((S % 2) + (S / 2 % 2) + (S / 4 % 2) + (S / 8 % 2) + (S / 16 % 2) + (S / 32 % 2) + (S / 64 % 2) + (S / 128 % 2) + (S / 256 % 2) + (S / 512 % 2) : Nat) : Int)
theorem pc_bits : ∀ S : Nat, S < 1024 → Integer_bitCount (S : Int) (fun _ _ => 0) = some (pcF S) := by decide +kernel
theorem pc_s {S : Nat} (h : S < 1024) (g : AG) : Integer_bitCount (S : Int) g = some (pcF S) := pc_bits S h
theorem or_add : ∀ k : Nat, k < 10 → ∀ S : Nat, S < 2 ^ k → orI (S : Int) (shlI 1 (k : Int)) = ((S + 2 ^ k : Nat) : Int) := by decide +kernel
theorem pc_add : ∀ k : Nat, k < 10 → ∀ S : Nat, S < 2 ^ k → pcF (S + 2 ^ k) = pcF S + 1 := by decide +kernel
theorem pc_rng (S : Nat) : 0 ≤ pcF S ∧ pcF S ≤ 10 := by unfold pcF; omega
/-- the boats from k on that can have been, as a set; the last of them; how many -/
def wsN (can : Nat → Bool) : Nat → Nat → Nat × Int × Int → Nat × Int × Int
  | 0, _, p => p
  | n + 1, k, p => wsN can n (k + 1) (if can k = true then (p.1 + 2 ^ k, (k : Int), p.2.2 + 1) else p)
def canB (g : AG) (p : Nat) (a c : Int) (b : Nat) : Bool := chF g b p a c ((g 74 b).toNat + 1) 0
theorem X_whose_b_s {p : Nat} {a c wh : Int} (hp : p ≤ 15) (ha : 0 ≤ a ∧ a ≤ 20159) (hc : 0 ≤ c ∧ c ≤ 20159) (hw : wh = 0 ∨ wh = 1) {can : Nat → Bool} : ∀ (n k : Nat) (S : Nat) (one cnt : Int) (g : AG), JL g → ((k + n : Nat) : Int) = g 6 7 → (∀ b : Nat, (b : Int) < g 6 7 → canB g p a c b = can b) → S < 2 ^ k → pcF S = cnt → (one = -1 ∨ (0 ≤ one ∧ one < 10)) → ∃ g', X_whose_b p a c wh S one k g = some (if wh = 0 then ((wsN can n k (S, one, cnt)).1 : Int) else if (wsN can n k (S, one, cnt)).2.2 = 1 then (wsN can n k (S, one, cnt)).2.1 else -1, g') ∧ FR WV g g' := by
  intro n
  induction n with
  | zero =>
    intro k S one cnt g L h hcan hS hpc ho
    have B := L.2.1.1
    have hk10 : k ≤ 10 := by omega
    have hS2 : S < 1024 := Nat.lt_of_lt_of_le hS (Nat.le_trans (Nat.pow_le_pow_right (by decide) hk10) (by decide))
    have pr := pc_rng S
    refine ⟨g, ?_, Fr.rf⟩
    rw [X_whose_b]
    show _ = some (if wh = 0 then (S : Int) else if cnt = 1 then one else -1, g)
    rw [← hpc]
    clear hpc
    rcases hw with e | e
    · subst e
      simp (disch := omega) only [nw_id, ix_id, sb, if_true, if_false, if_pos, if_neg, true_and, and_true, false_and, and_false, and_self]
    · subst e
      simp (disch := omega) only [nw_id, ix_id, sb, if_true, if_false, if_pos, if_neg, true_and, and_true, false_and, and_false, and_self, pc_s hS2]
  | succ n ih =>
    intro k S one cnt g L h hcan hS hpc ho
    have B := L.2.1.1
    have hb : (k : Int) < g 6 7 := by omega
    have hk10 : k < 10 := by omega
    obtain ⟨_, _, _, _, _, ⟨m, e5, e6⟩, _, _⟩ := L.row hb
    obtain ⟨g1, e1, f1⟩ := X_can_s (b := k) (p := p) (a := a) (c := c) hp ha hc (m + 1) 0 g L hb (by omega)
    rw [show ((0 : Nat) : Int) - 1 = -1 by decide] at e1
    have hck := hcan k hb
    unfold canB at hck
    rw [e5, Int.toNat_natCast] at hck
    rw [hck] at e1
    have L1 := L.fr f1 rfl rfl rfl
    have hcan1 : ∀ b : Nat, (b : Int) < g1 6 7 → canB g1 p a c b = can b := by
      intro b hb'
      rw [f1 6 7 rfl] at hb'
      unfold canB
      rw [f1 74 b rfl, chF_fr (by omega) f1 rfl rfl]
      exact hcan b hb'
    have q1 : g1 6 7 = g 6 7 := f1 6 7 rfl
    have hp2 : 2 ^ (k + 1) = 2 ^ k + 2 ^ k := by rw [Nat.pow_succ]; omega
    rw [X_whose_b]
    unfold wsN Boats_canHaveBeen
    cases hc2 : can k with
    | true =>
      rw [hc2] at e1
      obtain ⟨g2, e2, f2⟩ := ih (k + 1) (S + 2 ^ k) k (cnt + 1) g1 L1 (by omega) hcan1 (by omega) (by rw [pc_add k hk10 S hS, hpc]) (by omega)
      rw [show ((k + 1 : Nat) : Int) = (k : Int) + 1 from rfl] at e2
      refine ⟨g2, ?_, f1.tr f2⟩
      have oa := or_add k hk10 S hS
      have c0 : ¬ nw (g 6 7) ≤ nw (k : Int) := by rw [nw_id (by omega) (by omega), nw_id (by omega) (by omega)]; omega
      rw [if_neg c0, e1, sb, if_pos rfl, nw_1, if_neg (by decide), sb]
      dsimp only
      rw [oa]
      exact e2
    | false =>
      rw [hc2] at e1
      obtain ⟨g2, e2, f2⟩ := ih (k + 1) S one cnt g1 L1 (by omega) hcan1 (by omega) hpc ho
      rw [show ((k + 1 : Nat) : Int) = (k : Int) + 1 from rfl] at e2
      refine ⟨g2, ?_, f1.tr f2⟩
      have c0 : ¬ nw (g 6 7) ≤ nw (k : Int) := by rw [nw_id (by omega) (by omega), nw_id (by omega) (by omega)]; omega
      rw [if_neg c0, e1, sb, if_neg (show ¬ (false = true) by decide), nw_0, if_pos rfl, sb]
      exact e2
theorem M_whose_b_s {p : Nat} {a c wh : Int} (hp : p ≤ 15) (ha : 0 ≤ a ∧ a ≤ 20159) (hc : 0 ≤ c ∧ c ≤ 20159) (hw : wh = 0 ∨ wh = 1) {can : Nat → Bool} : ∀ (n k : Nat) (S : Nat) (one cnt : Int) (g : AG), JL g → JFlag g → ((k + n : Nat) : Int) = g 6 7 → (∀ b : Nat, (b : Int) < g 6 7 → canB g p a c b = can b) → S < 2 ^ k → (0 ≤ cnt ∧ cnt ≤ k) → (one = -1 ∨ (0 ≤ one ∧ one < 10)) → ∃ g', M_whose_b p a c wh S one cnt k g = some (if wh = 0 then ((wsN can n k (S, one, cnt)).1 : Int) else if (wsN can n k (S, one, cnt)).2.2 = 1 then (wsN can n k (S, one, cnt)).2.1 else -1, g') ∧ FR WM g g' := by
  intro n
  induction n with
  | zero =>
    intro k S one cnt g L hf h hcan hS hcn ho
    have B := L.2.1.1
    have hk10 : k ≤ 10 := by omega
    refine ⟨g, ?_, Fr.rf⟩
    rw [M_whose_b]
    show _ = some (if wh = 0 then (S : Int) else if cnt = 1 then one else -1, g)
    rcases hw with e | e
    · subst e
      simp (disch := omega) only [nw_id, ix_id, sb, if_true, if_false, if_pos, if_neg, true_and, and_true, false_and, and_false, and_self]
    · subst e
      simp (disch := omega) only [nw_id, ix_id, sb, if_true, if_false, if_pos, if_neg, true_and, and_true, false_and, and_false, and_self]
  | succ n ih =>
    intro k S one cnt g L hf h hcan hS hcn ho
    have B := L.2.1.1
    have hb : (k : Int) < g 6 7 := by omega
    have hk10 : k < 10 := by omega
    obtain ⟨_, _, _, _, _, ⟨m, e5, e6⟩, _, _⟩ := L.row hb
    obtain ⟨g1, e1, f1⟩ := M_can_s (b := k) (p := p) (a := a) (c := c) hp ha hc (m + 1) 0 g L hf hb (by omega)
    rw [show ((0 : Nat) : Int) - 1 = -1 by decide] at e1
    have hck := hcan k hb
    unfold canB at hck
    rw [e5, Int.toNat_natCast] at hck
    rw [hck] at e1
    have L1 := L.fr f1 rfl rfl rfl
    have hf1 : JFlag g1 := by unfold JFlag; rw [f1 117 47 rfl]; exact hf
    have hcan1 : ∀ b : Nat, (b : Int) < g1 6 7 → canB g1 p a c b = can b := by
      intro b hb'
      rw [f1 6 7 rfl] at hb'
      unfold canB
      rw [f1 74 b rfl, chF_fr (by omega) f1 rfl rfl]
      exact hcan b hb'
    have q1 : g1 6 7 = g 6 7 := f1 6 7 rfl
    have hp2 : 2 ^ (k + 1) = 2 ^ k + 2 ^ k := by rw [Nat.pow_succ]; omega
    rw [M_whose_b]
    unfold wsN M_canHaveBeen
    have c0 : ¬ nw (g 117 12) ≤ nw (k : Int) := by rw [nw_id (by omega) (by omega), nw_id (by omega) (by omega)]; omega
    cases hc2 : can k with
    | true =>
      rw [hc2] at e1
      obtain ⟨g2, e2, f2⟩ := ih (k + 1) (S + 2 ^ k) k (cnt + 1) g1 L1 hf1 (by clear c0; omega) hcan1 (by clear c0; omega) (by clear c0; omega) (by clear c0; omega)
      rw [show ((k + 1 : Nat) : Int) = (k : Int) + 1 from rfl] at e2
      refine ⟨g2, ?_, f1.tr f2⟩
      have oa := or_add k hk10 S hS
      rw [if_neg c0, e1, sb, if_pos rfl, nw_1, if_neg (by decide), sb]
      dsimp only
      rw [oa]
      exact e2
    | false =>
      rw [hc2] at e1
      obtain ⟨g2, e2, f2⟩ := ih (k + 1) S one cnt g1 L1 hf1 (by clear c0; omega) hcan1 (by clear c0; omega) (by clear c0; omega) ho
      rw [show ((k + 1 : Nat) : Int) = (k : Int) + 1 from rfl] at e2
      refine ⟨g2, ?_, f1.tr f2⟩
      rw [if_neg c0, e1, sb, if_neg (show ¬ (false = true) by decide), nw_0, if_pos rfl, sb]
      exact e2
theorem sm_whose {x1 x2 x3 x4 : Int} {g : AG} (h1 : I32 x1) (h2 : I32 x2) (h3 : I32 x3) (h4 : I32 x4) (L : JL g) (hf : JFlag g) :
    ∃ r1 r2, X_whose x1 x2 x3 x4 g = some r1 ∧ M_whose x1 x2 x3 x4 r1.2 = some r2 ∧ nw r1.1 = nw r2.1 ∧ FR SCV g r2.2 := by
  unfold I32 at *
  have B := L.2.1.1
  by_cases h : 0 ≤ x1 ∧ x1 ≤ 15 ∧ 0 ≤ x2 ∧ x2 ≤ x3 ∧ x3 ≤ 20159 ∧ 0 ≤ x4 ∧ x4 ≤ 1
  · obtain ⟨p, rfl⟩ := natOf h.1
    obtain ⟨N, hN⟩ := natOf B.2.1
    obtain ⟨g1, e1, f1⟩ := X_whose_b_s (p := p) (a := x2) (c := x3) (wh := x4) (by omega) (by omega) (by omega) (by omega) (can := canB g p x2 x3) N 0 0 (-1) 0 g L (by omega) (fun _ _ => rfl) (by decide) (by decide) (Or.inl rfl)
    obtain ⟨g2, e2, f2⟩ := M_whose_b_s (p := p) (a := x2) (c := x3) (wh := x4) (by omega) (by omega) (by omega) (by omega) (can := canB g p x2 x3) N 0 0 (-1) 0 g1 (L.fr f1 rfl rfl rfl) (by unfold JFlag; rw [f1 117 47 rfl]; exact hf) (by rw [f1 6 7 rfl]; omega) (fun b hb => by
      rw [f1 6 7 rfl] at hb
      unfold canB
      rw [f1 74 b rfl, chF_fr (by omega) f1 rfl rfl]) (by decide) (by decide) (Or.inl rfl)
    refine ⟨(if x4 = 0 then ((wsN (canB g p x2 x3) N 0 (0, -1, 0)).1 : Int) else if (wsN (canB g p x2 x3) N 0 (0, -1, 0)).2.2 = 1 then (wsN (canB g p x2 x3) N 0 (0, -1, 0)).2.1 else -1, g1), (if x4 = 0 then ((wsN (canB g p x2 x3) N 0 (0, -1, 0)).1 : Int) else if (wsN (canB g p x2 x3) N 0 (0, -1, 0)).2.2 = 1 then (wsN (canB g p x2 x3) N 0 (0, -1, 0)).2.1 else -1, g2), ?_, ?_, rfl, (f1.mo rfl).tr (f2.mo rfl)⟩
    · unfold X_whose
      simp (disch := omega) only [nw_id, ix_id, sb, if_true, if_false, if_pos, if_neg, true_and, and_true, false_and, and_false, and_self, isPointX0, isTimeX0, within0]
      exact e1
    · unfold M_whose M_isSpan
      simp (disch := omega) only [nw_id, ix_id, sb, if_true, if_false, if_pos, if_neg, true_and, and_true, false_and, and_false, and_self, isPoint0, isTime0, isIn0]
      exact e2
  · have eX : X_whose x1 x2 x3 x4 g = some (-1, g) := by
      unfold X_whose
      generalize X_whose_b x1 x2 x3 x4 0 (-1) 0 g = big
      revert h
      simp (disch := omega) only [nw_id, ix_id, isPointX0, isTimeX0, within0]
      intro h
      ((repeat (first | (split; · with_reducible rfl) | (split; rotate_left 1; · with_reducible rfl))) <;> first | with_reducible rfl | (refine absurd ?_ h; clear h; (repeat' apply And.intro) <;> omega) | omega | ((repeat' split) <;> first | rfl | omega))
    have eM : M_whose x1 x2 x3 x4 g = some (-1, g) := by
      unfold M_whose M_isSpan
      generalize M_whose_b x1 x2 x3 x4 0 (-1) 0 0 g = big
      by_cases c2 : x1 < 0 ∨ 15 < x1
      · simp (disch := omega) only [nw_id, ix_id, sb, if_true, if_false, if_pos, if_neg, true_and, and_true, false_and, and_false, and_self, isPoint0]
      · by_cases c3 : x2 < 0 ∨ 20159 < x2
        · simp (disch := omega) only [nw_id, ix_id, sb, if_true, if_false, if_pos, if_neg, true_and, and_true, false_and, and_false, and_self, isPoint0, isTime0]
        · by_cases c4 : x3 < x2 ∨ 20159 < x3
          · simp (disch := omega) only [nw_id, ix_id, sb, if_true, if_false, if_pos, if_neg, true_and, and_true, false_and, and_false, and_self, isPoint0, isTime0, isIn0]
          · simp (disch := omega) only [nw_id, ix_id, sb, if_true, if_false, if_pos, if_neg, true_and, and_true, false_and, and_false, and_self, isPoint0, isTime0, isIn0]
    exact ⟨_, _, eX, eM, rfl, Fr.rf⟩
end
section
/-! plain programs: tonight -/
def lsN (lt : Nat → Int) (t : Int) : Nat → Nat → Nat
  | 0, j => j
  | m + 1, j => if lt j ≤ t then lsN lt t m (j + 1) else j
theorem lsN_rng {lt : Nat → Int} {t : Int} : ∀ (m j : Nat), j ≤ lsN lt t m j ∧ lsN lt t m j ≤ j + m
  | 0, j => ⟨Nat.le_refl _, Nat.le_refl _⟩
  | m + 1, j => by
    unfold lsN
    split
    · have := lsN_rng (lt := lt) (t := t) m (j + 1); omega
    · omega
/-- which of a boat's places is the last not behind t -/
def llF (g : AG) (b : Nat) (t : Int) : Nat := lsN (g (64 + b)) t (g 74 b).toNat 0
def mayB (g : AG) (t : Int) (p b : Nat) : Bool := decide (¬ ldM g (g 51 b) (plF g b (llF g b t)) p (tmF g b (llF g b t)) = -1 ∧ ldM g (g 51 b) (plF g b (llF g b t)) p (tmF g b (llF g b t)) ≤ t)
def tnN (may : Nat → Bool) : Nat → Nat
  | 0 => 0
  | k + 1 => tnN may k + if may k = true then 2 ^ k else 0
theorem tnN_lt {may : Nat → Bool} : ∀ k, tnN may k < 2 ^ k
  | 0 => Nat.lt_succ_self 0
  | k + 1 => by
    have := tnN_lt (may := may) k
    have hp2 : 2 ^ (k + 1) = 2 ^ k + 2 ^ k := by rw [Nat.pow_succ]; omega
    unfold tnN
    split <;> omega
theorem mayB_fr {W : Reg} {g g' : AG} {b : Nat} {t : Int} (hb : b < 10) (f : FR W g g') (d : djR [(117, 11), (117, 12), (121, 0), (122, 0), (123, 0), (2, 4), (128, 0), (129, 0), (130, 0), (132, 0), (133, 0), (134, 0), (142, 0), (144, 0), (118, 0), (119, 0)] W = true) (d2 : djR ((50, 0) :: (51, 0) :: RLog) W = true) (p : Nat) : mayB g' t p b = mayB g t p b := by
  have c := f.cg d2
  have c1 : g' 50 b = g 50 b := c 50 b rfl
  have c2 : g' 51 b = g 51 b := c 51 b rfl
  have c3 : g' 74 b = g 74 b := c 74 b rfl
  have up' : ∀ k i, inR RLog k i = true → inR ((50, 0) :: (51, 0) :: RLog) k i = true := by
    intro k i h
    show (inP (50, 0) k i || (inP (51, 0) k i || inR RLog k i)) = true
    rw [h]; simp
  have c4 : g' (53 + b) = g (53 + b) := funext fun i => c _ i (up' _ i (RLog_at b hb i).1)
  have c5 : g' (64 + b) = g (64 + b) := funext fun i => c _ i (up' _ i (RLog_at b hb i).2)
  unfold mayB plF tmF llF
  rw [ldM_fr f d, c1, c2, c3, c4, c5]
theorem X_lastLog_s {b : Nat} {t : Int} {g : AG} (L : JL g) (hb : (b : Int) < g 6 7) (ht : 0 ≤ t ∧ t ≤ 20159) : ∀ (m j : Nat), ((j + m : Nat) : Int) = g 74 b → Boats_lastLog_b b t g ((j : Int) - 1) j = some ((lsN (g (64 + b)) t m j : Int) - 1) := by
  obtain ⟨hb10, _, _, _, _, ⟨n, e5, e6⟩, _, hj⟩ := L.row hb
  intro m
  induction m with
  | zero =>
    intro j h
    rw [Boats_lastLog_b]
    simp (disch := omega) only [nw_id, ix_id, sb, if_true, if_false, if_pos, if_neg, true_and, and_true, false_and, and_false, and_self, Int.toNat_natCast]
    rfl
  | succ m ih =>
    intro j h
    obtain ⟨_, qt, _⟩ := hj j (by omega)
    have e := ih (j + 1) (by omega)
    rw [show ((j + 1 : Nat) : Int) - 1 = (j : Int) by omega, show ((j + 1 : Nat) : Int) = (j : Int) + 1 from rfl] at e
    rw [Boats_lastLog_b]
    unfold lsN
    by_cases c : g (64 + b) j ≤ t
    · simp (disch := omega) only [nw_id, ix_id, sb, if_true, if_false, if_pos, if_neg, true_and, and_true, false_and, and_false, and_self, Int.toNat_natCast, e]
    · simp (disch := omega) only [nw_id, ix_id, sb, if_true, if_false, if_pos, if_neg, true_and, and_true, false_and, and_false, and_self, Int.toNat_natCast]
theorem or_zero : ∀ k : Nat, k < 10 → ∀ S : Nat, S < 2 ^ k → orI (S : Int) (shlI 0 (k : Int)) = (S : Int) := by decide +kernel
theorem bit_v (x : Int) (k : Nat) (hk : k < 32) : andI (shrI x k) 1 = if tb x k = true then 1 else 0 := by
  rw [← nw_and, bit_q x k hk]
/-- the sixteen points, for one boat -/
theorem X_points_s {t r : Int} {b : Nat} (hb : b < 10) {S : Nat → Nat} (hS : ∀ p, S p < 2 ^ b) : ∀ (n k : Nat) (g : AG), k + n = 16 → (∀ p : Nat, k ≤ p → p < 16 → g 75 p = (S p : Int)) → ∃ g', Boats_settleTonight_b t 2 b r k g = Boats_settleTonight_b t 1 ((b : Int) + 1) r 16 g' ∧ FR [(75, 0)] g g' ∧ (∀ p : Nat, p < k → g' 75 p = g 75 p) ∧ (∀ p : Nat, k ≤ p → p < 16 → g' 75 p = ((S p + if tb r p = true then 2 ^ b else 0 : Nat) : Int)) := by
  intro n
  induction n with
  | zero =>
    intro k g h hg
    refine ⟨g, ?_, Fr.rf, fun p _ => rfl, fun p h1 h2 => by omega⟩
    rw [Boats_settleTonight_b.eq_1 _ 2]
    have : k = 16 := by omega
    subst this
    rw [if_neg (by decide), if_pos rfl, if_pos (by rw [nw_id (by omega) (by omega)]; omega)]
    rfl
  | succ n ih =>
    intro k g h hg
    have gk := hg k (Nat.le_refl _) (by omega)
    have f1 : FR [(75, 0)] g (up g 75 k (orI (S k) (shlI (if tb r k = true then 1 else 0) b))) := Fr.up Fr.rf rfl
    obtain ⟨g2, e2, f2, p2, q2⟩ := ih (k + 1) (up g 75 k (orI (S k) (shlI (if tb r k = true then 1 else 0) b))) (by omega) (by
      intro p h1 h2
      simp only [up_at, true_and]
      rw [if_neg (by omega)]
      exact hg p (by omega) h2)
    rw [show ((k + 1 : Nat) : Int) = (k : Int) + 1 from rfl] at e2
    have c0 : ¬ 16 ≤ nw (k : Int) := by rw [nw_id (by omega) (by omega)]; omega
    have c1 : 0 ≤ nw (k : Int) ∧ nw (k : Int) < 16 := by clear c0; rw [nw_id (by omega) (by omega)]; omega
    have c2 : ix (k : Int) = k := by clear c0 c1; rw [ix_id (by omega) (by omega), Int.toNat_natCast]
    refine ⟨g2, ?_, f1.tr f2, ?_, ?_⟩
    · rw [Boats_settleTonight_b.eq_1 _ 2, if_neg (by decide), if_pos rfl, if_neg c0, if_pos c1, c2, gk, bit_v r k (by omega), sb]
      exact e2
    · intro p hp
      rw [p2 p (by omega)]
      simp only [up_at, true_and]
      rw [if_neg (by omega)]
    · intro p h1 h2
      by_cases e : p = k
      · subst e
        rw [p2 p (by omega)]
        simp only [up_at, and_self, if_true]
        cases tb r p with
        | true => rw [if_pos rfl, if_pos rfl]; exact or_add b hb (S p) (hS p)
        | false => rw [if_neg (by decide), if_neg (by decide)]; exact or_zero b hb (S p) (hS p)
      · exact q2 p (by omega) h2
theorem X_settle_s {t : Int} (ht : 0 ≤ t ∧ t ≤ 20159) {may : Nat → Nat → Bool} : ∀ (n b : Nat) (x4 x5 : Int) (g : AG), ((b + n : Nat) : Int) = g 6 7 → JL g → JArr g → (∀ p b : Nat, (b : Int) < g 6 7 → mayB g t p b = may p b) → (∀ p : Nat, p < 16 → g 75 p = (tnN (may p) b : Int)) → ∃ g', Boats_settleTonight_b t 1 b x4 x5 g = some (0, g') ∧ FR [(5, 7), (5, 8), (46, 0), (47, 0), (75, 0)] g g' ∧ (∀ p : Nat, p < 16 → g' 75 p = (tnN (may p) (b + n) : Int)) ∧ JArr g' := by
  intro n
  induction n with
  | zero =>
    intro b x4 x5 g h L A hm hg
    have B := L.2.1.1
    refine ⟨g, ?_, Fr.rf, hg, A⟩
    rw [Boats_settleTonight_b]
    simp (disch := omega) only [nw_id, ix_id, sb, if_true, if_false, if_pos, if_neg, true_and, and_true, false_and, and_false, and_self]
  | succ n ih =>
    intro b x4 x5 g h L A hm hg
    have B := L.2.1.1
    have hb : (b : Int) < g 6 7 := by omega
    obtain ⟨hb10, _, _, _, hr, ⟨m, e5, e6⟩, _, _⟩ := L.row hb
    have eL := X_lastLog_s L hb ht m 0 (by omega)
    have hll : lsN (g (64 + b)) t m 0 = llF g b t := by unfold llF; rw [e5, Int.toNat_natCast]
    rw [hll, show ((0 : Nat) : Int) - 1 = -1 by decide] at eL
    have hlr : ((llF g b t : Nat) : Int) ≤ g 74 b := by
      have := lsN_rng (lt := g (64 + b)) (t := t) m 0
      rw [← hll, e5]; omega
    have ePl := X_placeOf_s L hb hlr
    have eTm := X_timeOf_s L hb hlr
    have pl := L.place hb hlr
    obtain ⟨g1, r1, f1, p1, t1⟩ := X_reach_s (a := plF g b (llF g b t)) (ta := g 51 b) (t := tmF g b (llF g b t)) L.1 pl.1 hr (Or.inr pl.2) A
    obtain ⟨r, e2, q2⟩ := reached_s (x1 := t) (g := g1) ht t1 16 0 0 (by omega)
    obtain ⟨g2, e3, f3, _, q3⟩ := X_points_s (t := t) (r := r) (b := b) hb10 (S := fun p => tnN (may p) b) (fun p => tnN_lt b) 16 0 g1 (by omega) (by
      intro p _ hp
      rw [f1 75 p rfl]
      exact hg p hp)
    have f13 : FR [(5, 7), (5, 8), (46, 0), (47, 0), (75, 0)] g g2 := (f1.mo rfl).tr (f3.mo rfl)
    have h75 : ∀ p : Nat, p < 16 → g2 75 p = (tnN (may p) (b + 1) : Int) := by
      intro p hp
      rw [q3 p (by omega) hp, q2 p (by omega), tb_0, p1 p hp]
      show _ = ((tnN (may p) b + if may p b = true then 2 ^ b else 0 : Nat) : Int)
      rw [← hm p b hb]
      unfold mayB
      have hz : (0 ≤ p ∧ p < 16 ∧ ¬ ldM g (g 51 b) (plF g b (llF g b t)) p (tmF g b (llF g b t)) = -1 ∧ ldM g (g 51 b) (plF g b (llF g b t)) p (tmF g b (llF g b t)) ≤ t) ↔ (¬ ldM g (g 51 b) (plF g b (llF g b t)) p (tmF g b (llF g b t)) = -1 ∧ ldM g (g 51 b) (plF g b (llF g b t)) p (tmF g b (llF g b t)) ≤ t) := ⟨fun q => q.2.2, fun q => ⟨Nat.zero_le _, hp, q⟩⟩
      simp only [hz, Bool.false_or]
    obtain ⟨g4, e4, f4, q4, A4⟩ := ih (b + 1) r 16 g2 (by rw [f13 6 7 rfl]; omega) (L.fr f13 rfl rfl rfl) (fun p hp => by rw [f3 46 p rfl]; exact t1 p hp) (fun p b' hb' => by
      rw [f13 6 7 rfl] at hb'
      rw [mayB_fr (by omega) f13 rfl rfl]
      exact hm p b' hb') h75
    rw [show ((b + 1 : Nat) : Int) = (b : Int) + 1 from rfl] at e4
    refine ⟨g4, ?_, f13.tr f4, by rw [show b + (n + 1) = b + 1 + n by omega]; exact q4, A4⟩
    rw [← e4, ← e3]
    have c0 : ¬ nw (g 6 7) ≤ nw (b : Int) := by rw [nw_id (by omega) (by omega), nw_id (by omega) (by omega)]; omega
    have c1 : 0 ≤ nw (b : Int) ∧ nw (b : Int) < 10 := by clear c0; rw [nw_id (by omega) (by omega)]; omega
    have c2 : ix (b : Int) = b := by clear c0 c1; rw [ix_id (by omega) (by omega), Int.toNat_natCast]
    rw [Boats_settleTonight_b.eq_1 _ 1, if_pos rfl, if_neg c0]
    unfold Boats_lastLog Voyage_reached
    rw [show ((0 : Nat) : Int) = (0 : Int) from rfl] at eL e2
    rw [eL, sb, if_pos c1, ePl, sb, eTm, sb, c2, r1, sb]
    dsimp only
    rw [e2, sb]
    rfl
/-- where most are -/
def cwF (pc : Nat → Int) : Nat → Nat → Nat → Nat
  | 0, _, best => best
  | n + 1, q, best => cwF pc n (q + 1) (if pc best < pc q then q else best)
theorem cwF_lt {pc : Nat → Int} : ∀ (n q best : Nat), q + n ≤ 16 → best < 16 → cwF pc n q best < 16
  | 0, _, _, _, h => h
  | n + 1, q, best, h1, h2 => cwF_lt n (q + 1) _ (by omega) (by split <;> omega)
theorem X_crowd_s {g : AG} {S : Nat → Nat} (hS : ∀ p, p < 16 → S p < 1024) (hg : ∀ p : Nat, p < 16 → g 75 p = (S p : Int)) : ∀ (n q best : Nat), q + n = 16 → best < 16 → Boats_crowd_b g best q = some ((cwF (fun p => pcF (S p)) n q best : Nat) : Int) := by
  intro n
  induction n with
  | zero =>
    intro q best h hb
    rw [Boats_crowd_b]
    simp (disch := omega) only [nw_id, ix_id, sb, if_true, if_false, if_pos, if_neg, true_and, and_true, false_and, and_false, and_self]
    rfl
  | succ n ih =>
    intro q best h hb
    have e := ih (q + 1) (if pcF (S best) < pcF (S q) then q else best) (by omega) (by split <;> omega)
    rw [show ((q + 1 : Nat) : Int) = (q : Int) + 1 from rfl] at e
    have g1 := hg q (by omega)
    have g2 := hg best hb
    have s1 := pc_s (hS q (by omega)) g
    have s2 := pc_s (hS best hb) g
    have r1 := pc_rng (S q)
    have r2 := pc_rng (S best)
    unfold cwF
    rw [← e, Boats_crowd_b]
    have c0 : ¬ 16 ≤ nw (q : Int) := by clear r1 r2; rw [nw_id (by omega) (by omega)]; omega
    have c1 : 0 ≤ nw (q : Int) ∧ nw (q : Int) < 16 := by clear r1 r2 c0; rw [nw_id (by omega) (by omega)]; omega
    have c2 : ix (q : Int) = q := by clear r1 r2 c0 c1; rw [ix_id (by omega) (by omega), Int.toNat_natCast]
    have c3 : 0 ≤ nw (best : Int) ∧ nw (best : Int) < 16 := by clear r1 r2 c0 c1 c2; rw [nw_id (by omega) (by omega)]; omega
    have c4 : ix (best : Int) = best := by clear r1 r2 c0 c1 c2 c3; rw [ix_id (by omega) (by omega), Int.toNat_natCast]
    rw [if_neg c0, if_pos c1, c2, g1, s1, sb, if_pos c3, c4, g2, s2, sb]
    clear c0 c1 c2 c3 c4 s1 s2 g1 g2
    generalize pcF (S q) = P at r1 ⊢
    generalize pcF (S best) = Q at r2 ⊢
    have n1 : nw P = P := nw_id (by omega) (by omega)
    have n2 : nw Q = Q := by clear n1; exact nw_id (by omega) (by omega)
    by_cases c : Q < P
    · have c' : ¬ nw P ≤ nw Q := by rw [n1, n2]; clear n1 n2; omega
      rw [if_neg c', if_pos c, sb]
    · have c' : nw P ≤ nw Q := by rw [n1, n2]; clear n1 n2; omega
      rw [if_pos c', if_neg c, sb]
/-! the reference -/
theorem M_log3_s {t wh : Int} {c m p S cnt b : Int} {bn : Nat} (hbn : b = bn) {g : AG} (L : JL g) (hb : (bn : Int) < g 6 7) (ht : 0 ≤ t ∧ t ≤ 20159) : ∀ (n j : Nat), ((j + n : Nat) : Int) = g 74 bn → M_tonight_b t wh 3 (c, m, p, S, cnt, b, (j : Int) - 1) g = M_tonight_b t wh 4 (c, m, p, S, cnt, b, (lsN (g (64 + bn)) t n j : Int) - 1) g := by
  subst hbn
  obtain ⟨hb10, _, _, _, _, ⟨n0, e5, e6⟩, e7, hj⟩ := L.row hb
  have c1 : 0 ≤ nw (bn : Int) ∧ nw (bn : Int) < 10 := by rw [nw_id (by omega) (by omega)]; omega
  have c2 : ix (bn : Int) = bn := by clear c1; rw [ix_id (by omega) (by omega), Int.toNat_natCast]
  have c7 : nw (g 74 bn) = g 74 bn := by clear c1 c2; exact nw_id (by omega) (by omega)
  intro n
  induction n with
  | zero =>
    intro j h
    have c3 : nw (g 74 bn) ≤ nw ((j : Int) - 1 + 1) := by rw [c7]; clear c1 c2 c7; rw [nw_id (by omega) (by omega)]; omega
    rw [M_tonight_b.eq_1 _ _ 3, if_neg (by decide), if_neg (by decide), if_pos rfl, if_pos c1, c2, e7, if_pos c3]
    rfl
  | succ n ih =>
    intro j h
    obtain ⟨_, qt, _, q4⟩ := hj j (by clear c1 c2 c7; omega)
    have c3 : ¬ nw (g 74 bn) ≤ nw ((j : Int) - 1 + 1) := by rw [c7]; clear c1 c2 c7; rw [nw_id (by omega) (by omega)]; omega
    have c4 : 0 ≤ nw (10 * (bn : Int) + ((j : Int) - 1) + 1) ∧ nw (10 * (bn : Int) + ((j : Int) - 1) + 1) < 100 := by clear c1 c2 c7 c3; rw [nw_id (by omega) (by omega)]; omega
    have c5 : ix (10 * (bn : Int) + ((j : Int) - 1) + 1) = 10 * bn + j := by clear c1 c2 c7 c3 c4; rw [ix_id (by omega) (by omega)]; omega
    have c6 : nw (g (64 + bn) j) = g (64 + bn) j := by clear c1 c2 c7 c3 c4 c5; exact nw_id (by omega) (by omega)
    have c8 : nw t = t := by clear c1 c2 c7 c3 c4 c5 c6; exact nw_id (by omega) (by omega)
    rw [M_tonight_b.eq_1 _ _ 3, if_neg (by decide), if_neg (by decide), if_pos rfl, if_pos c1, c2, e7, if_neg c3, if_pos c4, c5]
    dsimp only
    rw [q4]
    unfold lsN
    by_cases d : g (64 + bn) j ≤ t
    · have d' : ¬ nw t < nw (g (64 + bn) j) := by rw [c6, c8]; clear c1 c2 c7 c3 c4 c5 c6 c8; omega
      rw [if_neg d', if_pos d]
      have e := ih (j + 1) (by clear c1 c2 c7 c3 c4 c5 c6 c8 d'; omega)
      rw [show ((j + 1 : Nat) : Int) - 1 = (j : Int) - 1 + 1 by clear c1 c2 c7 c3 c4 c5 c6 c8 d'; omega] at e
      exact e
    · have d' : nw t < nw (g (64 + bn) j) := by rw [c6, c8]; clear c1 c2 c7 c3 c4 c5 c6 c8; omega
      rw [if_pos d', if_neg d]
end
section
/-! plain programs: tonight, the reference's loops -/
theorem M_four_s {t wh : Int} {c m cnt : Int} {bn p S : Nat} {g : AG} (L : JL g) (hf : JFlag g) (hb : (bn : Int) < g 6 7) (hp : p ≤ 15) (ht : 0 ≤ t ∧ t ≤ 20159) (hS : S < 2 ^ bn) : ∃ (g' : AG) (j' : Int), M_tonight_b t wh 3 (c, m, p, S, cnt, bn, -1) g = M_tonight_b t wh 2 (c, m, p, ((S + if mayB g t p bn = true then 2 ^ bn else 0 : Nat) : Int), cnt + (if mayB g t p bn = true then 1 else 0), (bn : Int) + 1, j') g' ∧ FR WM g g' := by
  obtain ⟨hb10, ⟨hm, e1, e2⟩, e3, e4, hr, ⟨n0, e5, e6⟩, e7, hj⟩ := L.row hb
  have hll : lsN (g (64 + bn)) t n0 0 = llF g bn t := by unfold llF; rw [e5, Int.toNat_natCast]
  have hlr : ((llF g bn t : Nat) : Int) ≤ g 74 bn := by
    have := lsN_rng (lt := g (64 + bn)) (t := t) n0 0
    rw [← hll, e5]; omega
  have e0 := M_log3_s (t := t) (wh := wh) (c := c) (m := m) (p := p) (S := S) (cnt := cnt) rfl L hb ht n0 0 (by omega)
  rw [hll, show ((0 : Nat) : Int) - 1 = -1 by decide] at e0
  rw [e0]
  clear e0
  have pl := L.place hb hlr
  obtain ⟨g1, r1, f1⟩ := M_led1 (b := bn) (a := plF g bn (llF g bn t)) (c := p) (t := tmF g bn (llF g bn t)) (g := g) L.1 hf hb10 pl.1 hp (by rw [e4]; exact hr) (Or.inr pl.2)
  rw [e4] at r1
  have lt := ldM_tm (g := g) (a := plF g bn (llF g bn t)) (c := p) (ta := g 51 bn) (t := tmF g bn (llF g bn t)) L.1 pl.1 hp hr (Or.inr pl.2)
  have oa := or_add bn hb10 S hS
  -- what is led
  have c1 : 0 ≤ nw (bn : Int) ∧ nw (bn : Int) < 10 := by clear lt r1 pl hll; rw [nw_id (by omega) (by omega)]; omega
  have c2 : ix (bn : Int) = bn := by clear c1 lt r1 pl hll; rw [ix_id (by omega) (by omega), Int.toNat_natCast]
  have head : (if nw ((llF g bn t : Int) - 1) = -1 then (if 0 ≤ nw (bn : Int) ∧ nw (bn : Int) < 10 then (M_led bn (g 126 (ix (bn : Int))) p 0 g >>= fun r6 => some (r6.1, r6.2)) else none) else (if 0 ≤ nw (10 * (bn : Int) + ((llF g bn t : Int) - 1)) ∧ nw (10 * (bn : Int) + ((llF g bn t : Int) - 1)) < 100 then (M_led bn (g 156 (ix (10 * (bn : Int) + ((llF g bn t : Int) - 1)))) p (g 157 (ix (10 * (bn : Int) + ((llF g bn t : Int) - 1)))) g >>= fun r3 => some (r3.1, r3.2)) else none)) = some (ldM g (g 51 bn) (plF g bn (llF g bn t)) p (tmF g bn (llF g bn t)), g1) := by
    rw [← r1]
    clear r1 lt oa
    generalize llF g bn t = k at hlr pl
    unfold plF tmF at pl ⊢
    by_cases z : k = 0
    · subst z
      rw [show ((0 : Nat) : Int) - 1 = -1 by decide, nw_m1, if_pos rfl, if_pos c1, c2, e3, if_pos rfl, if_pos rfl, e1, Int.toNat_natCast]
      cases M_led bn hm p 0 g <;> rfl
    · obtain ⟨⟨q, q1, q2⟩, qt, q3, q4⟩ := hj (k - 1) (by clear c1 c2; omega)
      have z1 : ¬ nw ((k : Int) - 1) = -1 := by clear c1 c2; rw [nw_id (by omega) (by omega)]; omega
      have z2 : 0 ≤ nw (10 * (bn : Int) + ((k : Int) - 1)) ∧ nw (10 * (bn : Int) + ((k : Int) - 1)) < 100 := by clear c1 c2 z1; rw [nw_id (by omega) (by omega)]; omega
      have z3 : ix (10 * (bn : Int) + ((k : Int) - 1)) = 10 * bn + (k - 1) := by clear c1 c2 z1 z2; rw [ix_id (by omega) (by omega)]; omega
      rw [if_neg z1, if_pos z2, z3, if_neg z, if_neg z, q3, q4, q1, Int.toNat_natCast]
      cases M_led bn q p (g (64 + bn) (k - 1)) g <;> rfl
  refine ⟨g1, (llF g bn t : Int) - 1, ?_, f1⟩
  rw [M_tonight_b.eq_1 _ _ 4, if_neg (by decide), if_neg (by decide), if_neg (by decide), if_pos rfl]
  dsimp only
  rw [head, sb]
  dsimp only
  unfold mayB
  clear head r1 pl hll hlr
  generalize ldM g (g 51 bn) (plF g bn (llF g bn t)) p (tmF g bn (llF g bn t)) = M at lt ⊢
  have lt1 : M = -1 ∨ (0 ≤ M ∧ M ≤ 20159) := lt
  clear lt c1 c2
  by_cases d1 : M = -1
  · have d2 : ¬ (¬ M = -1 ∧ M ≤ t) := fun q => q.1 d1
    rw [decide_eq_false d2, d1, nw_m1, if_pos rfl, sb]
    dsimp only
    rw [if_neg (by decide), if_neg (by decide), Nat.add_zero, Int.add_zero]
  · have n1 : nw M = M := nw_id (by omega) (by omega)
    have n2 : nw t = t := by clear n1; exact nw_id (by omega) (by omega)
    have n3 : ¬ nw M = -1 := by rw [n1]; exact d1
    rw [if_neg n3]
    by_cases d3 : M ≤ t
    · have d2 : (¬ M = -1 ∧ M ≤ t) := ⟨d1, d3⟩
      rw [decide_eq_true d2, if_pos (by rw [n1, n2]; exact d3), sb]
      dsimp only
      rw [oa, if_pos rfl, if_pos rfl]
    · have d2 : ¬ (¬ M = -1 ∧ M ≤ t) := fun q => d3 q.2
      rw [decide_eq_false d2, if_neg (by rw [n1, n2]; exact d3), sb]
      dsimp only
      rw [if_neg (by decide), if_neg (by decide), Nat.add_zero, Int.add_zero]
theorem pc_tn {may : Nat → Bool} : ∀ k, k ≤ 10 → ∀ b, b = (if may k = true then (1 : Int) else 0) → k < 10 → pcF (tnN may (k + 1)) = pcF (tnN may k) + b := by
  intro k hk b hb h10
  subst hb
  show pcF (tnN may k + if may k = true then 2 ^ k else 0) = _
  cases h : may k with
  | true => rw [if_pos rfl, if_pos rfl]; exact pc_add k h10 _ (tnN_lt k)
  | false => rw [if_neg (by decide), if_neg (by decide)]; simp
/-- all boats, at one point -/
theorem M_boats_s {t wh : Int} (ht : 0 ≤ t ∧ t ≤ 20159) {p : Nat} (hp : p ≤ 15) {may : Nat → Bool} {c m : Int} : ∀ (n b : Nat) (j : Int) (g : AG), ((b + n : Nat) : Int) = g 6 7 → JL g → JFlag g → (∀ b : Nat, (b : Int) < g 6 7 → mayB g t p b = may b) → ∃ (g' : AG) (j' : Int), M_tonight_b t wh 2 (c, m, p, (tnN may b : Nat), pcF (tnN may b), b, j) g = (if (p : Int) = nw wh then some (((tnN may (b + n) : Nat) : Int), g') else M_tonight_b t wh 1 ((if pcF (tnN may (b + n)) ≤ nw m then c else p), (if pcF (tnN may (b + n)) ≤ nw m then m else pcF (tnN may (b + n))), (p : Int) + 1, (tnN may (b + n) : Nat), pcF (tnN may (b + n)), ((b + n : Nat) : Int), j') g') ∧ FR WM g g' := by
  intro n
  induction n with
  | zero =>
    intro b j g h L hf hm
    have B := L.2.1.1
    refine ⟨g, j, ?_, Fr.rf⟩
    have pr := pc_rng (tnN may b)
    have c0 : nw (g 117 12) ≤ nw (b : Int) := by clear pr; rw [nw_id (by omega) (by omega), nw_id (by omega) (by omega)]; omega
    have c1 : nw (p : Int) = p := by clear c0 pr; exact nw_id (by omega) (by omega)
    have c2 : nw (pcF (tnN may b)) = pcF (tnN may b) := by clear c0 c1; exact nw_id (by omega) (by omega)
    rw [M_tonight_b.eq_1 _ _ 2, if_neg (by decide), if_pos rfl]
    dsimp only
    rw [if_pos c0]
    simp only [c1, c2, sb, Nat.add_zero]
  | succ n ih =>
    intro b j g h L hf hm
    have B := L.2.1.1
    have hb : (b : Int) < g 6 7 := by omega
    have hb10 : b < 10 := by omega
    obtain ⟨g1, j1, e1, f1⟩ := M_four_s (t := t) (wh := wh) (c := c) (m := m) (cnt := pcF (tnN may b)) L hf hb hp ht (tnN_lt (may := may) b)
    rw [hm b hb] at e1
    have e2 : ((tnN may b + if may b = true then 2 ^ b else 0 : Nat) : Int) = (tnN may (b + 1) : Nat) := rfl
    have e3 : pcF (tnN may b) + (if may b = true then 1 else 0) = pcF (tnN may (b + 1)) := (pc_tn b (by omega) _ rfl hb10).symm
    rw [e2, e3] at e1
    obtain ⟨g2, j2, e4, f2⟩ := ih (b + 1) j1 g1 (by rw [f1 6 7 rfl]; omega) (L.fr f1 rfl rfl rfl) (by unfold JFlag; rw [f1 117 47 rfl]; exact hf) (fun b' hb' => by
      rw [f1 6 7 rfl] at hb'
      rw [mayB_fr (by omega) f1 rfl rfl]
      exact hm b' hb')
    rw [show ((b + 1 : Nat) : Int) = (b : Int) + 1 from rfl, show b + 1 + n = b + (n + 1) by omega] at e4
    refine ⟨g2, j2, ?_, f1.tr f2⟩
    rw [← e4, ← e1]
    have c0 : ¬ nw (g 117 12) ≤ nw (b : Int) := by rw [nw_id (by omega) (by omega), nw_id (by omega) (by omega)]; omega
    rw [M_tonight_b.eq_1 _ _ 2, if_neg (by decide), if_pos rfl]
    dsimp only
    rw [if_neg c0]
theorem cwF_step {pc : Nat → Int} {n q best : Nat} : cwF pc (n + 1) q best = cwF pc n (q + 1) (if pc best < pc q then q else best) := rfl
/-- the points from q on -/
theorem M_pts_s {t wh : Int} (ht : 0 ≤ t ∧ t ≤ 20159) (hw : 0 ≤ wh ∧ wh ≤ 17) {may : Nat → Nat → Bool} {N : Nat} : ∀ (n q : Nat) (best : Nat) (m c S cnt b j : Int) (g : AG), q + n = 16 → ((N : Nat) : Int) = g 6 7 → JL g → JFlag g → (∀ p b : Nat, (b : Int) < g 6 7 → mayB g t p b = may p b) → c = best → best < 16 → ((q = 0 ∧ m = 0 ∧ best = 0) ∨ (0 < q ∧ m = pcF (tnN (may best) N))) → (wh < q → 16 ≤ wh) → ∃ g', M_tonight_b t wh 1 (c, m, q, S, cnt, b, j) g = some ((if wh < 16 then (tnN (may wh.toNat) N : Int) else if wh = 16 then ((cwF (fun p => pcF (tnN (may p) N)) n q best : Nat) : Int) else pcF (tnN (may (cwF (fun p => pcF (tnN (may p) N)) n q best)) N)), g') ∧ FR WM g g' := by
  intro n
  induction n with
  | zero =>
    intro q best m c S cnt b j g h hN L hf hm hc hb16 hmm hwq
    refine ⟨g, ?_, Fr.rf⟩
    have hm2 : m = pcF (tnN (may best) N) := by omega
    have w16 : ¬ wh < 16 := by omega
    have c0 : 16 ≤ nw (q : Int) := by rw [nw_id (by omega) (by omega)]; omega
    have c1 : nw wh = wh := by clear c0; exact nw_id (by omega) (by omega)
    rw [M_tonight_b, if_pos rfl]
    dsimp only
    rw [if_pos c0, sb, if_neg w16, hm2, hc]
    simp only [c1]
    rfl
  | succ n ih =>
    intro q best m c S cnt b j g h hN L hf hm hc hb16 hmm hwq
    have B := L.2.1.1
    obtain ⟨g1, j1, e1, f1⟩ := M_boats_s (t := t) (wh := wh) ht (p := q) (by omega) (may := may q) (c := c) (m := m) N 0 j g (by omega) L hf (fun b hb => hm q b hb)
    have c0 : ¬ 16 ≤ nw (q : Int) := by rw [nw_id (by omega) (by omega)]; omega
    have c1 : nw wh = wh := by clear c0; exact nw_id (by omega) (by omega)
    have e0 : M_tonight_b t wh 1 (c, m, q, S, cnt, b, j) g = M_tonight_b t wh 2 (c, m, q, ((tnN (may q) 0 : Nat) : Int), pcF (tnN (may q) 0), ((0 : Nat) : Int), j) g := by
      rw [M_tonight_b.eq_1 _ _ 1, if_pos rfl]
      dsimp only
      have z0 : tnN (may q) 0 = 0 := rfl
      have z1 : pcF 0 = 0 := by decide
      rw [if_neg c0, z0, z1]
      rfl
    rw [e0, e1, c1, Nat.zero_add]
    clear c0 c1 e0 e1
    have pr := pc_rng (tnN (may q) N)
    have prb := pc_rng (tnN (may best) N)
    have nm : nw m = m := by
      rcases hmm with ⟨_, z, _⟩ | ⟨_, z⟩
      · rw [z]; exact nw_0
      · rw [z]; exact nw_id (by omega) (by omega)
    by_cases d : (q : Int) = wh
    · rw [if_pos d, if_pos (by clear nm pr prb; omega), ← d, Int.toNat_natCast]
      exact ⟨g1, rfl, f1⟩
    · rw [if_neg d, nm]
      obtain ⟨best', hb', hbl, hcase⟩ : ∃ best' : Nat, best' = (if pcF (tnN (may best) N) < pcF (tnN (may q) N) then q else best) ∧ best' < 16 ∧ True := ⟨_, rfl, by split <;> (clear nm pr prb; omega), trivial⟩
      have hcm : (if pcF (tnN (may q) N) ≤ m then c else (q : Int)) = best' ∧ (if pcF (tnN (may q) N) ≤ m then m else pcF (tnN (may q) N)) = pcF (tnN (may best') N) := by
        clear nm
        rcases hmm with ⟨z1, z2, z3⟩ | ⟨z1, z2⟩
        · subst z1; subst z3
          rw [if_neg (Int.lt_irrefl _)] at hb'
          rw [hb', z2, hc]
          by_cases y : pcF (tnN (may 0) N) ≤ 0
          · rw [if_pos y, if_pos y]
            exact ⟨rfl, by omega⟩
          · rw [if_neg y, if_neg y]
            exact ⟨rfl, rfl⟩
        · rw [z2, hc]
          by_cases y : pcF (tnN (may best) N) < pcF (tnN (may q) N)
          · rw [if_pos y] at hb'
            rw [if_neg (by omega), if_neg (by omega), hb']
            exact ⟨rfl, rfl⟩
          · rw [if_neg y] at hb'
            rw [if_pos (by omega), if_pos (by omega), hb']
            exact ⟨rfl, rfl⟩
      obtain ⟨g2, e2, f2⟩ := ih (q + 1) best' (pcF (tnN (may best') N)) best' (tnN (may q) N : Nat) (pcF (tnN (may q) N)) ((N : Nat) : Int) j1 g1 (by clear nm pr prb; omega) (by rw [f1 6 7 rfl]; exact hN) (L.fr f1 rfl rfl rfl) (by unfold JFlag; rw [f1 117 47 rfl]; exact hf) (fun p b' hb' => by
        rw [f1 6 7 rfl] at hb'
        have : b' < 10 := by clear nm pr prb; omega
        rw [mayB_fr this f1 rfl rfl]
        exact hm p b' hb') rfl hbl (Or.inr ⟨by clear nm pr prb; omega, rfl⟩) (by clear nm pr prb; intro z; omega)
      rw [show ((q + 1 : Nat) : Int) = (q : Int) + 1 from rfl] at e2
      refine ⟨g2, ?_, f1.tr f2⟩
      rw [hcm.1, hcm.2, e2, cwF_step, ← hb']
theorem sm_tonight {x1 x2 : Int} {g : AG} (h1 : I32 x1) (h2 : I32 x2) (L : JL g) (hf : JFlag g) (A : JArr g) :
    ∃ r1 r2, X_tonight x1 x2 g = some r1 ∧ M_tonight x1 x2 r1.2 = some r2 ∧ nw r1.1 = nw r2.1 ∧ FR [(5, 7), (5, 8), (46, 0), (47, 0), (75, 0), (147, 0), (148, 0), (117, 49)] g r2.2 ∧ JArr r2.2 := by
  unfold I32 at *
  have B := L.2.1.1
  by_cases h : 0 ≤ x1 ∧ x1 ≤ 20159 ∧ 0 ≤ x2 ∧ x2 ≤ 17
  · obtain ⟨N, hN⟩ := natOf B.2.1
    have f0 : FR [(75, 0)] g (fillG g 75 16 0) := Fr.fill Fr.rf (fun _ => rfl)
    have L0 := L.fr f0 rfl rfl rfl
    obtain ⟨g1, e1, f1, p1, A1⟩ := X_settle_s (t := x1) (by omega) (may := fun p b => mayB g x1 p b) N 0 0 0 (fillG g 75 16 0) (by rw [f0 6 7 rfl]; omega) L0 (fun p hp => by rw [f0 46 p rfl]; exact A p hp) (fun p b hb => by
      rw [f0 6 7 rfl] at hb
      exact mayB_fr (by omega) f0 rfl rfl p) (fun p hp => by simp [fill_at, hp, tnN])
    rw [Nat.zero_add] at p1
    have fT : FR [(5, 7), (5, 8), (46, 0), (47, 0), (75, 0)] g g1 := (f0.mo rfl).tr f1
    have hS : ∀ p, p < 16 → tnN (fun b => mayB g x1 p b) N < 1024 := fun p _ => Nat.lt_of_lt_of_le (tnN_lt N) (Nat.le_trans (Nat.pow_le_pow_right (by decide) (show N ≤ 10 by omega)) (by decide))
    have cr := X_crowd_s (g := g1) (S := fun p => tnN (fun b => mayB g x1 p b) N) hS p1 15 1 0 (by omega) (by omega)
    have crl := cwF_lt (pc := fun p => pcF (tnN (fun b => mayB g x1 p b) N)) 15 1 0 (by omega) (by omega)
    have cw0 : cwF (fun p => pcF (tnN (fun b => mayB g x1 p b) N)) 16 0 0 = cwF (fun p => pcF (tnN (fun b => mayB g x1 p b) N)) 15 1 0 := by
      rw [cwF_step, ite_self]
    obtain ⟨g2, e2, f2⟩ := M_pts_s (t := x1) (wh := x2) (by omega) (by omega) (may := fun p b => mayB g x1 p b) (N := N) 16 0 0 0 0 0 0 0 0 g1 (by omega) (by rw [fT 6 7 rfl]; omega) (L.fr fT rfl rfl rfl) (by unfold JFlag; rw [fT 117 47 rfl]; exact hf) (fun p b hb => by
      rw [fT 6 7 rfl] at hb
      exact mayB_fr (by omega) fT rfl rfl p) rfl (by omega) (Or.inl ⟨rfl, rfl, rfl⟩) (by omega)
    rw [cw0] at e2
    generalize cwF (fun p => pcF (tnN (fun b => mayB g x1 p b) N)) 15 1 0 = cw at cr crl e2
    have eX : X_tonight x1 x2 g = some ((if x2 < 16 then (tnN (fun b => mayB g x1 x2.toNat b) N : Int) else if x2 = 16 then (cw : Int) else pcF (tnN (fun b => mayB g x1 cw b) N)), g1) := by
      have d1 : ¬ nw (X_isTime x1) = 0 := by rw [isTimeX0 (by omega) (by omega)]; omega
      have d2 : ¬ nw (X_within x2 0 17) = 0 := by clear d1; rw [within0 (by omega) (by omega) (by omega) (by omega) (by omega) (by omega)]; omega
      have d3 : nw x2 = x2 := by clear d1 d2; exact nw_id (by omega) (by omega)
      have es : Boats_settleTonight x1 g = some (0, g1) := by
        unfold Boats_settleTonight
        rw [sb]
        exact e1
      unfold X_tonight
      rw [if_neg d1, if_neg d2, es, sb]
      dsimp only
      rw [d3]
      by_cases y : x2 < 16
      · have d4 : ix x2 = x2.toNat := by clear d1 d2 d3; exact ix_id (by omega) (by omega)
        rw [if_neg (by clear d1 d2 d3; omega), if_pos (by clear d1 d2 d3; omega), if_pos y, d4, p1 x2.toNat (by clear d1 d2 d3 d4; omega)]
      · have ec : Boats_crowd g1 = some (cw : Int) := cr
        rw [if_pos (by clear d1 d2 d3; omega), ec, sb, if_neg y]
        by_cases y2 : x2 = 16
        · rw [if_pos y2, if_pos y2, sb]
        · have d4 : 0 ≤ nw (cw : Int) ∧ nw (cw : Int) < 16 := by clear d1 d2 d3; rw [nw_id (by omega) (by omega)]; omega
          have d5 : ix (cw : Int) = cw := by clear d1 d2 d3 d4; rw [ix_id (by omega) (by omega), Int.toNat_natCast]
          rw [if_neg y2, if_neg y2, if_pos d4, d5, p1 cw crl, pc_s (hS cw crl), sb, sb]
    have d1 : ¬ nw (M_isTime x1) = 0 := by rw [isTime0 (by omega) (by omega)]; omega
    have d2 : ¬ nw (M_isIn x2 0 17) = 0 := by clear d1; rw [isIn0 (by omega) (by omega) (by omega) (by omega) (by omega) (by omega)]; omega
    have eM : ∀ v, M_tonight_b x1 x2 1 (((0 : Nat) : Int), 0, ((0 : Nat) : Int), 0, 0, 0, 0) g1 = some v → M_tonight x1 x2 g1 = some v := by
      intro v hv
      unfold M_tonight
      rw [if_neg d1, if_neg d2]
      exact hv
    exact ⟨_, _, eX, eM _ e2, rfl, (fT.mo rfl).tr (f2.mo rfl), fun p hp => by show TmOk (g2 46 p); rw [f2 46 p rfl]; exact A1 p hp⟩
  · have eX : X_tonight x1 x2 g = some (-1, g) := by
      unfold X_tonight
      by_cases c1 : x1 < 0 ∨ 20159 < x1
      · simp (disch := omega) only [nw_id, ix_id, sb, if_true, if_false, if_pos, if_neg, true_and, and_true, false_and, and_false, and_self, isTimeX0]
      · simp (disch := omega) only [nw_id, ix_id, sb, if_true, if_false, if_pos, if_neg, true_and, and_true, false_and, and_false, and_self, isTimeX0, within0]
    have eM : M_tonight x1 x2 g = some (-1, g) := by
      unfold M_tonight
      by_cases c1 : x1 < 0 ∨ 20159 < x1
      · simp (disch := omega) only [nw_id, ix_id, sb, if_true, if_false, if_pos, if_neg, true_and, and_true, false_and, and_false, and_self, isTime0]
      · simp (disch := omega) only [nw_id, ix_id, sb, if_true, if_false, if_pos, if_neg, true_and, and_true, false_and, and_false, and_self, isTime0, isIn0]
    exact ⟨_, _, eX, eM, rfl, Fr.rf, A⟩
end
section
/-! plain programs: the van -/
def dvF (rd : Nat → Int) (a b : Nat) : Int := if a ≤ b then sm rd b - sm rd a else sm rd a - sm rd b
theorem sm_step (f : Nat → Int) (n : Nat) : sm f (n + 1) = sm f n + f n := rfl
theorem sm_rng {f : Nat → Int} (h : ∀ i, i < 15 → 1 ≤ f i ∧ f i ≤ 99) {a b : Nat} (hab : a ≤ b) (hb : b ≤ 15) : 0 ≤ sm f b - sm f a ∧ sm f b - sm f a ≤ 99 * ((b : Int) - a) := by
  obtain ⟨n, rfl⟩ : ∃ n, b = a + n := ⟨b - a, by omega⟩
  clear hab
  induction n with
  | zero => simp
  | succ n ih =>
    have := ih (by omega)
    have h1 := h (a + n) (by omega)
    rw [show a + (n + 1) = (a + n) + 1 by omega, sm_step]
    omega
theorem dv_rng {rd : Nat → Int} (h : ∀ i, i < 15 → 1 ≤ rd i ∧ rd i ≤ 99) {a b : Nat} (ha : a ≤ 15) (hb : b ≤ 15) : 0 ≤ dvF rd a b ∧ dvF rd a b ≤ 1485 := by
  unfold dvF
  split
  · next q => have := sm_rng h q hb; omega
  · next q => have := sm_rng h (a := b) (b := a) (by omega) ha; omega
theorem dv_cg {f h : Nat → Int} (e : ∀ i, i < 15 → f i = h i) {a b : Nat} (ha : a ≤ 15) (hb : b ≤ 15) : dvF f a b = dvF h a b := by
  unfold dvF
  rw [sm_cg a (fun i hi => e i (by omega)), sm_cg b (fun i hi => e i (by omega))]
theorem M_drive_b_s {g : AG} {a b : Nat} (ha : a ≤ 15) (hb : b ≤ 15) (hr : ∀ i, i < 15 → 1 ≤ g 120 i ∧ g 120 i ≤ 99) : ∀ (n k : Nat) (acc : Int), k + n = max a b → M_drive_b a b g acc k = some (acc + (sm (g 120) (max a b) - sm (g 120) k)) := by
  have mx : (if nw (b : Int) ≤ nw (a : Int) then (a : Int) else b) = ((max a b : Nat) : Int) := by
    have n1 : nw (a : Int) = a := nw_id (by omega) (by omega)
    have n2 : nw (b : Int) = b := by clear n1; exact nw_id (by omega) (by omega)
    rw [n1, n2]
    clear n1 n2
    split <;> omega
  intro n
  induction n with
  | zero =>
    intro k acc h
    have c0 : nw ((max a b : Nat) : Int) ≤ nw (k : Int) := by clear mx; rw [nw_id (by omega) (by omega), nw_id (by omega) (by omega)]; omega
    rw [M_drive_b, sb, mx, if_pos c0, show k = max a b by clear mx c0; omega]
    exact congrArg some (by clear mx c0; omega)
  | succ n ih =>
    intro k acc h
    have c0 : ¬ nw ((max a b : Nat) : Int) ≤ nw (k : Int) := by clear mx; rw [nw_id (by omega) (by omega), nw_id (by omega) (by omega)]; omega
    have c1 : 0 ≤ nw (k : Int) ∧ nw (k : Int) < 15 := by clear mx c0; rw [nw_id (by omega) (by omega)]; omega
    have c2 : ix (k : Int) = k := by clear mx c0 c1; rw [ix_id (by omega) (by omega), Int.toNat_natCast]
    have e := ih (k + 1) (acc + g 120 k) (by clear mx c0 c1; omega)
    rw [show ((k + 1 : Nat) : Int) = (k : Int) + 1 from rfl] at e
    rw [M_drive_b, sb, mx, if_neg c0, if_pos c1, c2, e, sm_step]
    clear mx c0 c1 c2 e
    congr 1
    omega
theorem M_drive_s {g : AG} {a b : Nat} (ha : a ≤ 15) (hb : b ≤ 15) (hr : ∀ i, i < 15 → 1 ≤ g 120 i ∧ g 120 i ≤ 99) : M_drive a b g = some (dvF (g 120) a b) := by
  have mx : (if nw (b : Int) ≤ nw (a : Int) then (b : Int) else a) = ((min a b : Nat) : Int) := by
    have n1 : nw (a : Int) = a := nw_id (by omega) (by omega)
    have n2 : nw (b : Int) = b := by clear n1; exact nw_id (by omega) (by omega)
    rw [n1, n2]
    clear n1 n2
    split <;> omega
  unfold M_drive
  rw [mx, sb, M_drive_b_s ha hb hr (max a b - min a b) (min a b) 0 (by clear mx; omega)]
  clear mx
  unfold dvF
  by_cases q : a ≤ b
  · rw [if_pos q, show max a b = b by omega, show min a b = a by omega, Int.zero_add]
  · rw [if_neg q, show max a b = a by omega, show min a b = b by omega, Int.zero_add]
def JAlong (g : AG) : Prop := g 108 0 = 0
theorem measure_s : ∀ (n k : Nat) (g : AG), k + n = 15 → (∀ i : Nat, i ≤ k → g 108 i = sm (g 15) i) → ∃ g', Vans_measure_b k g = some (0, g') ∧ FR [(108, 0)] g g' ∧ (∀ i : Nat, i ≤ 15 → g' 108 i = sm (g 15) i) := by
  intro n
  induction n with
  | zero =>
    intro k g h hg
    refine ⟨g, ?_, Fr.rf, fun i hi => hg i (by omega)⟩
    rw [Vans_measure_b]
    simp (disch := omega) only [nw_id, ix_id, sb, if_true, if_false, if_pos, if_neg, true_and, and_true, false_and, and_false, and_self]
  | succ n ih =>
    intro k g h hg
    have f1 : FR [(108, 0)] g (up g 108 (k + 1) (g 108 k + g 15 k)) := Fr.up Fr.rf rfl
    have c15 : (up g 108 (k + 1) (g 108 k + g 15 k)) 15 = g 15 := f1.cell (fun _ => rfl)
    obtain ⟨g2, e2, f2, p2⟩ := ih (k + 1) (up g 108 (k + 1) (g 108 k + g 15 k)) (by omega) (by
      intro i hi
      rw [c15]
      simp only [up_at, true_and]
      by_cases e : i = k + 1
      · rw [if_pos e, e, sm_step, hg k (Nat.le_refl _)]
      · rw [if_neg e]; exact hg i (by omega))
    rw [c15] at p2
    rw [show ((k + 1 : Nat) : Int) = (k : Int) + 1 from rfl] at e2
    refine ⟨g2, ?_, f1.tr f2, p2⟩
    rw [Vans_measure_b]
    simp (disch := omega) only [nw_id, ix_id, sb, if_true, if_false, if_pos, if_neg, true_and, and_true, false_and, and_false, and_self, Int.toNat_natCast, show ((k : Int) + 1).toNat = k + 1 by omega]
    exact e2
theorem minutes_s {g : AG} {rd : Nat → Int} {a b : Nat} (ha : a ≤ 15) (hb : b ≤ 15) (hr : ∀ i, i < 15 → 1 ≤ rd i ∧ rd i ≤ 99) (hg : ∀ i : Nat, i ≤ 15 → g 108 i = sm rd i) : Vans_minutes a b g = some (dvF rd a b) := by
  have c1 : 0 ≤ nw (a : Int) ∧ nw (a : Int) < 16 := by rw [nw_id (by omega) (by omega)]; omega
  have c2 : 0 ≤ nw (b : Int) ∧ nw (b : Int) < 16 := by clear c1; rw [nw_id (by omega) (by omega)]; omega
  have c3 : ix (a : Int) = a := by clear c1 c2; rw [ix_id (by omega) (by omega), Int.toNat_natCast]
  have c4 : ix (b : Int) = b := by clear c1 c2 c3; rw [ix_id (by omega) (by omega), Int.toNat_natCast]
  unfold Vans_minutes
  rw [if_pos c1, if_pos c2, c3, c4, hg a ha, hg b hb]
  clear c1 c2 c3 c4
  congr 1
  unfold abI dvF
  by_cases q : a ≤ b
  · have := sm_rng hr q hb
    rw [if_pos q, nw_id (by omega) (by omega)]
    split <;> omega
  · have := sm_rng hr (a := b) (b := a) (by omega) ha
    rw [if_neg q, nw_id (by omega) (by omega)]
    split <;> omega
/-- what stands, for the van: the roads rd, the weights w -/
def VX (g : AG) (rd w : Nat → Int) : Prop := (∀ i, i < 15 → 1 ≤ rd i ∧ rd i ≤ 99) ∧ (∀ i : Nat, i ≤ 15 → g 108 i = sm rd i) ∧ (∀ p : Nat, p < 16 → g 107 p = w p ∧ 0 ≤ w p ∧ w p ≤ 99)
def VM (g : AG) (rd w : Nat → Int) : Prop := (∀ i, i < 15 → 1 ≤ rd i ∧ rd i ≤ 99) ∧ (∀ i, i < 15 → g 120 i = rd i) ∧ (∀ p : Nat, p < 16 → g 180 p = w p ∧ 0 ≤ w p ∧ w p ≤ 99)
theorem VM.drive {g : AG} {rd w : Nat → Int} (V : VM g rd w) {a b : Nat} (ha : a ≤ 15) (hb : b ≤ 15) : M_drive a b g = some (dvF rd a b) := by
  rw [M_drive_s ha hb (fun i hi => by rw [V.2.1 i hi]; exact V.1 i hi), dv_cg V.2.1 ha hb]
def suF (rd w : Nat → Int) (a b : Nat) : Nat → Int := sm (fun q => w q * min (dvF rd a q) (dvF rd b q))
theorem mul_rng {x y : Int} (h1 : 0 ≤ x) (h2 : x ≤ 99) (h3 : 0 ≤ y) (h4 : y ≤ 1485) : 0 ≤ x * y ∧ x * y ≤ 147015 := by
  refine ⟨Int.mul_nonneg h1 h3, ?_⟩
  have := Int.mul_le_mul h2 h4 h3 (by decide)
  omega
theorem su_rng {rd w : Nat → Int} (hr : ∀ i, i < 15 → 1 ≤ rd i ∧ rd i ≤ 99) (hw : ∀ p : Nat, p < 16 → 0 ≤ w p ∧ w p ≤ 99) {a b : Nat} (ha : a ≤ 15) (hb : b ≤ 15) : ∀ n, n ≤ 16 → 0 ≤ suF rd w a b n ∧ suF rd w a b n ≤ 147015 * n := by
  intro n
  induction n with
  | zero => intro _; exact ⟨Int.le_refl _, Int.le_refl _⟩
  | succ n ih =>
    intro h
    have := ih (by omega)
    have d1 := dv_rng hr ha (b := n) (by omega)
    have d2 := dv_rng hr hb (b := n) (by omega)
    have m := mul_rng (x := w n) (y := min (dvF rd a n) (dvF rd b n)) (hw n (by omega)).1 (hw n (by omega)).2 (by omega) (by omega)
    show 0 ≤ suF rd w a b n + w n * min (dvF rd a n) (dvF rd b n) ∧ suF rd w a b n + w n * min (dvF rd a n) (dvF rd b n) ≤ _
    omega
theorem X_sumFrom_s {g : AG} {rd w : Nat → Int} (V : VX g rd w) {a b : Nat} (ha : a ≤ 15) (hb : b ≤ 15) : Vans_sumFrom a b g = some (suF rd w a b 16) := by
  obtain ⟨hr, hg, hw⟩ := V
  have key : ∀ (n k : Nat), k + n = 16 → Vans_sumFrom_b a b g (suF rd w a b k) k = some (suF rd w a b 16) := by
    intro n
    induction n with
    | zero =>
      intro k h
      rw [Vans_sumFrom_b]
      have : k = 16 := by omega
      subst this
      simp (disch := omega) only [nw_id, ix_id, sb, if_true, if_false, if_pos, if_neg, true_and, and_true, false_and, and_false, and_self]
    | succ n ih =>
      intro k h
      have e := ih (k + 1) (by omega)
      rw [show ((k + 1 : Nat) : Int) = (k : Int) + 1 from rfl] at e
      have d1 := dv_rng hr ha (b := k) (by omega)
      have d2 := dv_rng hr hb (b := k) (by omega)
      have mn : mnI (dvF rd a k) (dvF rd b k) = min (dvF rd a k) (dvF rd b k) := mnI_s (by omega) (by omega) (by omega) (by omega)
      have m1 := minutes_s (g := g) ha (b := k) (by omega) hr hg
      have m2 := minutes_s (g := g) hb (b := k) (by omega) hr hg
      have c0 : ¬ 16 ≤ nw (k : Int) := by clear mn; rw [nw_id (by omega) (by omega)]; omega
      have c1 : 0 ≤ nw (k : Int) ∧ nw (k : Int) < 16 := by clear c0 mn; rw [nw_id (by omega) (by omega)]; omega
      have c2 : ix (k : Int) = k := by clear c0 c1 mn; rw [ix_id (by omega) (by omega), Int.toNat_natCast]
      rw [← e, Vans_sumFrom_b, if_neg c0, if_pos c1, m1, sb, m2, sb, c2, (hw k (by clear c0 c1 mn; omega)).1, mn]
      rfl
  exact key 16 0 rfl
theorem M_sumOf_s {g : AG} {rd w : Nat → Int} (V : VM g rd w) {p : Nat} (hp : p ≤ 15) : M_sumOf p g = some (suF rd w p p 16) := by
  have key : ∀ (n k : Nat), k + n = 16 → M_sumOf_b p g (suF rd w p p k) k = some (suF rd w p p 16) := by
    intro n
    induction n with
    | zero =>
      intro k h
      rw [M_sumOf_b]
      have : k = 16 := by omega
      subst this
      simp (disch := omega) only [nw_id, ix_id, sb, if_true, if_false, if_pos, if_neg, true_and, and_true, false_and, and_false, and_self]
    | succ n ih =>
      intro k h
      have e := ih (k + 1) (by omega)
      rw [show ((k + 1 : Nat) : Int) = (k : Int) + 1 from rfl] at e
      have m1 := V.drive hp (b := k) (by omega)
      have c0 : ¬ 16 ≤ nw (k : Int) := by rw [nw_id (by omega) (by omega)]; omega
      have c1 : 0 ≤ nw (k : Int) ∧ nw (k : Int) < 16 := by clear c0; rw [nw_id (by omega) (by omega)]; omega
      have c2 : ix (k : Int) = k := by clear c0 c1; rw [ix_id (by omega) (by omega), Int.toNat_natCast]
      have mn : min (dvF rd p k) (dvF rd p k) = dvF rd p k := by clear c0 c1 c2; omega
      have e3 : suF rd w p p (k + 1) = suF rd w p p k + w k * dvF rd p k := by
        show suF rd w p p k + w k * min (dvF rd p k) (dvF rd p k) = _
        rw [mn]
      rw [← e, M_sumOf_b, if_neg c0, if_pos c1, m1, sb, c2, (V.2.2 k (by clear c0 c1 mn; omega)).1, e3]
  exact key 16 0 rfl
def woF (rd w : Nat → Int) (p : Nat) : Nat → Nat → Int → Int
  | 0, _, v => v
  | n + 1, q, v => woF rd w p n (q + 1) (if 0 < w q ∧ v < dvF rd p q then dvF rd p q else v)
theorem X_worst_s {g : AG} {rd w : Nat → Int} (V : VX g rd w) {p : Nat} (hp : p ≤ 15) : ∀ (n q : Nat) (v : Int), q + n = 16 → 0 ≤ v → v ≤ 1485 → Vans_worstFrom_b p g v q = some (woF rd w p n q v) := by
  obtain ⟨hr, hg, hw⟩ := V
  intro n
  induction n with
  | zero =>
    intro q v h h0 h1
    rw [Vans_worstFrom_b]
    simp (disch := omega) only [nw_id, ix_id, sb, if_true, if_false, if_pos, if_neg, true_and, and_true, false_and, and_false, and_self]
    rfl
  | succ n ih =>
    intro q v h h0 h1
    have d1 := dv_rng hr hp (b := q) (by omega)
    have m1 := minutes_s (g := g) hp (b := q) (by omega) hr hg
    have wq := hw q (by omega)
    have e := ih (q + 1) (if 0 < w q ∧ v < dvF rd p q then dvF rd p q else v) (by omega) (by split <;> omega) (by split <;> omega)
    rw [show ((q + 1 : Nat) : Int) = (q : Int) + 1 from rfl] at e
    unfold woF
    rw [← e, Vans_worstFrom_b]
    clear e ih hw
    generalize dvF rd p q = D at d1 m1 ⊢
    have mx : mxI v D = max v D := mxI_s (by omega) (by omega) (by omega) (by omega)
    have c0 : ¬ 16 ≤ nw (q : Int) := by clear mx; rw [nw_id (by omega) (by omega)]; omega
    have c1 : 0 ≤ nw (q : Int) ∧ nw (q : Int) < 16 := by clear c0 mx; rw [nw_id (by omega) (by omega)]; omega
    have c2 : ix (q : Int) = q := by clear c0 c1 mx; rw [ix_id (by omega) (by omega), Int.toNat_natCast]
    have c3 : nw (w q) = w q := by clear c0 c1 c2 mx; exact nw_id (by omega) (by omega)
    rw [if_neg c0, if_pos c1, c2, wq.1]
    simp only [c3]
    clear c0 c1 c2 c3
    by_cases y : w q ≤ 0
    · rw [if_pos y, sb, if_neg (fun z => by have := z.1; clear mx; omega)]
    · rw [if_neg y, m1, sb, sb, mx]
      clear mx
      by_cases y2 : v < D
      · rw [if_pos ⟨by omega, y2⟩, show max v D = D by omega]
      · rw [if_neg (fun z => y2 z.2), show max v D = v by omega]
theorem M_worst_s {g : AG} {rd w : Nat → Int} (V : VM g rd w) {p : Nat} (hp : p ≤ 15) : ∀ (n q : Nat) (v : Int), q + n = 16 → 0 ≤ v → v ≤ 1485 → M_worstOf_b p g v q = some (woF rd w p n q v) := by
  intro n
  induction n with
  | zero =>
    intro q v h h0 h1
    rw [M_worstOf_b]
    simp (disch := omega) only [nw_id, ix_id, sb, if_true, if_false, if_pos, if_neg, true_and, and_true, false_and, and_false, and_self]
    rfl
  | succ n ih =>
    intro q v h h0 h1
    have d1 := dv_rng V.1 hp (b := q) (by omega)
    have m1 := V.drive hp (b := q) (by omega)
    have wq := V.2.2 q (by omega)
    have e := ih (q + 1) (if 0 < w q ∧ v < dvF rd p q then dvF rd p q else v) (by omega) (by split <;> omega) (by split <;> omega)
    rw [show ((q + 1 : Nat) : Int) = (q : Int) + 1 from rfl] at e
    unfold woF
    rw [← e, M_worstOf_b]
    clear e ih V
    generalize dvF rd p q = D at d1 m1 ⊢
    have c0 : ¬ 16 ≤ nw (q : Int) := by rw [nw_id (by omega) (by omega)]; omega
    have c1 : 0 ≤ nw (q : Int) ∧ nw (q : Int) < 16 := by clear c0; rw [nw_id (by omega) (by omega)]; omega
    have c2 : ix (q : Int) = q := by clear c0 c1; rw [ix_id (by omega) (by omega), Int.toNat_natCast]
    have c3 : nw (w q) = w q := by clear c0 c1 c2; exact nw_id (by omega) (by omega)
    have c4 : nw D = D := by clear c0 c1 c2 c3; exact nw_id (by omega) (by omega)
    have c5 : nw v = v := by clear c0 c1 c2 c3 c4; exact nw_id (by omega) (by omega)
    rw [if_neg c0, if_pos c1, c2, wq.1]
    simp only [c3]
    clear c0 c1 c2 c3
    by_cases y : w q ≤ 0
    · rw [if_pos y, sb, if_neg (fun z => by have := z.1; clear c4 c5; omega)]
    · rw [if_neg y, m1, sb, c4, c5]
      clear c4 c5
      by_cases y2 : v < D
      · rw [if_neg (by omega), sb, sb, if_pos ⟨by omega, y2⟩]
      · rw [if_pos (by omega), sb, if_neg (fun z => y2 z.2)]
end
section
/-! plain programs: van, vans, taken -/
def bpF (s : Nat → Int) : Nat → Nat → Nat → Nat
  | 0, _, best => best
  | n + 1, q, best => bpF s n (q + 1) (if s q < s best then q else best)
theorem bpF_le {s : Nat → Int} : ∀ (n q best : Nat), q + n ≤ 16 → best ≤ 15 → bpF s n q best ≤ 15
  | 0, _, _, _, h => h
  | n + 1, q, best, h1, h2 => bpF_le n (q + 1) _ (by omega) (by split <;> omega)
theorem X_best_s {g : AG} {rd w : Nat → Int} (V : VX g rd w) : ∀ (n q best : Nat), q + n = 16 → best ≤ 15 → Vans_bestPoint_b g best q = some ((bpF (fun p => suF rd w p p 16) n q best : Nat) : Int) := by
  intro n
  induction n with
  | zero =>
    intro q best h hb
    rw [Vans_bestPoint_b]
    simp (disch := omega) only [nw_id, ix_id, sb, if_true, if_false, if_pos, if_neg, true_and, and_true, false_and, and_false, and_self]
    rfl
  | succ n ih =>
    intro q best h hb
    have s1 := X_sumFrom_s V (a := q) (b := q) (by omega) (by omega)
    have s2 := X_sumFrom_s V (a := best) (b := best) hb hb
    have r1 := su_rng V.1 (fun p hp => (V.2.2 p hp).2) (a := q) (b := q) (by omega) (by omega) 16 (by omega)
    have r2 := su_rng V.1 (fun p hp => (V.2.2 p hp).2) (a := best) (b := best) hb hb 16 (by omega)
    have e := ih (q + 1) (if suF rd w q q 16 < suF rd w best best 16 then q else best) (by omega) (by split <;> omega)
    rw [show ((q + 1 : Nat) : Int) = (q : Int) + 1 from rfl] at e
    unfold bpF
    rw [← e, Vans_bestPoint_b]
    clear e ih V
    generalize suF rd w q q 16 = P at s1 r1 ⊢
    generalize suF rd w best best 16 = Q at s2 r2 ⊢
    have c0 : ¬ 16 ≤ nw (q : Int) := by rw [nw_id (by omega) (by omega)]; omega
    have c1 : nw P = P := by clear c0; exact nw_id (by omega) (by omega)
    have c2 : nw Q = Q := by clear c0 c1; exact nw_id (by omega) (by omega)
    rw [if_neg c0, s1, sb, s2, sb, c1, c2, sb]
    clear c0 c1 c2
    by_cases y : P < Q
    · rw [if_neg (by omega), if_pos y]
    · rw [if_pos (by omega), if_neg y]
theorem M_best_s {g : AG} {rd w : Nat → Int} (V : VM g rd w) {wh : Int} : ∀ (n q best : Nat), q + n = 16 → best ≤ 15 → M_van_b wh g best q = M_van_b wh g (bpF (fun p => suF rd w p p 16) n q best : Nat) 16 := by
  intro n
  induction n with
  | zero =>
    intro q best h hb
    rw [show q = 16 by omega]
    rfl
  | succ n ih =>
    intro q best h hb
    have s1 := M_sumOf_s V (p := q) (by omega)
    have s2 := M_sumOf_s V (p := best) hb
    have r1 := su_rng V.1 (fun p hp => (V.2.2 p hp).2) (a := q) (b := q) (by omega) (by omega) 16 (by omega)
    have r2 := su_rng V.1 (fun p hp => (V.2.2 p hp).2) (a := best) (b := best) hb hb 16 (by omega)
    have e := ih (q + 1) (if suF rd w q q 16 < suF rd w best best 16 then q else best) (by omega) (by split <;> omega)
    rw [show ((q + 1 : Nat) : Int) = (q : Int) + 1 from rfl] at e
    unfold bpF
    rw [← e, M_van_b]
    clear e ih V
    generalize suF rd w q q 16 = P at s1 r1 ⊢
    generalize suF rd w best best 16 = Q at s2 r2 ⊢
    have c0 : ¬ 16 ≤ nw (q : Int) := by rw [nw_id (by omega) (by omega)]; omega
    have c1 : nw P = P := by clear c0; exact nw_id (by omega) (by omega)
    have c2 : nw Q = Q := by clear c0 c1; exact nw_id (by omega) (by omega)
    rw [if_neg c0, s1, sb, s2, sb, c1, c2, sb]
    clear c0 c1 c2
    by_cases y : P < Q
    · rw [if_neg (by omega), if_pos y]
    · rw [if_pos (by omega), if_neg y]
theorem VX.of {g g1 : AG} (W : JWay g) (Wt : JWgt g) (f : FR [(108, 0)] g g1) (h : ∀ i : Nat, i ≤ 15 → g1 108 i = sm (g 15) i) : VX g1 (g 15) (g 107) := by
  refine ⟨fun i hi => ?_, h, fun p hp => ?_⟩
  · have := W i hi; omega
  · rw [f 107 p rfl]
    have := Wt p hp
    exact ⟨rfl, this.2⟩
theorem VM.of {W' : Reg} {g g1 : AG} (W : JWay g) (Wt : JWgt g) (f : FR W' g g1) (d : djR [(120, 0), (180, 0)] W' = true) : VM g1 (g 15) (g 107) := by
  have q := f.cg d
  refine ⟨fun i hi => ?_, fun i hi => ?_, fun p hp => ?_⟩
  · have := W i hi; omega
  · rw [q 120 i rfl]; have := W i hi; omega
  · rw [q 180 p rfl]
    have := Wt p hp
    exact ⟨this.1, this.2⟩
theorem measure0 {g : AG} (A : JAlong g) : ∃ g', Vans_measure g = some (0, g') ∧ FR [(108, 0)] g g' ∧ (∀ i : Nat, i ≤ 15 → g' 108 i = sm (g 15) i) ∧ JAlong g' := by
  obtain ⟨g', e, f, p⟩ := measure_s 15 0 g (by omega) (by intro i hi; rw [show i = 0 by omega]; exact A)
  exact ⟨g', e, f, p, p 0 (by omega)⟩
theorem sm_van {x1 : Int} {g : AG} (h1 : I32 x1) (W : JWay g) (Wt : JWgt g) (A : JAlong g) :
    ∃ (r1 : Int × AG) (v2 : Int), X_van x1 g = some r1 ∧ M_van x1 r1.2 = some v2 ∧ nw r1.1 = nw v2 ∧ FR [(108, 0)] g r1.2 ∧ JAlong r1.2 := by
  unfold I32 at *
  obtain ⟨g1, e1, f1, p1, A1⟩ := measure0 A
  have VXg := VX.of W Wt f1 p1
  have VMg := VM.of W Wt f1 rfl
  have ePt : ∀ y : Int, (nw (X_isPoint (x1 - y)) = 0) = ¬ (0 ≤ nw (x1 - y) ∧ nw (x1 - y) ≤ 15) := by
    intro y
    unfold X_isPoint X_within
    rw [nw_0, nw_id (a := 15) (by decide) (by decide)]
    by_cases z : nw (x1 - y) < 0
    · rw [if_pos z, nw_0]; simp; omega
    · rw [if_neg z]
      by_cases z2 : 15 < nw (x1 - y)
      · rw [if_pos z2, nw_0]; simp; omega
      · rw [if_neg z2, nw_1]; simp; omega
  have eIn : ∀ a b : Int, 0 ≤ a → b ≤ 1000 → a ≤ b → (nw (M_isIn x1 a b) = 0) = (x1 < a ∨ b < x1) := fun a b h0 h1 h2 => isIn0 (by omega) (by omega) (by omega) (by omega) (by omega) (by omega)
  have eW : (nw (X_within x1 0 2) = 0) = (x1 < 0 ∨ 2 < x1) := within0 (by omega) (by omega) (by omega) (by omega) (by omega) (by omega)
  by_cases k0 : 0 ≤ x1 ∧ x1 ≤ 2
  · have hb := bpF_le (s := fun p => suF (g 15) (g 107) p p 16) 15 1 0 (by omega) (by omega)
    have xb := X_best_s VXg 15 1 0 (by omega) (by omega)
    have mb := M_best_s VMg (wh := x1) 15 1 0 (by omega) (by omega)
    generalize bpF (fun p => suF (g 15) (g 107) p p 16) 15 1 0 = best at hb xb mb
    have xs := X_sumFrom_s VXg (a := best) (b := best) hb hb
    have ms := M_sumOf_s VMg (p := best) hb
    have xw := X_worst_s VXg hb 16 0 0 (by omega) (by omega) (by omega)
    have mw := M_worst_s VMg hb 16 0 0 (by omega) (by omega) (by omega)
    have xb' : Vans_bestPoint g1 = some (best : Int) := xb
    have xw' : Vans_worstFrom best g1 = some (woF (g 15) (g 107) best 16 0 0) := xw
    have mw' : M_worstOf best g1 = some (woF (g 15) (g 107) best 16 0 0) := mw
    have n1 : nw x1 = x1 := nw_id (by omega) (by omega)
    refine ⟨((if x1 = 0 then (best : Int) else if x1 = 1 then suF (g 15) (g 107) best best 16 else woF (g 15) (g 107) best 16 0 0), g1), _, ?_, ?_, rfl, f1, A1⟩
    · unfold X_van
      rw [e1, sb, if_neg (by rw [eW]; clear n1; omega), xb', sb, n1]
      by_cases z : x1 = 0
      · rw [if_pos z, if_pos z]
      · rw [if_neg z, if_neg z]
        by_cases z1 : x1 = 1
        · rw [if_pos z1, if_pos z1, xs, sb, sb]
        · rw [if_neg z1, if_neg z1, xw', sb, sb]
    · unfold M_van
      have i1 := eIn 100 115 (by omega) (by omega) (by omega)
      have i2 := eIn 200 215 (by omega) (by omega) (by omega)
      have i3 := eIn 0 2 (by omega) (by omega) (by omega)
      rw [if_pos (by rw [i1]; clear n1; omega), if_pos (by rw [i2]; clear n1; omega), if_neg (by rw [i3]; clear n1; omega)]
      have mb' : M_van_b x1 g1 0 1 = M_van_b x1 g1 best 16 := mb
      rw [mb', M_van_b, if_pos (by rw [nw_id (by decide) (by decide)]; decide), n1]
      by_cases z : x1 = 0
      · rw [if_pos z, if_pos z, sb]
      · rw [if_neg z, if_neg z]
        by_cases z1 : x1 = 1
        · rw [if_pos z1, if_pos z1, ms, sb, sb]
        · rw [if_neg z1, if_neg z1, mw', sb, sb]
  · by_cases k1 : 100 ≤ x1 ∧ x1 ≤ 115
    · obtain ⟨p, hp⟩ := natOf (show 0 ≤ x1 - 100 by omega)
      have xs := X_sumFrom_s VXg (a := p) (b := p) (by omega) (by omega)
      have ms := M_sumOf_s VMg (p := p) (by omega)
      refine ⟨(suF (g 15) (g 107) p p 16, g1), _, ?_, ?_, rfl, f1, A1⟩
      · unfold X_van
        rw [e1, sb, if_pos (by rw [eW]; omega), if_neg (by rw [ePt 100, nw_id (by omega) (by omega)]; omega), hp, xs, sb]
      · unfold M_van
        rw [if_neg (by rw [eIn 100 115 (by omega) (by omega) (by omega)]; omega), hp, ms, sb]
    · by_cases k2 : 200 ≤ x1 ∧ x1 ≤ 215
      · obtain ⟨p, hp⟩ := natOf (show 0 ≤ x1 - 200 by omega)
        have xw : Vans_worstFrom p g1 = some (woF (g 15) (g 107) p 16 0 0) := X_worst_s VXg (by omega) 16 0 0 (by omega) (by omega) (by omega)
        have mw : M_worstOf p g1 = some (woF (g 15) (g 107) p 16 0 0) := M_worst_s VMg (by omega) 16 0 0 (by omega) (by omega) (by omega)
        refine ⟨(woF (g 15) (g 107) p 16 0 0, g1), _, ?_, ?_, rfl, f1, A1⟩
        · unfold X_van
          rw [e1, sb, if_pos (by rw [eW]; omega), if_pos (by rw [ePt 100, nw_id (by omega) (by omega)]; omega), if_neg (by rw [ePt 200, nw_id (by omega) (by omega)]; omega), hp, xw, sb, sb]
        · unfold M_van
          rw [if_pos (by rw [eIn 100 115 (by omega) (by omega) (by omega)]; omega), if_neg (by rw [eIn 200 215 (by omega) (by omega) (by omega)]; omega), hp, mw, sb]
      · have w1 : ¬ (0 ≤ nw (x1 - 100) ∧ nw (x1 - 100) ≤ 15) := by
          intro q
          have := nw_iff (x := x1 - 100) (y := nw (x1 - 100))
          have e : nw (nw (x1 - 100)) = nw (x1 - 100) := nw_id (by omega) (by omega)
          have := this.mp e.symm
          omega
        have w2 : ¬ (0 ≤ nw (x1 - 200) ∧ nw (x1 - 200) ≤ 15) := by
          clear w1
          intro q
          have := nw_iff (x := x1 - 200) (y := nw (x1 - 200))
          have e : nw (nw (x1 - 200)) = nw (x1 - 200) := nw_id (by omega) (by omega)
          have := this.mp e.symm
          omega
        refine ⟨(-1, g1), -1, ?_, ?_, rfl, f1, A1⟩
        · unfold X_van
          rw [e1, sb, if_pos (by rw [eW]; clear w1 w2; omega), if_pos (by rw [ePt 100]; exact w1), if_pos (by rw [ePt 200]; exact w2), sb]
        · clear w1 w2
          unfold M_van
          rw [if_pos (by rw [eIn 100 115 (by omega) (by omega) (by omega)]; omega), if_pos (by rw [eIn 200 215 (by omega) (by omega) (by omega)]; omega), if_pos (by rw [eIn 0 2 (by omega) (by omega) (by omega)]; omega)]
end
section
/-! plain programs: two vans -/
theorem VX.fr {W : Reg} {g g' : AG} {rd w : Nat → Int} (V : VX g rd w) (f : FR W g g') (d : djR [(107, 0), (108, 0)] W = true) : VX g' rd w := by
  have q := f.cg d
  exact ⟨V.1, fun i hi => by rw [q 108 i rfl]; exact V.2.1 i hi, fun p hp => by rw [q 107 p rfl]; exact V.2.2 p hp⟩
def cpS (rd w : Nat → Int) (a b : Nat) (p : Int × Int) : Int × Int := if suF rd w a b 16 < p.2 then (16 * (a : Int) + b, suF rd w a b 16) else p
def cpI (rd w : Nat → Int) (a : Nat) : Nat → Nat → Int × Int → Int × Int
  | 0, _, p => p
  | n + 1, b, p => cpI rd w a n (b + 1) (cpS rd w a b p)
def cpO (rd w : Nat → Int) : Nat → Nat → Int × Int → Int × Int
  | 0, _, p => p
  | n + 1, a, p => cpO rd w n (a + 1) (cpI rd w a (16 - a) a p)
def CpOk (p : Int × Int) : Prop := (0 ≤ p.1 ∧ p.1 ≤ 255) ∧ (0 ≤ p.2 ∧ p.2 ≤ 2352240)
theorem cpS_ok {rd w : Nat → Int} (hr : ∀ i, i < 15 → 1 ≤ rd i ∧ rd i ≤ 99) (hw : ∀ p : Nat, p < 16 → 0 ≤ w p ∧ w p ≤ 99) {a b : Nat} (ha : a ≤ 15) (hb : b ≤ 15) {p : Int × Int} (h : CpOk p) : CpOk (cpS rd w a b p) := by
  have r := su_rng hr hw ha hb 16 (by omega)
  unfold cpS
  split
  · exact ⟨⟨by dsimp only; omega, by dsimp only; omega⟩, ⟨by dsimp only; omega, by dsimp only; omega⟩⟩
  · exact h
theorem cpI_ok {rd w : Nat → Int} (hr : ∀ i, i < 15 → 1 ≤ rd i ∧ rd i ≤ 99) (hw : ∀ p : Nat, p < 16 → 0 ≤ w p ∧ w p ≤ 99) {a : Nat} (ha : a ≤ 15) : ∀ (n b : Nat) (p : Int × Int), b + n ≤ 16 → CpOk p → CpOk (cpI rd w a n b p)
  | 0, _, _, _, h => h
  | n + 1, b, p, hb, h => cpI_ok hr hw ha n (b + 1) _ (by omega) (cpS_ok hr hw ha (by omega) h)
theorem X_cpI_s {rd w : Nat → Int} {a : Nat} (ha : a ≤ 15) : ∀ (n b : Nat) (g : AG), b + n = 16 → VX g rd w → CpOk (g 11 3, g 11 4) → ∃ g', Vans_findCouple_b 2 a b g = Vans_findCouple_b 1 ((a : Int) + 1) 16 g' ∧ FR [(11, 4), (11, 5)] g g' ∧ (g' 11 3, g' 11 4) = cpI rd w a n b (g 11 3, g 11 4) := by
  intro n
  induction n with
  | zero =>
    intro b g h V hc
    refine ⟨g, ?_, Fr.rf, rfl⟩
    rw [show b = 16 by omega, Vans_findCouple_b.eq_1 2, if_neg (by decide), if_pos rfl, if_pos (by rw [nw_id (by decide) (by decide)]; decide)]
    rfl
  | succ n ih =>
    intro b g h V hc
    have xs := X_sumFrom_s V (a := a) (b := b) ha (by omega)
    have r := su_rng V.1 (fun p hp => (V.2.2 p hp).2) ha (b := b) (by omega) 16 (by omega)
    have ok2 := cpS_ok V.1 (fun p hp => (V.2.2 p hp).2) ha (b := b) (by omega) hc
    have c0 : ¬ 16 ≤ nw (b : Int) := by rw [nw_id (by omega) (by omega)]; omega
    have c1 : nw (g 11 4) = g 11 4 := by clear c0; exact nw_id (by have := hc.2; dsimp only at this; omega) (by have := hc.2; dsimp only at this; omega)
    have c2 : nw (suF rd w a b 16) = suF rd w a b 16 := by clear c0 c1; exact nw_id (by omega) (by omega)
    by_cases y : suF rd w a b 16 < g 11 4
    · have e3 : cpS rd w a b (g 11 3, g 11 4) = (16 * (a : Int) + b, suF rd w a b 16) := if_pos y
      rw [e3] at ok2
      have f1 : FR [(11, 4), (11, 5)] g (up (up g 11 3 (16 * (a : Int) + b)) 11 4 (suF rd w a b 16)) := Fr.up (Fr.up Fr.rf rfl) rfl
      have h3 : (up (up g 11 3 (16 * (a : Int) + b)) 11 4 (suF rd w a b 16)) 11 3 = 16 * (a : Int) + b := by simp [up_at]
      have h4 : (up (up g 11 3 (16 * (a : Int) + b)) 11 4 (suF rd w a b 16)) 11 4 = suF rd w a b 16 := by simp [up_at]
      obtain ⟨g2, e2, f2, p2⟩ := ih (b + 1) _ (by clear c0 c1 c2; omega) (V.fr f1 rfl) (by rw [h3, h4]; exact ok2)
      rw [show ((b + 1 : Nat) : Int) = (b : Int) + 1 from rfl] at e2
      rw [h3, h4] at p2
      refine ⟨g2, ?_, f1.tr f2, ?_⟩
      · rw [← e2, Vans_findCouple_b.eq_1 2, if_neg (by decide), if_pos rfl, if_neg c0, xs, sb, if_neg (by rw [c1, c2]; clear c0 c1 c2; omega), sb, sb, sb]
      · rw [p2]
        show _ = cpI rd w a n (b + 1) (cpS rd w a b (g 11 3, g 11 4))
        rw [e3]
    · have e3 : cpS rd w a b (g 11 3, g 11 4) = (g 11 3, g 11 4) := if_neg y
      obtain ⟨g2, e2, f2, p2⟩ := ih (b + 1) g (by clear c0 c1 c2; omega) V hc
      rw [show ((b + 1 : Nat) : Int) = (b : Int) + 1 from rfl] at e2
      refine ⟨g2, ?_, f2, ?_⟩
      · rw [← e2, Vans_findCouple_b.eq_1 2, if_neg (by decide), if_pos rfl, if_neg c0, xs, sb, if_pos (by rw [c1, c2]; clear c0 c1 c2; omega), sb]
      · rw [p2]
        show _ = cpI rd w a n (b + 1) (cpS rd w a b (g 11 3, g 11 4))
        rw [e3]
theorem X_cpO_s {rd w : Nat → Int} : ∀ (n a : Nat) (x : Int) (g : AG), a + n = 16 → VX g rd w → CpOk (g 11 3, g 11 4) → ∃ g', Vans_findCouple_b 1 a x g = some (0, g') ∧ FR [(11, 4), (11, 5)] g g' ∧ (g' 11 3, g' 11 4) = cpO rd w n a (g 11 3, g 11 4) := by
  intro n
  induction n with
  | zero =>
    intro a x g h V hc
    refine ⟨g, ?_, Fr.rf, rfl⟩
    rw [show a = 16 by omega, Vans_findCouple_b.eq_1 1, if_pos rfl, if_pos (by rw [nw_id (by decide) (by decide)]; decide)]
  | succ n ih =>
    intro a x g h V hc
    have c0 : ¬ 16 ≤ nw (a : Int) := by rw [nw_id (by omega) (by omega)]; omega
    obtain ⟨g1, e1, f1, p1⟩ := X_cpI_s (rd := rd) (w := w) (a := a) (by clear c0; omega) (16 - a) a g (by clear c0; omega) V hc
    have V1 : VX g1 rd w := V.fr f1 rfl
    obtain ⟨g2, e2, f2, p2⟩ := ih (a + 1) 16 g1 (by clear c0; omega) V1 (by rw [p1]; exact cpI_ok V.1 (fun p hp => (V.2.2 p hp).2) (by clear c0; omega) _ _ _ (by clear c0; omega) hc)
    rw [show ((a + 1 : Nat) : Int) = (a : Int) + 1 from rfl] at e2
    refine ⟨g2, ?_, f1.tr f2, ?_⟩
    · rw [Vans_findCouple_b.eq_1 1, if_pos rfl, if_neg c0, e1, e2]
    · rw [p2, p1]
      rfl
/-! the reference -/
theorem M_nearer_s {g : AG} {rd w : Nat → Int} (V : VM g rd w) {a b p : Nat} (ha : a ≤ 15) (hb : b ≤ 15) (hp : p ≤ 15) : M_nearer a b p g = some (min (dvF rd a p) (dvF rd b p)) := by
  have d1 := V.drive ha hp
  have d2 := V.drive hb hp
  have r1 := dv_rng V.1 ha hp
  have r2 := dv_rng V.1 hb hp
  unfold M_nearer
  rw [d1, sb, d2, sb]
  clear d1 d2
  generalize dvF rd a p = P at r1 ⊢
  generalize dvF rd b p = Q at r2 ⊢
  have c1 : nw P = P := nw_id (by omega) (by omega)
  have c2 : nw Q = Q := by clear c1; exact nw_id (by omega) (by omega)
  rw [c1, c2]
  clear c1 c2
  by_cases y : Q ≤ P
  · rw [if_pos y, sb, sb, show min P Q = Q by omega]
  · rw [if_neg y, sb, sb, show min P Q = P by omega]
def cpM (rd w : Nat → Int) (a b : Nat) (p : Int × Int) : Int × Int := if p.1 = -1 ∨ suF rd w a b 16 < p.2 then (16 * (a : Int) + b, suF rd w a b 16) else p
theorem M_sum3_s {g : AG} {rd w : Nat → Int} (V : VM g rd w) {wh : Int} {a b : Nat} (ha : a ≤ 15) (hb : b ≤ 15) {c s : Int} (hc : -1 ≤ c ∧ c ≤ 255) (hs : 0 ≤ s ∧ s ≤ 2352240) : ∀ (n k : Nat), k + n = 16 → M_vans_b wh g 3 c s a b (suF rd w a b k) k = M_vans_b wh g 2 (cpM rd w a b (c, s)).1 (cpM rd w a b (c, s)).2 a ((b : Int) + 1) (suF rd w a b 16) 16 := by
  intro n
  induction n with
  | zero =>
    intro k h
    have r := su_rng V.1 (fun p hp => (V.2.2 p hp).2) ha hb 16 (by omega)
    rw [show k = 16 by omega, M_vans_b.eq_1 _ _ 3, if_neg (by decide), if_neg (by decide), if_pos rfl, if_pos (by rw [nw_id (by decide) (by decide)]; decide)]
    unfold cpM
    dsimp only
    generalize suF rd w a b 16 = P at r ⊢
    have c1 : nw c = c := nw_id (by omega) (by omega)
    have c2 : nw P = P := by clear c1; exact nw_id (by omega) (by omega)
    have c3 : nw s = s := by clear c1 c2; exact nw_id (by omega) (by omega)
    rw [c1, c2, c3]
    clear c1 c2 c3
    by_cases y : c = -1
    · rw [if_pos y, if_pos (Or.inl y), sb]
      rfl
    · rw [if_neg y]
      by_cases y2 : P < s
      · rw [if_pos y2, if_pos (Or.inr y2), sb]
        rfl
      · rw [if_neg y2, if_neg (fun z => by rcases z with z | z; exact y z; exact y2 z), sb]
        rfl
  | succ n ih =>
    intro k h
    have e := ih (k + 1) (by omega)
    rw [show ((k + 1 : Nat) : Int) = (k : Int) + 1 from rfl] at e
    have mn := M_nearer_s V ha hb (p := k) (by omega)
    have c0 : ¬ 16 ≤ nw (k : Int) := by rw [nw_id (by omega) (by omega)]; omega
    have c1 : 0 ≤ nw (k : Int) ∧ nw (k : Int) < 16 := by clear c0; rw [nw_id (by omega) (by omega)]; omega
    have c2 : ix (k : Int) = k := by clear c0 c1; rw [ix_id (by omega) (by omega), Int.toNat_natCast]
    rw [← e, M_vans_b.eq_1 _ _ 3, if_neg (by decide), if_neg (by decide), if_pos rfl, if_neg c0, if_pos c1, mn, sb, c2, (V.2.2 k (by clear c0 c1; omega)).1]
    rfl
theorem M_cpI_s {g : AG} {rd w : Nat → Int} (V : VM g rd w) {wh : Int} {a : Nat} (ha : a ≤ 15) : ∀ (n b : Nat) (p : Int × Int) (x6 x7 : Int), b + n = 16 → CpOk p → ∃ y6 y7, M_vans_b wh g 2 p.1 p.2 a b x6 x7 = M_vans_b wh g 1 (cpI rd w a n b p).1 (cpI rd w a n b p).2 ((a : Int) + 1) 16 y6 y7 := by
  intro n
  induction n with
  | zero =>
    intro b p x6 x7 h hp
    refine ⟨x6, x7, ?_⟩
    rw [show b = 16 by omega, M_vans_b.eq_1 _ _ 2, if_neg (by decide), if_pos rfl, if_pos (by rw [nw_id (by decide) (by decide)]; decide)]
    rfl
  | succ n ih =>
    intro b p x6 x7 h hp
    have c0 : ¬ 16 ≤ nw (b : Int) := by rw [nw_id (by omega) (by omega)]; omega
    have e1 := M_sum3_s V (wh := wh) ha (b := b) (by clear c0; omega) (c := p.1) (s := p.2) ⟨by have := hp.1; clear c0; omega, hp.1.2⟩ hp.2 16 0 rfl
    have e2 : cpM rd w a b (p.1, p.2) = cpS rd w a b p := by
      unfold cpM cpS
      by_cases y : suF rd w a b 16 < p.2
      · rw [if_pos (Or.inr y), if_pos y]
      · rw [if_neg (fun z => by rcases z with z | z; (have := hp.1.1; dsimp only at z; clear c0; omega); exact y z), if_neg y]
    rw [e2] at e1
    obtain ⟨y6, y7, e3⟩ := ih (b + 1) (cpS rd w a b p) (suF rd w a b 16) 16 (by clear c0; omega) (cpS_ok V.1 (fun p hp => (V.2.2 p hp).2) ha (by clear c0; omega) hp)
    rw [show ((b + 1 : Nat) : Int) = (b : Int) + 1 from rfl] at e3
    refine ⟨y6, y7, ?_⟩
    show _ = M_vans_b wh g 1 (cpI rd w a n (b + 1) (cpS rd w a b p)).1 (cpI rd w a n (b + 1) (cpS rd w a b p)).2 ((a : Int) + 1) 16 y6 y7
    rw [← e3, ← e1, M_vans_b.eq_1 _ _ 2, if_neg (by decide), if_pos rfl, if_neg c0]
    rfl
theorem M_cpO_s {g : AG} {rd w : Nat → Int} (V : VM g rd w) {wh : Int} (hw : 0 ≤ wh ∧ wh ≤ 1) : ∀ (n a : Nat) (p : Int × Int) (x5 x6 x7 : Int), a + n = 16 → CpOk p → M_vans_b wh g 1 p.1 p.2 a x5 x6 x7 = some (if wh = 0 then (cpO rd w n a p).1 else (cpO rd w n a p).2) := by
  intro n
  induction n with
  | zero =>
    intro a p x5 x6 x7 h hp
    have n1 : nw wh = wh := nw_id (by omega) (by omega)
    rw [show a = 16 by clear n1; omega, M_vans_b.eq_1 _ _ 1, if_pos rfl, if_pos (by rw [nw_id (by decide) (by decide)]; decide), sb, n1]
    rfl
  | succ n ih =>
    intro a p x5 x6 x7 h hp
    have c0 : ¬ 16 ≤ nw (a : Int) := by rw [nw_id (by omega) (by omega)]; omega
    obtain ⟨y6, y7, e1⟩ := M_cpI_s V (wh := wh) (a := a) (by clear c0; omega) (16 - a) a p x6 x7 (by clear c0; omega) hp
    have e2 := ih (a + 1) (cpI rd w a (16 - a) a p) 16 y6 y7 (by clear c0; omega) (cpI_ok V.1 (fun p hp => (V.2.2 p hp).2) (by clear c0; omega) _ _ _ (by clear c0; omega) hp)
    rw [show ((a + 1 : Nat) : Int) = (a : Int) + 1 from rfl] at e2
    rw [M_vans_b.eq_1 _ _ 1, if_pos rfl, if_neg c0, e1, e2]
    rfl
theorem sm_vans {x1 : Int} {g : AG} (h1 : I32 x1) (W : JWay g) (Wt : JWgt g) (A : JAlong g) :
    ∃ (r1 : Int × AG) (v2 : Int), X_vans x1 g = some r1 ∧ M_vans x1 r1.2 = some v2 ∧ nw r1.1 = nw v2 ∧ FR [(108, 0), (11, 4), (11, 5)] g r1.2 ∧ JAlong r1.2 := by
  unfold I32 at *
  by_cases h : 0 ≤ x1 ∧ x1 ≤ 1
  · obtain ⟨g1, e1, f1, p1, A1⟩ := measure0 A
    have V1 := VX.of W Wt f1 p1
    have r0 := su_rng V1.1 (fun p hp => (V1.2.2 p hp).2) (a := 0) (b := 0) (by omega) (by omega) 16 (by omega)
    have f2 : FR [(11, 4), (11, 5)] g1 (up g1 11 3 0) := Fr.up Fr.rf rfl
    have V2 : VX (up g1 11 3 0) (g 15) (g 107) := V1.fr f2 rfl
    have xs := X_sumFrom_s V2 (a := 0) (b := 0) (by omega) (by omega)
    have f3 : FR [(11, 4), (11, 5)] g1 (up (up g1 11 3 0) 11 4 (suF (g 15) (g 107) 0 0 16)) := Fr.up f2 rfl
    have h3 : (up (up g1 11 3 0) 11 4 (suF (g 15) (g 107) 0 0 16)) 11 3 = 0 := by simp [up_at]
    have h4 : (up (up g1 11 3 0) 11 4 (suF (g 15) (g 107) 0 0 16)) 11 4 = suF (g 15) (g 107) 0 0 16 := by simp [up_at]
    have ok0 : CpOk (0, suF (g 15) (g 107) 0 0 16) := ⟨⟨Int.le_refl 0, by show (0 : Int) ≤ 255; decide⟩, ⟨r0.1, by dsimp only; omega⟩⟩
    obtain ⟨g4, e4, f4, p4⟩ := X_cpO_s (rd := g 15) (w := g 107) 16 0 0 _ rfl (V1.fr f3 rfl) (by rw [h3, h4]; exact ok0)
    rw [h3, h4] at p4
    have fT : FR [(108, 0), (11, 4), (11, 5)] g g4 := (f1.mo rfl).tr (FR.mo (f3.tr f4) rfl)
    have Vm := VM.of W Wt fT rfl
    have m1 := M_cpO_s Vm h 16 0 (0, suF (g 15) (g 107) 0 0 16) 0 0 0 rfl ok0
    have n1 : nw x1 = x1 := nw_id (by omega) (by omega)
    -- the first couple
    have first : M_vans_b x1 g4 1 (-1) 0 ((0 : Nat) : Int) 0 0 0 = M_vans_b x1 g4 1 0 (suF (g 15) (g 107) 0 0 16) ((0 : Nat) : Int) 0 0 0 := by
      have c0 : ¬ 16 ≤ nw ((0 : Nat) : Int) := by clear n1; rw [nw_id (by decide) (by decide)]; decide
      have sa := M_sum3_s Vm (wh := x1) (a := 0) (b := 0) (by decide) (by decide) (c := -1) (s := 0) (by decide) (by decide) 16 0 rfl
      have sb' := M_sum3_s Vm (wh := x1) (a := 0) (b := 0) (by decide) (by decide) (c := 0) (s := suF (g 15) (g 107) 0 0 16) (by decide) (by clear n1 c0; omega) 16 0 rfl
      have ca : cpM (g 15) (g 107) 0 0 (-1, 0) = (0, suF (g 15) (g 107) 0 0 16) := if_pos (Or.inl rfl)
      have cb : cpM (g 15) (g 107) 0 0 (0, suF (g 15) (g 107) 0 0 16) = (0, suF (g 15) (g 107) 0 0 16) := if_neg (fun z => by rcases z with z | z; exact absurd (show (0 : Int) = -1 from z) (by decide); exact Int.lt_irrefl _ z)
      rw [ca] at sa
      rw [cb] at sb'
      have un : ∀ c s : Int, M_vans_b x1 g4 1 c s ((0 : Nat) : Int) 0 0 0 = M_vans_b x1 g4 3 c s ((0 : Nat) : Int) ((0 : Nat) : Int) (suF (g 15) (g 107) 0 0 0) ((0 : Nat) : Int) := by
        intro c s
        rw [M_vans_b.eq_1 _ _ 1, if_pos rfl, if_neg c0, M_vans_b.eq_1 _ _ 2, if_neg (by decide), if_pos rfl, if_neg c0]
        rfl
      rw [un, un, sa, sb']
    refine ⟨((if x1 = 0 then g4 11 3 else g4 11 4), g4), (if x1 = 0 then g4 11 3 else g4 11 4), ?_, ?_, rfl, fT, by show g4 108 0 = 0; rw [f4 108 0 rfl, f3 108 0 rfl]; exact A1⟩
    · unfold X_vans Vans_findCouple
      have e4' : Vans_findCouple_b 1 0 0 (up (up g1 11 3 0) 11 4 (suF (g 15) (g 107) 0 0 16)) = some (0, g4) := e4
      have xs' : Vans_sumFrom 0 0 (up g1 11 3 0) = some (suF (g 15) (g 107) 0 0 16) := xs
      rw [if_neg (by rw [within0 (by clear n1; omega) (by clear n1; omega) (by decide) (by decide) (by decide) (by decide)]; clear n1; omega), e1, sb, sb, xs', sb, sb, e4', sb, sb, n1]
    · unfold M_vans
      have first' : M_vans_b x1 g4 1 (-1) 0 0 0 0 0 = M_vans_b x1 g4 1 0 (suF (g 15) (g 107) 0 0 16) 0 0 0 0 := first
      have m1' : M_vans_b x1 g4 1 0 (suF (g 15) (g 107) 0 0 16) 0 0 0 0 = _ := m1
      rw [if_neg (by rw [isIn0 (by clear n1; omega) (by clear n1; omega) (by decide) (by decide) (by decide) (by decide)]; clear n1; omega), first', m1', ← p4]
  · refine ⟨(-1, g), -1, ?_, ?_, rfl, Fr.rf, A⟩
    · unfold X_vans
      rw [if_pos (by rw [within0 (by omega) (by omega) (by decide) (by decide) (by decide) (by decide)]; omega)]
    · unfold M_vans
      rw [if_pos (by rw [isIn0 (by omega) (by omega) (by decide) (by decide) (by decide) (by decide)]; omega)]
end
section
/-! plain programs: calls taken by two vans -/
abbrev TS : Type := Nat × Nat × Int × Int × Int × Int × Int
def arF (rd mi : Nat → Int) (pt : Nat → Nat) (s : TS) (v i : Nat) : Int := max (mi i) (if v = 0 then s.2.2.1 else s.2.2.2.1) + dvF rd (if v = 0 then s.1 else s.2.1) (pt i)
def vnF (rd mi : Nat → Int) (pt : Nat → Nat) (s : TS) (i : Nat) : Nat := if arF rd mi pt s 1 i < arF rd mi pt s 0 i then 1 else 0
def tsF (rd mi wk : Nat → Int) (pt : Nat → Nat) (s : TS) (i : Nat) : TS :=
  let v := vnF rd mi pt s i
  let t := arF rd mi pt s v i
  (if v = 0 then pt i else s.1, if v = 0 then s.2.1 else pt i, if v = 0 then t + wk i else s.2.2.1, if v = 0 then s.2.2.2.1 else t + wk i, s.2.2.2.2.1 + (t - mi i), max s.2.2.2.2.2.1 (t - mi i), max s.2.2.2.2.2.2 (t + wk i))
def CaOk (rd mi wk : Nat → Int) (pt : Nat → Nat) (N : Nat) : Prop := (∀ i, i < 15 → 1 ≤ rd i ∧ rd i ≤ 99) ∧ N ≤ 12 ∧ ∀ i, i < N → (0 ≤ mi i ∧ mi i ≤ 9999) ∧ (1 ≤ wk i ∧ wk i ≤ 300) ∧ pt i ≤ 15
def TsOk (s : TS) (i : Nat) : Prop := s.1 ≤ 15 ∧ s.2.1 ≤ 15 ∧ (0 ≤ s.2.2.1 ∧ s.2.2.1 ≤ 10000 + 1785 * i) ∧ (0 ≤ s.2.2.2.1 ∧ s.2.2.2.1 ≤ 10000 + 1785 * i) ∧ (0 ≤ s.2.2.2.2.1 ∧ s.2.2.2.2.1 ≤ 40000 * i) ∧ (0 ≤ s.2.2.2.2.2.1 ∧ s.2.2.2.2.2.1 ≤ 40000) ∧ (0 ≤ s.2.2.2.2.2.2 ∧ s.2.2.2.2.2.2 ≤ 40000)
theorem ar_rng {rd mi wk : Nat → Int} {pt : Nat → Nat} {N : Nat} (C : CaOk rd mi wk pt N) {s : TS} {i v : Nat} (hi : i < N) (h : TsOk s i) : mi i ≤ arF rd mi pt s v i ∧ 0 ≤ arF rd mi pt s v i ∧ arF rd mi pt s v i ≤ 11485 + 1785 * i := by
  obtain ⟨h1, h2, h3, h4, _⟩ := h
  have c := C.2.2 i hi
  unfold arF
  by_cases z : v = 0
  · rw [if_pos z, if_pos z]
    have d := dv_rng C.1 h1 c.2.2
    omega
  · rw [if_neg z, if_neg z]
    have d := dv_rng C.1 h2 c.2.2
    omega
theorem ts_ok {rd mi wk : Nat → Int} {pt : Nat → Nat} {N : Nat} (C : CaOk rd mi wk pt N) {s : TS} {i : Nat} (hi : i < N) (h : TsOk s i) : TsOk (tsF rd mi wk pt s i) (i + 1) := by
  have a := ar_rng C (v := vnF rd mi pt s i) hi h
  have c := C.2.2 i hi
  have hN := C.2.1
  obtain ⟨h1, h2, h3, h4, h5, h6, h7⟩ := h
  unfold tsF TsOk
  dsimp only
  generalize arF rd mi pt s (vnF rd mi pt s i) i = t at a ⊢
  generalize vnF rd mi pt s i = v
  by_cases z : v = 0
  · simp only [if_pos z]
    refine ⟨by omega, by omega, ⟨by omega, by omega⟩, ⟨by omega, by omega⟩, ⟨by omega, by omega⟩, ⟨by omega, by omega⟩, ⟨by omega, by omega⟩⟩
  · simp only [if_neg z]
    refine ⟨by omega, by omega, ⟨by omega, by omega⟩, ⟨by omega, by omega⟩, ⟨by omega, by omega⟩, ⟨by omega, by omega⟩, ⟨by omega, by omega⟩⟩
def XT (g : AG) (rd mi wk : Nat → Int) (pt : Nat → Nat) (N : Nat) : Prop := (∀ i : Nat, i ≤ 15 → g 108 i = sm rd i) ∧ g 11 5 = N ∧ ∀ i, i < N → g 109 i = mi i ∧ g 110 i = pt i ∧ g 111 i = wk i
def XS (g : AG) (s : TS) : Prop := g 113 0 = s.1 ∧ g 113 1 = s.2.1 ∧ g 114 0 = s.2.2.1 ∧ g 114 1 = s.2.2.2.1 ∧ g 11 12 = s.2.2.2.2.1 ∧ g 11 13 = s.2.2.2.2.2.1 ∧ g 11 14 = s.2.2.2.2.2.2
theorem X_comesAt_s {g : AG} {rd mi wk : Nat → Int} {pt : Nat → Nat} {N : Nat} (C : CaOk rd mi wk pt N) (X : XT g rd mi wk pt N) {s : TS} (S : XS g s) {i v : Nat} (hi : i < N) (hv : v < 2) (h : TsOk s i) : Vans_comesAt v i g = some (arF rd mi pt s v i) := by
  obtain ⟨x1, x2, x3⟩ := X
  obtain ⟨y1, y2, y3⟩ := x3 i hi
  have c := C.2.2 i hi
  have hN := C.2.1
  obtain ⟨h1, h2, h3, h4, _⟩ := h
  obtain ⟨s1, s2, s3, s4, _⟩ := S
  have c1 : 0 ≤ nw (i : Int) ∧ nw (i : Int) < 12 := by rw [nw_id (by omega) (by omega)]; omega
  have c2 : 0 ≤ nw (v : Int) ∧ nw (v : Int) < 2 := by clear c1; rw [nw_id (by omega) (by omega)]; omega
  have c3 : ix (i : Int) = i := by clear c1 c2; rw [ix_id (by omega) (by omega), Int.toNat_natCast]
  have c4 : ix (v : Int) = v := by clear c1 c2 c3; rw [ix_id (by omega) (by omega), Int.toNat_natCast]
  unfold Vans_comesAt arF
  rw [if_pos c1, if_pos c2, c3, c4, y1, y2]
  clear c1 c2 c3 c4
  have hvv : v = 0 ∨ v = 1 := by omega
  rcases hvv with e | e
  · subst e
    rw [s1, s3, minutes_s h1 c.2.2 C.1 x1, sb, mxI_s (by omega) (by omega) (by omega) (by omega)]
    rfl
  · subst e
    rw [s2, s4, minutes_s h2 c.2.2 C.1 x1, sb, mxI_s (by omega) (by omega) (by omega) (by omega)]
    rfl
theorem X_take_s {rd mi wk : Nat → Int} {pt : Nat → Nat} {N : Nat} (C : CaOk rd mi wk pt N) {st : Nat → TS} (hst : ∀ i, i < N → st (i + 1) = tsF rd mi wk pt (st i) i) : ∀ (n k : Nat) (g : AG), k + n = N → XT g rd mi wk pt N → XS g (st k) → TsOk (st k) k → ∃ g', Vans_takeCalls_b k g = some (0, g') ∧ FR [(11, 13), (11, 14), (11, 15), (112, 0), (113, 0), (114, 0)] g g' ∧ XS g' (st N) ∧ (∀ i, i < k → g' 112 i = g 112 i) ∧ (∀ i, k ≤ i → i < N → g' 112 i = (vnF rd mi pt (st i) i : Nat)) := by
  intro n
  induction n with
  | zero =>
    intro k g h X S T
    have hN := C.2.1
    refine ⟨g, ?_, Fr.rf, by rw [show N = k by omega]; exact S, fun i _ => rfl, fun i h1 h2 => by omega⟩
    rw [Vans_takeCalls_b, if_pos (by rw [X.2.1, nw_id (by omega) (by omega), nw_id (by omega) (by omega)]; omega)]
  | succ n ih =>
    intro k g h X S T
    have hN := C.2.1
    have hk : k < N := by omega
    have a1 := X_comesAt_s C X S hk (v := 1) (by omega) T
    have a0 := X_comesAt_s C X S hk (v := 0) (by omega) T
    have r1 := ar_rng C (v := 1) hk T
    have r0 := ar_rng C (v := 0) hk T
    have T2 := ts_ok C hk T
    rw [← hst k hk] at T2
    have hs := hst k hk
    obtain ⟨x1, x2, x3⟩ := X
    obtain ⟨y1, y2, y3⟩ := x3 k hk
    have ck := C.2.2 k hk
    have S0 := S
    obtain ⟨s1, s2, s3, s4, s5, s6, s7⟩ := S
    obtain ⟨t1, t2, t3, t4, t5, t6, t7⟩ := T
    have c0 : ¬ nw (g 11 5) ≤ nw (k : Int) := by rw [x2, nw_id (by omega) (by omega), nw_id (by omega) (by omega)]; omega
    have c1 : 0 ≤ nw (k : Int) ∧ nw (k : Int) < 12 := by clear c0; rw [nw_id (by omega) (by omega)]; omega
    have c3 : ix (k : Int) = k := by clear c0 c1; rw [ix_id (by omega) (by omega), Int.toNat_natCast]
    have n1 : nw (arF rd mi pt (st k) 1 k) = arF rd mi pt (st k) 1 k := by clear c0 c1 c3; exact nw_id (by omega) (by omega)
    have n0 : nw (arF rd mi pt (st k) 0 k) = arF rd mi pt (st k) 0 k := by clear c0 c1 c3 n1; exact nw_id (by omega) (by omega)
    have vE : (if nw (arF rd mi pt (st k) 0 k) ≤ nw (arF rd mi pt (st k) 1 k) then (0 : Int) else 1) = ((vnF rd mi pt (st k) k : Nat) : Int) := by
      rw [n1, n0]
      clear c0 c1 c3 n1 n0
      unfold vnF
      split <;> split <;> omega
    have v2 : vnF rd mi pt (st k) k < 2 := by unfold vnF; split <;> omega
    have av := X_comesAt_s C ⟨x1, x2, x3⟩ S0 hk v2 ⟨t1, t2, t3, t4, t5, t6, t7⟩
    have rv := ar_rng C (v := vnF rd mi pt (st k) k) hk ⟨t1, t2, t3, t4, t5, t6, t7⟩
    have d1 : 0 ≤ nw ((vnF rd mi pt (st k) k : Nat) : Int) ∧ nw ((vnF rd mi pt (st k) k : Nat) : Int) < 2 := by clear c0 c1 c3 n1 n0 vE; rw [nw_id (by omega) (by omega)]; omega
    have d2 : ix ((vnF rd mi pt (st k) k : Nat) : Int) = vnF rd mi pt (st k) k := by clear c0 c1 c3 n1 n0 vE d1; rw [ix_id (by omega) (by omega), Int.toNat_natCast]
    have aX1 : Vans_comesAt 1 k g = some (arF rd mi pt (st k) 1 k) := a1
    have aX0 : Vans_comesAt 0 k g = some (arF rd mi pt (st k) 0 k) := a0
    -- the next state
    obtain ⟨gn, hgn⟩ : ∃ gn : AG, gn = up (up (up (up (up (up g 112 k (vnF rd mi pt (st k) k : Nat)) 113 (vnF rd mi pt (st k) k) (pt k)) 114 (vnF rd mi pt (st k) k) (arF rd mi pt (st k) (vnF rd mi pt (st k) k) k + wk k)) 11 12 ((st k).2.2.2.2.1 + (arF rd mi pt (st k) (vnF rd mi pt (st k) k) k - mi k))) 11 13 (max (st k).2.2.2.2.2.1 (arF rd mi pt (st k) (vnF rd mi pt (st k) k) k - mi k))) 11 14 (max (st k).2.2.2.2.2.2 (arF rd mi pt (st k) (vnF rd mi pt (st k) k) k + wk k)) := ⟨_, rfl⟩
    have fn : FR [(11, 13), (11, 14), (11, 15), (112, 0), (113, 0), (114, 0)] g gn := by
      rw [hgn]
      refine Fr.up (Fr.up (Fr.up (Fr.up (Fr.up (Fr.up Fr.rf ?_) ?_) ?_) ?_) ?_) ?_ <;> rfl
    have Xn : XT gn rd mi wk pt N := ⟨fun i hi => by rw [fn 108 i rfl]; exact x1 i hi, by rw [fn 11 5 rfl]; exact x2, fun i hi => by rw [fn 109 i rfl, fn 110 i rfl, fn 111 i rfl]; exact x3 i hi⟩
    have Sn : XS gn (st (k + 1)) := by
      rw [hs, hgn]
      clear vE av rv d1 d2 a1 a0 aX1 aX0 c0 c1 c3 n1 n0 ih T2 fn Xn hgn
      unfold tsF XS
      dsimp only
      have hvv : vnF rd mi pt (st k) k = 0 ∨ vnF rd mi pt (st k) k = 1 := by omega
      rcases hvv with e | e <;> rw [e] <;> simp [up_at, s1, s2, s3, s4]
    obtain ⟨g2, e2, f2, S2, p2, q2⟩ := ih (k + 1) gn (by clear c0 c1 c3 n1 n0 vE d1; omega) Xn Sn T2
    rw [show ((k + 1 : Nat) : Int) = (k : Int) + 1 from rfl] at e2
    refine ⟨g2, ?_, fn.tr f2, S2, ?_, ?_⟩
    · rw [← e2, Vans_takeCalls_b, if_neg c0, aX1, sb, aX0, sb, vE, sb, av, sb, if_pos c1, c3, sb, if_pos d1, d2]
      have m1 : ∀ (G : AG), G 11 13 = (st k).2.2.2.2.2.1 → mxI (G 11 13) (arF rd mi pt (st k) (vnF rd mi pt (st k) k) k - mi k) = max (st k).2.2.2.2.2.1 (arF rd mi pt (st k) (vnF rd mi pt (st k) k) k - mi k) := by
        intro G hG
        rw [hG]
        clear c0 c1 c3 n1 n0 vE d1 d2
        exact mxI_s (by omega) (by omega) (by omega) (by omega)
      have m2 : ∀ (G : AG) (y : Int), y = arF rd mi pt (st k) (vnF rd mi pt (st k) k) k + wk k → G 11 14 = (st k).2.2.2.2.2.2 → mxI (G 11 14) y = max (st k).2.2.2.2.2.2 (arF rd mi pt (st k) (vnF rd mi pt (st k) k) k + wk k) := by
        intro G y hy hG
        rw [hG, hy]
        clear c0 c1 c3 n1 n0 vE d1 d2
        exact mxI_s (by omega) (by omega) (by omega) (by omega)
      clear c0 c1 c3 n1 n0 vE d1 d2 av rv a1 a0 aX1 aX0 e2 ih
      rw [sb, sb, sb, sb, sb]
      rw [hgn]
      congr 1
      generalize arF rd mi pt (st k) (vnF rd mi pt (st k) k) k = t at m1 m2 ⊢
      generalize vnF rd mi pt (st k) k = v at *
      have z1 : (up g 112 k (v : Int)) 110 k = pt k := by rw [up_at, if_neg (by omega)]; exact y2
      have z2 : (up (up g 112 k (v : Int)) 113 v (pt k)) 111 k = wk k := by rw [up_at, if_neg (by omega), up_at, if_neg (by omega)]; exact y3
      rw [z1, z2]
      have z3 : (up (up (up g 112 k (v : Int)) 113 v (pt k)) 114 v (t + wk k)) 11 12 = (st k).2.2.2.2.1 := by rw [up_at, if_neg (by omega), up_at, if_neg (by omega), up_at, if_neg (by omega)]; exact s5
      have z4 : (up (up (up g 112 k (v : Int)) 113 v (pt k)) 114 v (t + wk k)) 109 k = mi k := by rw [up_at, if_neg (by omega), up_at, if_neg (by omega), up_at, if_neg (by omega)]; exact y1
      rw [z3, z4]
      have z5 : (up (up (up (up g 112 k (v : Int)) 113 v (pt k)) 114 v (t + wk k)) 11 12 ((st k).2.2.2.2.1 + (t - mi k))) 109 k = mi k := by rw [up_at, if_neg (by omega)]; exact z4
      rw [z5, m1 _ (by rw [up_at, if_neg (by omega), up_at, if_neg (by omega), up_at, if_neg (by omega), up_at, if_neg (by omega)]; exact s6)]
      rw [m2 _ _ (by rw [up_at, if_neg (by omega), up_at, if_neg (by omega), up_at, if_pos ⟨rfl, rfl⟩]) (by rw [up_at, if_neg (by omega), up_at, if_neg (by omega), up_at, if_neg (by omega), up_at, if_neg (by omega), up_at, if_neg (by omega)]; exact s7)]
    · intro i hi
      rw [p2 i (by clear c0 c1 c3 n1 n0 vE d1; omega), hgn]
      clear c0 c1 c3 n1 n0 vE d1 d2
      simp only [up_at, Nat.reduceEqDiff, false_and, if_false, true_and]
      rw [if_neg (by omega)]
    · intro i h1 h2
      by_cases e : i = k
      · subst e
        rw [p2 i (by clear c0 c1 c3 n1 n0 vE d1; omega), hgn]
        simp only [up_at, Nat.reduceEqDiff, false_and, if_false, and_self, if_true]
      · exact q2 i (by clear c0 c1 c3 n1 n0 vE d1; omega) h2
end
section
/-! plain programs: calls taken, the reference -/
def MT (g : AG) (rd mi wk : Nat → Int) (pt : Nat → Nat) (N : Nat) : Prop := (∀ i : Nat, i < 15 → g 120 i = rd i) ∧ g 117 92 = N ∧ ∀ i, i < N → g 181 i = mi i ∧ g 182 i = pt i ∧ g 183 i = wk i
def MS (g : AG) (s : TS) : Prop := g 184 0 = s.1 ∧ g 184 1 = s.2.1 ∧ g 185 0 = s.2.2.1 ∧ g 185 1 = s.2.2.2.1
theorem M_drive_rd {g : AG} {rd : Nat → Int} {a b : Nat} (hr : ∀ i, i < 15 → 1 ≤ rd i ∧ rd i ≤ 99) (e : ∀ i : Nat, i < 15 → g 120 i = rd i) (ha : a ≤ 15) (hb : b ≤ 15) : M_drive a b g = some (dvF rd a b) := by
  rw [M_drive_s ha hb (fun i hi => by rw [e i hi]; exact hr i hi), dv_cg e ha hb]
theorem M_arrives_s {g : AG} {rd mi wk : Nat → Int} {pt : Nat → Nat} {N : Nat} (C : CaOk rd mi wk pt N) (X : MT g rd mi wk pt N) {s : TS} (S : MS g s) {i v : Nat} (hi : i < N) (hv : v < 2) (h : TsOk s i) : M_arrives v i g = some (arF rd mi pt s v i) := by
  obtain ⟨x1, x2, x3⟩ := X
  obtain ⟨y1, y2, y3⟩ := x3 i hi
  have c := C.2.2 i hi
  have hN := C.2.1
  obtain ⟨h1, h2, h3, h4, _⟩ := h
  obtain ⟨s1, s2, s3, s4⟩ := S
  have c1 : 0 ≤ nw (i : Int) ∧ nw (i : Int) < 12 := by rw [nw_id (by omega) (by omega)]; omega
  have c2 : 0 ≤ nw (v : Int) ∧ nw (v : Int) < 2 := by clear c1; rw [nw_id (by omega) (by omega)]; omega
  have c3 : ix (i : Int) = i := by clear c1 c2; rw [ix_id (by omega) (by omega), Int.toNat_natCast]
  have c4 : ix (v : Int) = v := by clear c1 c2 c3; rw [ix_id (by omega) (by omega), Int.toNat_natCast]
  unfold M_arrives arF
  rw [if_pos c2, if_pos c1, c3, c4, y1, y2]
  clear c1 c2 c3 c4
  have mxe : ∀ T : Int, 0 ≤ T → T ≤ 40000 → (if nw T ≤ nw (mi i) then some (mi i) else some T) = some (max (mi i) T) := by
    intro T t1 t2
    have n1 : nw T = T := nw_id (by omega) (by omega)
    have n2 : nw (mi i) = mi i := by clear n1; exact nw_id (by omega) (by omega)
    rw [n1, n2]
    clear n1 n2
    by_cases y : T ≤ mi i
    · rw [if_pos y, show max (mi i) T = mi i by omega]
    · rw [if_neg y, show max (mi i) T = T by omega]
  have hvv : v = 0 ∨ v = 1 := by omega
  rcases hvv with e | e
  · subst e
    rw [s1, s3, mxe _ (by omega) (by omega), sb, M_drive_rd C.1 x1 h1 c.2.2, sb]
    rfl
  · subst e
    rw [s2, s4, mxe _ (by omega) (by omega), sb, M_drive_rd C.1 x1 h2 c.2.2, sb]
    rfl
def tkR (rd mi : Nat → Int) (pt : Nat → Nat) (st : Nat → TS) (N : Nat) (x : Int) : Int := if 10 ≤ x then (vnF rd mi pt (st (x - 10).toNat) (x - 10).toNat : Nat) else if x = 0 then (st N).2.2.2.2.1 else if x = 1 then (st N).2.2.2.2.2.1 else (st N).2.2.2.2.2.2
theorem M_take_s {rd mi wk : Nat → Int} {pt : Nat → Nat} {N : Nat} (C : CaOk rd mi wk pt N) {st : Nat → TS} (hst : ∀ i, i < N → st (i + 1) = tsF rd mi wk pt (st i) i) {x1 x2 x3 : Int} : ∀ (n k : Nat) (g : AG), k + n = N → MT g rd mi wk pt N → MS g (st k) → TsOk (st k) k → (0 ≤ x3 ∧ x3 ≤ 2) ∨ (10 + (k : Int) ≤ x3 ∧ x3 ≤ 9 + (N : Int)) → ∃ g', M_taken_b x1 x2 x3 2 (st k).2.2.2.2.1 (st k).2.2.2.2.2.1 (st k).2.2.2.2.2.2 k g = some (tkR rd mi pt st N x3, g') ∧ FR [(184, 0), (185, 0)] g g' := by
  intro n
  induction n with
  | zero =>
    intro k g h X S T hx
    have hN := C.2.1
    have hx2 : 0 ≤ x3 ∧ x3 ≤ 2 := by omega
    clear hx
    refine ⟨g, ?_, Fr.rf⟩
    have n3 : nw x3 = x3 := nw_id (by omega) (by omega)
    rw [M_taken_b.eq_1 _ _ _ 2, if_neg (by decide), if_pos rfl, if_pos (by rw [X.2.1]; clear n3; rw [nw_id (by omega) (by omega), nw_id (by omega) (by omega)]; omega), sb, n3, show k = N by clear n3; omega]
    unfold tkR
    clear n3
    rw [if_neg (show ¬ 10 ≤ x3 by omega)]
  | succ n ih =>
    intro k g h X S T hx
    have hN := C.2.1
    have hk : k < N := by omega
    have T0 := T
    have X0 := X
    have S0 := S
    have v2 : vnF rd mi pt (st k) k < 2 := by unfold vnF; split <;> omega
    have aX1 : M_arrives 1 k g = some (arF rd mi pt (st k) 1 k) := M_arrives_s C X S hk (v := 1) (by omega) T
    have aX0 : M_arrives 0 k g = some (arF rd mi pt (st k) 0 k) := M_arrives_s C X S hk (v := 0) (by omega) T
    have av := M_arrives_s C X S hk v2 T
    have r1 := ar_rng C (v := 1) hk T
    have r0 := ar_rng C (v := 0) hk T
    have rv := ar_rng C (v := vnF rd mi pt (st k) k) hk T
    have T2 := ts_ok C hk T
    rw [← hst k hk] at T2
    have hs := hst k hk
    obtain ⟨xx1, xx2, xx3⟩ := X
    obtain ⟨y1, y2, y3⟩ := xx3 k hk
    have ck := C.2.2 k hk
    obtain ⟨s1, s2, s3, s4⟩ := S
    obtain ⟨t1, t2, t3, t4, t5, t6, t7⟩ := T
    have vE : (if nw (arF rd mi pt (st k) 0 k) ≤ nw (arF rd mi pt (st k) 1 k) then (0 : Int) else 1) = ((vnF rd mi pt (st k) k : Nat) : Int) := by
      revert hx
      intro _
      have n1 : nw (arF rd mi pt (st k) 1 k) = arF rd mi pt (st k) 1 k := nw_id (by omega) (by omega)
      have n0 : nw (arF rd mi pt (st k) 0 k) = arF rd mi pt (st k) 0 k := by clear n1; exact nw_id (by omega) (by omega)
      rw [n1, n0]
      clear n1 n0
      unfold vnF
      split <;> split <;> omega
    have c0 : ¬ nw (g 117 92) ≤ nw (k : Int) := by clear vE; rw [xx2, nw_id (by omega) (by omega), nw_id (by omega) (by omega)]; omega
    have cq : (nw x3 = nw (10 + (k : Int))) = (x3 = 10 + (k : Int)) := by clear vE c0; rw [nw_id (by omega) (by omega), nw_id (by omega) (by omega)]
    have step0 : ∀ a b c : Int, M_taken_b x1 x2 x3 2 a b c k g = _ := fun a b c => by
      rw [M_taken_b.eq_1 _ _ _ 2, if_neg (by decide), if_pos rfl, if_neg c0, aX1, sb, aX0, sb, vE, sb]
    by_cases q : x3 = 10 + (k : Int)
    · refine ⟨g, ?_, Fr.rf⟩
      rw [step0, if_pos (by rw [cq]; exact q)]
      unfold tkR
      rw [if_pos (by clear step0 cq c0 vE; omega), show (x3 - 10).toNat = k by clear step0 cq c0 vE; omega]
    · have hx2 : (0 ≤ x3 ∧ x3 ≤ 2) ∨ (10 + ((k + 1 : Nat) : Int) ≤ x3 ∧ x3 ≤ 9 + (N : Int)) := by clear step0 cq c0 vE; omega
      clear hx
      obtain ⟨gn, hgn⟩ : ∃ gn : AG, gn = up (up g 185 (vnF rd mi pt (st k) k) (arF rd mi pt (st k) (vnF rd mi pt (st k) k) k + wk k)) 184 (vnF rd mi pt (st k) k) (pt k) := ⟨_, rfl⟩
      have fn : FR [(184, 0), (185, 0)] g gn := by rw [hgn]; exact Fr.up (Fr.up Fr.rf rfl) rfl
      have Xn : MT gn rd mi wk pt N := ⟨fun i hi => by rw [fn 120 i rfl]; exact xx1 i hi, by rw [fn 117 92 rfl]; exact xx2, fun i hi => by rw [fn 181 i rfl, fn 182 i rfl, fn 183 i rfl]; exact xx3 i hi⟩
      have Sn : MS gn (st (k + 1)) := by
        rw [hs, hgn]
        clear vE av aX1 aX0 c0 cq step0 ih hgn fn Xn T2 hx2 q
        unfold tsF MS
        dsimp only
        have hvv : vnF rd mi pt (st k) k = 0 ∨ vnF rd mi pt (st k) k = 1 := by omega
        rcases hvv with e | e <;> rw [e] <;> simp [up_at, s1, s2, s3, s4]
      obtain ⟨g2, e2, f2⟩ := ih (k + 1) gn (by clear step0 cq c0 vE hx2; omega) Xn Sn T2 hx2
      refine ⟨g2, ?_, fn.tr f2⟩
      rw [show ((k + 1 : Nat) : Int) = (k : Int) + 1 from rfl, hs] at e2
      rw [← e2, step0, if_neg (by rw [cq]; exact q)]
      clear step0 cq c0 vE e2 ih hx2 aX0 aX1 Xn Sn f2 fn T2 q hs r1 r0
      have d0 : 0 ≤ nw (k : Int) ∧ nw (k : Int) < 12 := by rw [nw_id (by omega) (by omega)]; omega
      have d3 : ix (k : Int) = k := by clear d0; rw [ix_id (by omega) (by omega), Int.toNat_natCast]
      have d1 : 0 ≤ nw ((vnF rd mi pt (st k) k : Nat) : Int) ∧ nw ((vnF rd mi pt (st k) k : Nat) : Int) < 2 := by clear d0 d3; rw [nw_id (by omega) (by omega)]; omega
      have d2 : ix ((vnF rd mi pt (st k) k : Nat) : Int) = vnF rd mi pt (st k) k := by clear d0 d1 d3; rw [ix_id (by omega) (by omega), Int.toNat_natCast]
      rw [av, sb, if_pos d0, d3, y1]
      clear av d0 d3
      unfold tsF
      dsimp only
      rw [hgn]
      clear hgn
      generalize arF rd mi pt (st k) (vnF rd mi pt (st k) k) k = t at rv ⊢
      generalize vnF rd mi pt (st k) k = v at *
      have n1 : nw (t - mi k) = t - mi k := by clear d1 d2; exact nw_id (by omega) (by omega)
      have n2 : nw (st k).2.2.2.2.2.1 = (st k).2.2.2.2.2.1 := by clear d1 d2 n1; exact nw_id (by omega) (by omega)
      have mxe : ∀ G : AG, (if nw (t - mi k) ≤ nw (st k).2.2.2.2.2.1 then some ((st k).2.2.2.2.2.1, G) else some (t - mi k, G)) = some (max (st k).2.2.2.2.2.1 (t - mi k), G) := by
        intro G
        rw [n1, n2]
        clear n1 n2 d1 d2
        by_cases y : t - mi k ≤ (st k).2.2.2.2.2.1
        · rw [if_pos y, show max (st k).2.2.2.2.2.1 (t - mi k) = (st k).2.2.2.2.2.1 by omega]
        · rw [if_neg y, show max (st k).2.2.2.2.2.1 (t - mi k) = t - mi k by omega]
      rw [mxe, sb]
      dsimp only
      rw [if_pos d1, d2, sb]
      clear mxe n1 n2 d1 d2
      have z1 : (up g 185 v (t + g 183 k)) 182 k = pt k := by rw [up_at, if_neg (by omega)]; exact y2
      have z2 : (up (up g 185 v (t + g 183 k)) 184 v (pt k)) 185 v = t + wk k := by rw [up_at, if_neg (by omega), up_at, if_pos ⟨rfl, rfl⟩, y3]
      rw [z1, sb, z2, y3]
      have m1 : nw (t + wk k) = t + wk k := by clear z1 z2; exact nw_id (by omega) (by omega)
      have m2 : nw (st k).2.2.2.2.2.2 = (st k).2.2.2.2.2.2 := by clear z1 z2 m1; exact nw_id (by omega) (by omega)
      have mye : ∀ G : AG, (if nw (t + wk k) ≤ nw (st k).2.2.2.2.2.2 then some ((st k).2.2.2.2.2.2, G) else some (t + wk k, G)) = some (max (st k).2.2.2.2.2.2 (t + wk k), G) := by
        intro G
        rw [m1, m2]
        clear m1 m2 z1 z2
        by_cases y : t + wk k ≤ (st k).2.2.2.2.2.2
        · rw [if_pos y, show max (st k).2.2.2.2.2.2 (t + wk k) = (st k).2.2.2.2.2.2 by omega]
        · rw [if_neg y, show max (st k).2.2.2.2.2.2 (t + wk k) = t + wk k by omega]
      rw [mye, sb]
theorem sm_taken {x1 x2 x3 : Int} {g : AG} (h1 : I32 x1) (h2 : I32 x2) (h3 : I32 x3) (W : JWay g) (Q : JCall g) (A : JAlong g) :
    ∃ r1 r2, X_taken x1 x2 x3 g = some r1 ∧ M_taken x1 x2 x3 r1.2 = some r2 ∧ nw r1.1 = nw r2.1 ∧ FR [(108, 0), (11, 13), (11, 14), (11, 15), (112, 0), (113, 0), (114, 0), (184, 0), (185, 0)] g r2.2 ∧ JAlong r2.2 := by
  unfold I32 at *
  have eX1 := isPointX0 (x := x1) (by omega) (by omega)
  have eX2 := isPointX0 (x := x2) (by omega) (by omega)
  have eM1 := isPoint0 (x := x1) (by omega) (by omega)
  have eM2 := isPoint0 (x := x2) (by omega) (by omega)
  by_cases p1 : x1 < 0 ∨ 15 < x1
  · refine ⟨(-1, g), (-1, g), ?_, ?_, rfl, Fr.rf, A⟩
    · unfold X_taken; rw [if_pos (by rw [eX1]; exact p1)]
    · unfold M_taken; dsimp only; rw [if_pos (by rw [eM1]; exact p1)]
  by_cases p2 : x2 < 0 ∨ 15 < x2
  · refine ⟨(-1, g), (-1, g), ?_, ?_, rfl, Fr.rf, A⟩
    · unfold X_taken; rw [if_neg (by rw [eX1]; exact p1), if_pos (by rw [eX2]; exact p2)]
    · unfold M_taken; dsimp only; rw [if_neg (by rw [eM1]; exact p1), if_pos (by rw [eM2]; exact p2)]
  obtain ⟨g1, e1, f1, q1, A1⟩ := measure0 A
  obtain ⟨a, ha⟩ : ∃ a : Nat, x1 = a := ⟨x1.toNat, by omega⟩
  obtain ⟨b, hb⟩ : ∃ b : Nat, x2 = b := ⟨x2.toNat, by omega⟩
  obtain ⟨N, hN⟩ : ∃ N : Nat, g 11 5 = N := ⟨(g 11 5).toNat, by have := Q.1; omega⟩
  have C : CaOk (g 15) (g 109) (g 111) (fun i => (g 110 i).toNat) N := by
    refine ⟨fun i hi => ?_, by have := Q.1; omega, fun i hi => ?_⟩
    · have := W i hi; omega
    · have := Q.2 i (by omega)
      exact ⟨by omega, by omega, by dsimp only; omega⟩
  obtain ⟨st, st0, hst'⟩ : ∃ st : Nat → TS, st 0 = (a, b, 0, 0, 0, 0, 0) ∧ ∀ i, st (i + 1) = tsF (g 15) (g 109) (g 111) (fun i => (g 110 i).toNat) (st i) i :=
    ⟨fun n => Nat.rec (a, b, 0, 0, 0, 0, 0) (fun i s => tsF (g 15) (g 109) (g 111) (fun i => (g 110 i).toNat) s i) n, rfl, fun i => rfl⟩
  have hst : ∀ i, i < N → st (i + 1) = tsF (g 15) (g 109) (g 111) (fun i => (g 110 i).toNat) (st i) i := fun i _ => hst' i
  have T0 : TsOk (st 0) 0 := by
    rw [st0]
    unfold TsOk
    dsimp only
    omega
  obtain ⟨gi, hgi⟩ : ∃ gi : AG, gi = up (up (up (fillG (up (up g1 113 (ix 0) x1) 113 (ix 1) x2) 114 2 0) 11 12 0) 11 13 0) 11 14 0 := ⟨_, rfl⟩
  have fi : FR [(11, 13), (11, 14), (11, 15), (112, 0), (113, 0), (114, 0)] g1 gi := by
    rw [hgi]
    exact Fr.up (Fr.up (Fr.up (Fr.fill (Fr.up (Fr.up Fr.rf rfl) rfl) (fun _ => rfl)) rfl) rfl) rfl
  have Xi : XT gi (g 15) (g 109) (g 111) (fun i => (g 110 i).toNat) N := by
    refine ⟨fun i hi => by rw [fi 108 i rfl]; exact q1 i hi, by rw [fi 11 5 rfl, f1 11 5 rfl]; exact hN, fun i hi => ?_⟩
    have := Q.2 i (by omega)
    refine ⟨by rw [fi 109 i rfl, f1 109 i rfl], by rw [fi 110 i rfl, f1 110 i rfl]; dsimp only; omega, by rw [fi 111 i rfl, f1 111 i rfl]⟩
  have ix0 : ix 0 = 0 := by rw [ix_id (by decide) (by decide)]; rfl
  have ix1 : ix 1 = 1 := by rw [ix_id (by decide) (by decide)]; rfl
  have Si : XS gi (st 0) := by
    rw [st0, hgi, ix0, ix1]
    unfold XS
    dsimp only
    simp [up_at, fill_at, ha, hb]
  obtain ⟨g2, e2, f2, S2, _, k2⟩ := X_take_s C hst N 0 gi (by omega) Xi Si T0
  have fX : FR [(108, 0), (11, 13), (11, 14), (11, 15), (112, 0), (113, 0), (114, 0), (184, 0), (185, 0)] g g2 := (FR.mo f1 rfl).tr (FR.mo (fi.tr f2) rfl)
  have A2 : JAlong g2 := by show g2 108 0 = 0; rw [f2 108 0 rfl, fi 108 0 rfl]; exact A1
  have xE : X_taken x1 x2 x3 g = (if nw x3 = 0 then some ((g2 11 12), g2) else (if nw x3 = 1 then some ((g2 11 13), g2) else (if nw x3 = 2 then some ((g2 11 14), g2) else (Vans_takerOf x3 g2 >>= fun r10 => some (r10, g2))))) := by
    unfold X_taken Vans_takeCalls
    have e2' : Vans_takeCalls_b 0 gi = some (0, g2) := e2
    rw [if_neg (by rw [eX1]; exact p1), if_neg (by rw [eX2]; exact p2), e1, sb, sb, sb, sb, sb, sb, sb, ← hgi, e2', sb]
  have n5 : g2 11 5 = N := by rw [f2 11 5 rfl, fi 11 5 rfl, f1 11 5 rfl]; exact hN
  have eT : (nw (X_within (x3 - 10) 0 ((g2 11 5) - 1)) = 0) = (x3 < 10 ∨ 9 + (N : Int) < x3) := by
    rw [n5]
    have c := C.2.1
    unfold X_within
    rw [nw_0, nw_id (a := (N : Int) - 1) (by omega) (by omega)]
    have wr : nw (x3 - 10) = if x3 < -2147483638 then x3 - 10 + 4294967296 else x3 - 10 := by
      by_cases z : x3 < -2147483638
      · rw [if_pos z, nw_iff.2 (show (x3 - 10 - (x3 - 10 + 4294967296)) % 4294967296 = 0 by omega), nw_id (by omega) (by omega)]
      · rw [if_neg z, nw_id (by omega) (by omega)]
    rw [wr]
    clear wr eX1 eX2 eM1 eM2
    by_cases z : x3 < -2147483638
    · rw [if_pos z, if_neg (by omega), if_pos (by omega), nw_0]; simp; omega
    · rw [if_neg z]
      by_cases z1 : x3 - 10 < 0
      · rw [if_pos z1, nw_0]; simp; omega
      · rw [if_neg z1]
        by_cases z2 : (N : Int) - 1 < x3 - 10
        · rw [if_pos z2, nw_0]; simp; omega
        · rw [if_neg z2, nw_1]; simp; omega
  have eI0 : (nw (M_isIn x3 0 2) = 0) = (x3 < 0 ∨ 2 < x3) := isIn0 (by omega) (by omega) (by decide) (by decide) (by decide) (by decide)
  have m5 : g2 117 92 = N := by rw [fX 117 92 rfl, Q.1.1]; exact hN
  have eI1 : (nw (M_isIn x3 10 (9 + (g2 117 92))) = 0) = (x3 < 10 ∨ 9 + (N : Int) < x3) := by
    have c := C.2.1
    rw [m5]
    exact isIn0 (by omega) (by omega) (by decide) (by decide) (by omega) (by omega)
  by_cases ok : (0 ≤ x3 ∧ x3 ≤ 2) ∨ (10 + ((0 : Nat) : Int) ≤ x3 ∧ x3 ≤ 9 + (N : Int))
  · obtain ⟨gm, hgm⟩ : ∃ gm : AG, gm = up (up (up (up g2 184 (ix 0) x1) 184 (ix 1) x2) 185 (ix 0) 0) 185 (ix 1) 0 := ⟨_, rfl⟩
    have fm : FR [(184, 0), (185, 0)] g2 gm := by
      rw [hgm]
      exact Fr.up (Fr.up (Fr.up (Fr.up Fr.rf rfl) rfl) rfl) rfl
    have Mi : MT gm (g 15) (g 109) (g 111) (fun i => (g 110 i).toNat) N := by
      refine ⟨fun i hi => by rw [fm 120 i rfl, fX 120 i rfl]; have := W i hi; omega, by rw [fm 117 92 rfl]; exact m5, fun i hi => ?_⟩
      have := Q.2 i (by omega)
      refine ⟨by rw [fm 181 i rfl, fX 181 i rfl]; exact this.1.1, by rw [fm 182 i rfl, fX 182 i rfl]; dsimp only; omega, by rw [fm 183 i rfl, fX 183 i rfl]; exact this.1.2.2⟩
    have Sm : MS gm (st 0) := by
      rw [st0, hgm, ix0, ix1]
      unfold MS
      dsimp only
      simp [up_at, ha, hb]
    obtain ⟨g3, e3, f3⟩ := M_take_s C hst (x1 := x1) (x2 := x2) (x3 := x3) N 0 gm (by omega) Mi Sm T0 ok
    have e3' : M_taken_b x1 x2 x3 2 0 0 0 0 gm = some (tkR (g 15) (g 109) (fun i => (g 110 i).toNat) st N x3, g3) := by
      rw [st0] at e3
      exact e3
    have fE : FR [(108, 0), (11, 13), (11, 14), (11, 15), (112, 0), (113, 0), (114, 0), (184, 0), (185, 0)] g g3 := fX.tr (FR.mo (fm.tr f3) rfl)
    have A3 : JAlong g3 := by show g3 108 0 = 0; rw [f3 108 0 rfl, fm 108 0 rfl]; exact A2
    refine ⟨(tkR (g 15) (g 109) (fun i => (g 110 i).toNat) st N x3, g2), (tkR (g 15) (g 109) (fun i => (g 110 i).toNat) st N x3, g3), ?_, ?_, rfl, fE, A3⟩
    · rw [xE]
      obtain ⟨_, _, _, _, w1, w2, w3⟩ := S2
      unfold tkR
      have n3 : nw x3 = x3 := nw_id (by omega) (by omega)
      rw [n3]
      clear n3
      by_cases z : 10 ≤ x3
      · rw [if_neg (by omega), if_neg (by omega), if_neg (by omega), if_pos z]
        unfold Vans_takerOf
        obtain ⟨j, hj⟩ : ∃ j : Nat, x3 = 10 + j := ⟨(x3 - 10).toNat, by omega⟩
        have c := C.2.1
        have jN : j < N := by omega
        have kj := k2 j (by omega) jN
        rw [if_neg (by rw [eT]; clear eT eI0 eI1 eX1 eX2 eM1 eM2; omega), hj, show (10 + (j : Int) - 10) = j by omega, Int.toNat_natCast]
        have d0 : 0 ≤ nw (j : Int) ∧ nw (j : Int) < 12 := by clear eT eI0 eI1 eX1 eX2 eM1 eM2; rw [nw_id (by omega) (by omega)]; omega
        have d1 : ix (j : Int) = j := by clear d0 eT eI0 eI1 eX1 eX2 eM1 eM2; rw [ix_id (by omega) (by omega), Int.toNat_natCast]
        rw [if_pos d0, d1, kj, sb, sb]
      · rw [if_neg z]
        by_cases z0 : x3 = 0
        · rw [if_pos z0, if_pos z0, w1]
        · rw [if_neg z0, if_neg z0]
          by_cases z1 : x3 = 1
          · rw [if_pos z1, if_pos z1, w2]
          · rw [if_neg z1, if_neg z1, if_pos (by omega), w3]
    · unfold M_taken
      dsimp only
      rw [if_neg (by rw [eM1]; exact p1), if_neg (by rw [eM2]; exact p2)]
      have mt : M_taken_b x1 x2 x3 1 0 0 0 0 g2 = some (tkR (g 15) (g 109) (fun i => (g 110 i).toNat) st N x3, g3) := by
        rw [M_taken_b.eq_1 _ _ _ 1, if_pos rfl, sb, sb, sb, sb, ← hgm, e3']
      rw [mt]
      by_cases z : 10 ≤ x3
      · rw [if_pos (by rw [eI0]; clear eT eI0 eI1 eX1 eX2 eM1 eM2; omega), if_neg (by rw [eI1]; clear eT eI0 eI1 eX1 eX2 eM1 eM2; omega)]
      · rw [if_neg (by rw [eI0]; clear eT eI0 eI1 eX1 eX2 eM1 eM2; omega)]
  · refine ⟨(-1, g2), (-1, g2), ?_, ?_, rfl, fX, A2⟩
    · rw [xE]
      have n3 : nw x3 = x3 := nw_id (by omega) (by omega)
      rw [n3]
      clear n3
      rw [if_neg (by omega), if_neg (by omega), if_neg (by omega)]
      unfold Vans_takerOf
      rw [if_pos (by rw [eT]; clear eT eI0 eI1 eX1 eX2 eM1 eM2; omega), sb, sb]
    · unfold M_taken
      dsimp only
      rw [if_neg (by rw [eM1]; exact p1), if_neg (by rw [eM2]; exact p2), if_pos (by rw [eI0]; clear eT eI0 eI1 eX1 eX2 eM1 eM2; omega), if_pos (by rw [eI1]; clear eT eI0 eI1 eX1 eX2 eM1 eM2; omega)]
end
section
/-! plain programs: faults and looks -/
def JFault (g : AG) : Prop := g 117 44 = g 4 7 ∧ g 117 46 = g 4 8
theorem sm_fault {x1 : Int} {g : AG} (J : JFault g) : nw (X_fault x1 g) = nw (M_fault x1 g) := by
  unfold X_fault M_fault
  rw [J.1, J.2]
theorem sm_look {x1 : Int} {g : AG} (j0 : g 117 12 = g 6 7) (j1 : g 117 49 = g 7 8) (j2 : g 117 65 = g 9 4) (j3 : g 117 87 = g 10 7) (j4 : g 117 59 = g 8 2) (j5 : g 117 11 = g 1 4) (j6 : g 117 10 = g 1 5) (j7 : g 117 92 = g 11 5) : nw (X_look x1 g) = nw (M_look x1 g) := by
  unfold X_look M_look
  rw [j0, j1, j2, j3, j4, j5, j6, j7]
end
