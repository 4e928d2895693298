/-! plain programs: back -/
section GE
variable {ok : TOK} {tu : Nat → Bool} {mi lk : Nat → Int} {la : Int}
def geT (t r : Int) : Prop := r = -1 ∨ t ≤ r
theorem stF_ge {i : Nat} {sort t lasts : Int} (ht : TmOk t) (hl : 0 ≤ lasts) : geT t (stF ok i sort t lasts) := by
  rcases stF_rng (ok := ok) (i := i) (sort := sort) (t := t) (lasts := lasts) (by unfold TmOk at ht; omega) hl with h | h
  · exact Or.inl h
  · exact Or.inr h.1
theorem geT.tr {a b c : Int} (h1 : geT a b) (h2 : geT b c) (h3 : b = -1 → c = -1) : geT a c := by
  unfold geT at *
  omega
theorem miF_ge {i : Nat} : ∀ (n : Nat) (t : Int), TmOk t → geT t (miF ok i n t)
  | 0, t, _ => Or.inr (Int.le_refl t)
  | n + 1, t, h => (stF_ge h (by decide)).tr (miF_ge n _ (stF_tm h (by decide))) (fun e => by show miF ok i n (stF ok i 0 t 20) = -1; rw [e, miF_m1])
theorem enF_ge {i : Nat} {up : Bool} {t : Int} (hm : 0 ≤ mi i) (h : TmOk t) : geT t (enF ok tu mi i up t) := by
  unfold enF
  by_cases e : tu i = true
  · rw [if_pos e]
    by_cases e2 : 0 < mi i
    · rw [if_pos e2]; exact stF_ge h (by omega)
    · rw [if_neg e2]; exact Or.inr (Int.le_refl t)
  · rw [if_neg e]; exact miF_ge _ _ h
theorem lkF_ge {i : Nat} (hl : 0 ≤ la) : ∀ (n : Nat) (p : Int × List Int), TmOk p.1 → geT p.1 (lkF ok i la n p).1
  | 0, p, _ => Or.inr (Int.le_refl _)
  | n + 1, p, h => by
    unfold lkF
    by_cases e : stF ok i 1 p.1 la = -1
    · rw [if_pos e, lkF_m1]; exact Or.inl rfl
    · rw [if_neg e]
      exact (stF_ge h hl).tr (lkF_ge hl n (stF ok i 1 p.1 la, (stF ok i 1 p.1 la - la) / 1440 :: p.2) (stF_tm h hl)) (fun q => absurd q e)
theorem thF_ge {i : Nat} {up : Bool} {p : Int × List Int} (hl : 0 ≤ la) (hm : 0 ≤ mi i) (h : TmOk p.1) : geT p.1 (thF ok tu mi lk la i up p).1 := by
  unfold thF
  exact (enF_ge hm h).tr (lkF_ge hl _ (enF ok tu mi i up p.1, p.2) (enF_tm hm h)) (fun e => by rw [e, lkF_m1])
theorem thF_tm2 {i : Nat} {up : Bool} {p : Int × List Int} (hl : 0 ≤ la) (hm : 0 ≤ mi i) (hk : 0 ≤ lk i ∧ lk i ≤ 9) (h : TmOk p.1) : TmOk (thF ok tu mi lk la i up p).1 := by
  have q := thF_ok (ok := ok) (tu := tu) (mi := mi) (lk := lk) (i := i) (up := up) (p := (p.1, [])) hl hm hk h (by intro d hd; cases hd)
  rw [thF_fst (p := p) (q := (p.1, [])) rfl]
  exact q.1
theorem upF_ge (hl : 0 ≤ la) (hm : ∀ i, i < 15 → 0 ≤ mi i) (hk : ∀ i, i < 15 → 0 ≤ lk i ∧ lk i ≤ 9) : ∀ (n a : Nat) (p : Int × List Int), a + n ≤ 15 → TmOk p.1 → geT p.1 (upF ok tu mi lk la n a p).1
  | 0, _, p, _, _ => Or.inr (Int.le_refl _)
  | n + 1, a, p, h, ht => by
    unfold upF
    refine (thF_ge hl (hm a (by omega)) ht).tr (upF_ge hl hm hk n (a + 1) _ (by omega) (thF_tm2 hl (hm a (by omega)) (hk a (by omega)) ht)) (fun e => ?_)
    rw [upF_fst (q := (-1, [])) n (a + 1) _ e, upF_m1]
theorem dnF_ge (hl : 0 ≤ la) (hm : ∀ i, i < 15 → 0 ≤ mi i) (hk : ∀ i, i < 15 → 0 ≤ lk i ∧ lk i ≤ 9) : ∀ (n a : Nat) (p : Int × List Int), n ≤ a → a ≤ 15 → TmOk p.1 → geT p.1 (dnF ok tu mi lk la n a p).1
  | 0, _, p, _, _, _ => Or.inr (Int.le_refl _)
  | n + 1, a, p, h, h', ht => by
    unfold dnF
    refine (thF_ge hl (hm (a - 1) (by omega)) ht).tr (dnF_ge hl hm hk n (a - 1) _ (by omega) (by omega) (thF_tm2 hl (hm (a - 1) (by omega)) (hk (a - 1) (by omega)) ht)) (fun e => ?_)
    rw [dnF_fst (q := (-1, [])) n (a - 1) _ e, dnF_m1]
end GE
theorem ldM_ge {a c : Nat} {ta t : Int} {g : AG} (V : JV g) (ha : a ≤ 15) (hc : c ≤ 15) (ht : 0 ≤ ta ∧ ta ≤ 60) (htm : TmOk t) : ldM g ta a c t = -1 ∨ t ≤ ldM g ta a c t := by
  have v1 := V.1
  have hl : 0 ≤ laF ta := by unfold laF; omega
  unfold ldM ledF
  have u := upF_ge (ok := okM g (stpM g)) (tu := tuM g) (mi := g 118) (lk := g 119) hl (fun i hi => (v1 i hi).2.2.2.1) (fun i hi => ⟨(v1 i hi).2.2.2.2.2.1, (v1 i hi).2.2.2.2.2.2.1⟩) (c - a) a (t, []) (by omega) htm
  have ut := (upF_ok (ok := okM g (stpM g)) (tu := tuM g) (mi := g 118) (lk := g 119) hl (fun i hi => (v1 i hi).2.2.2.1) (fun i hi => ⟨(v1 i hi).2.2.2.2.2.1, (v1 i hi).2.2.2.2.2.2.1⟩) (c - a) a (t, []) (by omega) htm (by intro d hd; cases hd)).1
  have d := dnF_ge (ok := okM g (stpM g)) (tu := tuM g) (mi := g 118) (lk := g 119) hl (fun i hi => (v1 i hi).2.2.2.1) (fun i hi => ⟨(v1 i hi).2.2.2.2.2.1, (v1 i hi).2.2.2.2.2.2.1⟩) (a - c) a _ (by omega) ha ut
  exact u.tr d (fun e => by rw [dnF_fst (q := (-1, [])) _ _ _ e, dnF_m1])
/-- coming to a point n stretches on, and back -/
def bkA (g : AG) (ta : Int) (a : Nat) (p : Nat) (t : Int) : Int := ldM g ta p a (ldM g ta a p t)
def bkG (g : AG) (ta : Int) (a : Nat) (t due : Int) (p : Nat) : Prop := ¬ ldM g ta a p t = -1 ∧ ¬ bkA g ta a p t = -1 ∧ bkA g ta a p t ≤ due
/-- the point n stretches from a towards c -/
def ptF (a c n : Nat) : Nat := if c ≤ a then a - n else a + n
def xbF (g : AG) (ta : Int) (a c : Nat) (t due : Int) : Nat → Nat → Int → Int
  | 0, _, far => far
  | n + 1, j, far => xbF g ta a c t due n (j + 1) (if ¬ ldM g ta a (ptF a c j) t = -1 ∧ ¬ bkA g ta a (ptF a c j) t = -1 ∧ bkA g ta a (ptF a c j) t ≤ due then (ptF a c j : Int) else far)
theorem isBack_s {k p : Nat} {g : AG} (T : JT g) {b a c : Nat} (hk : (k : Int) < g 7 8) (e1 : g 76 k = b) (e2 : g 77 k = a) (hb : b < 10) (ha : a ≤ 15) (ht : 0 ≤ g 79 k ∧ g 79 k ≤ 20159) (hd : 0 ≤ g 80 k ∧ g 80 k ≤ 20159) (hr : 0 ≤ g 51 b ∧ g 51 b ≤ 60) (hp : p ≤ 15) : ∃ g', Trips_isBackInTime k p g = some (if ¬ ldM g (g 51 b) a p (g 79 k) = -1 ∧ ¬ bkA g (g 51 b) a p (g 79 k) = -1 ∧ bkA g (g 51 b) a p (g 79 k) ≤ g 80 k then 1 else 0, g') ∧ FR WV g g' := by
  have t1 := T.2.2.1
  obtain ⟨g1, r1, f1⟩ := X_comesTo1 (a := a) (c := p) (ta := g 51 b) (t := g 79 k) T.1 ha hp hr (Or.inr ht)
  have l1 := ldM_tm (g := g) (a := a) (c := p) (ta := g 51 b) (t := g 79 k) T.1 ha hp hr (Or.inr ht)
  obtain ⟨g2, r2, f2⟩ := X_comesTo1 (a := p) (c := a) (ta := g 51 b) (t := ldM g (g 51 b) a p (g 79 k)) (g := g1) (T.1.fr f1 rfl) hp ha hr l1
  have l2 := ldM_tm (g := g) (a := p) (c := a) (ta := g 51 b) (t := ldM g (g 51 b) a p (g 79 k)) T.1 hp ha hr l1
  rw [ldM_fr f1 rfl] at r2
  have q1 : g1 77 k = a := by rw [f1 77 k rfl]; exact e2
  have q2 : g2 80 k = g 80 k := by rw [f2 80 k rfl, f1 80 k rfl]
  unfold bkA
  unfold TmOk at l1 l2
  by_cases c1 : ldM g (g 51 b) a p (g 79 k) = -1
  · refine ⟨g1, ?_, f1⟩
    rw [c1] at r1
    unfold Trips_isBackInTime
    clear l1 l2 r2
    simp (disch := omega) only [nw_id, ix_id, sb, if_true, if_false, if_pos, if_neg, true_and, and_true, false_and, and_false, and_self, Int.toNat_natCast, e1, e2, r1, c1, not_true]
  · refine ⟨g2, ?_, f1.tr f2⟩
    unfold Trips_isBackInTime
    generalize ldM g (g 51 b) p a (ldM g (g 51 b) a p (g 79 k)) = M at r2 l2 ⊢
    generalize ldM g (g 51 b) a p (g 79 k) = L at r1 r2 l1 c1 ⊢
    have c2 : 0 ≤ L ∧ L ≤ 20159 := by omega
    clear l1
    by_cases c3 : M = -1
    · clear l2
      simp (disch := omega) only [nw_id, ix_id, sb, if_true, if_false, if_pos, if_neg, true_and, and_true, false_and, and_false, and_self, Int.toNat_natCast, e1, e2, r1, r2, q1, not_true, not_false_eq_true, true_or]
    · have c4 : 0 ≤ M ∧ M ≤ 20159 := by omega
      clear l2
      by_cases c5 : g 80 k < M
      · simp (disch := omega) only [nw_id, ix_id, sb, if_true, if_false, if_pos, if_neg, true_and, and_true, false_and, and_false, and_self, Int.toNat_natCast, e1, e2, r1, r2, q1, q2, not_false_eq_true, true_or]
      · simp (disch := omega) only [nw_id, ix_id, sb, if_true, if_false, if_pos, if_neg, true_and, and_true, false_and, and_false, and_self, Int.toNat_natCast, e1, e2, r1, r2, q1, q2, not_false_eq_true, or_true]
theorem ptF_int {a c n : Nat} (h : n ≤ (if c ≤ a then a - c else c - a)) : ((ptF a c n : Nat) : Int) = if c ≤ a then (a : Int) - n else (a : Int) + n := by
  unfold ptF
  split
  · next q => rw [if_pos q] at h; omega
  · omega
theorem ptF_le {a c n : Nat} (ha : a ≤ 15) (hc : c ≤ 15) (h : n ≤ (if c ≤ a then a - c else c - a)) : ptF a c n ≤ 15 := by
  unfold ptF
  split at h <;> split <;> omega
theorem X_tb_s {k : Nat} {b a c : Nat} (hb : b < 10) (ha : a ≤ 15) (hc : c ≤ 15) {way st ta t due : Int} {N : Nat} (hN : N = if c ≤ a then a - c else c - a) (hst : st = N) (hw : a = c ∨ way = if c ≤ a then -1 else 1) (ht : 0 ≤ t ∧ t ≤ 20159) (hd : 0 ≤ due ∧ due ≤ 20159) (hr : 0 ≤ ta ∧ ta ≤ 60) : ∀ (n j : Nat) (far : Int) (g : AG), j + n = N + 1 → JT g → (k : Int) < g 7 8 → g 76 k = b → g 77 k = a → g 79 k = t → g 80 k = due → g 51 b = ta → ∃ g', Trips_turningBack_b k way st far j g = some (xbF g ta a c t due n j far, g') ∧ FR WV g g' := by
  intro n
  induction n with
  | zero =>
    intro j far g h T hk e1 e2 e3 e4 e5
    refine ⟨g, ?_, Fr.rf⟩
    have : N ≤ 15 := by rw [hN]; split <;> omega
    rw [Trips_turningBack_b]
    simp (disch := omega) only [nw_id, ix_id, sb, if_true, if_false, if_pos, if_neg, true_and, and_true, false_and, and_false, and_self]
    rfl
  | succ n ih =>
    intro j far g h T hk e1 e2 e3 e4 e5
    have t1 := T.2.2.1
    have hjN : j ≤ N := by omega
    have hpl := ptF_le (n := j) ha hc (by rw [← hN]; exact hjN)
    have hpi := ptF_int (a := a) (c := c) (n := j) (by rw [← hN]; exact hjN)
    have hpt : (a : Int) + (j : Int) * way = (ptF a c j : Nat) := by
      rw [hpi]
      rcases hw with q | q
      · subst q
        have : j = 0 := by rw [if_pos (Nat.le_refl _)] at hN; omega
        subst this
        simp
      · rw [q]
        split <;> omega
    obtain ⟨g1, r1, f1⟩ := isBack_s (p := ptF a c j) T (b := b) (a := a) (c := c) hk e1 e2 hb ha (by rw [e3]; exact ht) (by rw [e4]; exact hd) (by rw [e5]; exact hr) hpl
    rw [e3, e4, e5] at r1
    obtain ⟨g2, r2, f2⟩ := ih (j + 1) (if ¬ ldM g ta a (ptF a c j) t = -1 ∧ ¬ bkA g ta a (ptF a c j) t = -1 ∧ bkA g ta a (ptF a c j) t ≤ due then (ptF a c j : Int) else far) g1 (by omega) (T.fr f1 rfl rfl rfl) (by rw [f1 7 8 rfl]; exact hk) (by rw [f1 76 k rfl]; exact e1) (by rw [f1 77 k rfl]; exact e2) (by rw [f1 79 k rfl]; exact e3) (by rw [f1 80 k rfl]; exact e4) (by rw [f1 51 b rfl]; exact e5)
    have xf : xbF g1 ta a c t due = xbF g ta a c t due := by
      have lf := ldM_fr f1 rfl
      funext n
      induction n with
      | zero => rfl
      | succ n ihn =>
        funext j far
        unfold xbF bkA
        rw [lf, ihn]
    rw [xf, show ((j + 1 : Nat) : Int) = (j : Int) + 1 from rfl] at r2
    refine ⟨g2, ?_, f1.tr f2⟩
    unfold xbF
    rw [← r2, Trips_turningBack_b]
    have hN15 : N ≤ 15 := by rw [hN]; split <;> omega
    have q1 : g1 77 k = a := by rw [f1 77 k rfl]; exact e2
    have c1 : ¬ nw st < nw (j : Int) := by rw [nw_id (by omega) (by omega), nw_id (by omega) (by omega)]; omega
    have c2 : 0 ≤ nw (k : Int) ∧ nw (k : Int) < 20 := by clear c1; rw [nw_id (by omega) (by omega)]; omega
    have c3 : ix (k : Int) = k := by clear c1 c2; rw [ix_id (by omega) (by omega), Int.toNat_natCast]
    rw [if_neg c1, if_pos c2, c3, e2, hpt, r1, sb]
    by_cases z : ¬ ldM g ta a (ptF a c j) t = -1 ∧ ¬ bkA g ta a (ptF a c j) t = -1 ∧ bkA g ta a (ptF a c j) t ≤ due
    · simp only [if_pos z]
      rw [nw_1, if_neg (by decide), sb]
    · simp only [if_neg z]
      rw [nw_0, if_pos rfl, sb]
/-- the reference's loop -/
theorem M_tb_s {k : Nat} {b a c : Nat} (hb : b < 10) (ha : a ≤ 15) (hc : c ≤ 15) {way ta t due : Int} {N : Nat} (hN : N = if c ≤ a then a - c else c - a) (hw : way = if c ≤ a then -1 else 1) (ht : 0 ≤ t ∧ t ≤ 20159) (hd : 0 ≤ due ∧ due ≤ 20159) (hr : 0 ≤ ta ∧ ta ≤ 60) : ∀ (n j : Nat) (far best : Int) (g : AG), j + n = N + 1 → JT g → JFlag g → (k : Int) < g 7 8 → g 149 k = b → g 150 k = a → g 151 k = c → g 152 k = t → g 153 k = due → g 127 b = ta → ((best = -1 ∧ far = -1000000) ∨ (best = far ∧ 0 ≤ best ∧ best ≤ 15)) → ∃ g', M_turningBack_b k way 1 best j g = some (xbF g ta a c t due n j far, g') ∧ FR WM g g' := by
  have fin : ∀ (far best : Int) (m : Int) (g : AG), ((best = -1 ∧ far = -1000000) ∨ (best = far ∧ 0 ≤ best ∧ best ≤ 15)) → M_turningBack_b k way 2 best m g = some (far, g) := by
    intro far best m g h
    rw [M_turningBack_b, if_neg (by decide), if_pos rfl, sb]
    rcases h with ⟨rfl, rfl⟩ | ⟨rfl, h0, h1⟩
    · rw [nw_m1]; rfl
    · rw [if_neg (by rw [nw_id (by omega) (by omega)]; omega)]
  intro n
  induction n with
  | zero =>
    intro j far best g h T hf hk e1 e2 e3 e4 e5 e6 hbf
    have t1 := T.2.2.1
    refine ⟨g, ?_, Fr.rf⟩
    have hN15 : N ≤ 15 := by rw [hN]; split <;> omega
    have hNi : ((c : Int) - (a : Int)) * way = N := by
      rw [hN, hw]; split <;> omega
    have c2 : 0 ≤ nw (k : Int) ∧ nw (k : Int) < 20 := by clear hNi; rw [nw_id (by omega) (by omega)]; omega
    have c3 : ix (k : Int) = k := by clear c2 hNi; rw [ix_id (by omega) (by omega), Int.toNat_natCast]
    have c4 : nw (N : Int) < nw (j : Int) := by clear c2 c3 hNi; rw [nw_id (by omega) (by omega), nw_id (by omega) (by omega)]; omega
    rw [M_turningBack_b, if_pos rfl, if_pos c2, c3, e3, e2, hNi, if_pos c4, fin far best j g hbf]
    rfl
  | succ n ih =>
    intro j far best g h T hf hk e1 e2 e3 e4 e5 e6 hbf
    have t1 := T.2.2.1
    have hjN : j ≤ N := by omega
    have hpl := ptF_le (n := j) ha hc (by rw [← hN]; exact hjN)
    have hpi := ptF_int (a := a) (c := c) (n := j) (by rw [← hN]; exact hjN)
    have hpt : (a : Int) + (j : Int) * way = (ptF a c j : Nat) := by
      rw [hpi, hw]
      split <;> omega
    have hN15 : N ≤ 15 := by rw [hN]; split <;> omega
    have hNi : ((c : Int) - (a : Int)) * way = N := by
      rw [hN, hw]; split <;> omega
    have c2 : 0 ≤ nw (k : Int) ∧ nw (k : Int) < 20 := by clear hNi hpt; rw [nw_id (by omega) (by omega)]; omega
    have c3 : ix (k : Int) = k := by clear c2 hNi hpt; rw [ix_id (by omega) (by omega), Int.toNat_natCast]
    have c4 : ¬ nw (N : Int) < nw (j : Int) := by clear c2 c3 hNi hpt; rw [nw_id (by omega) (by omega), nw_id (by omega) (by omega)]; omega
    have tmt : TmOk t := Or.inr ht
    have l1 := ldM_tm (g := g) (a := a) (c := ptF a c j) (ta := ta) (t := t) T.1 ha hpl hr tmt
    have g1e := ldM_ge (g := g) (a := a) (c := ptF a c j) (ta := ta) (t := t) T.1 ha hpl hr tmt
    have l2 := ldM_tm (g := g) (a := ptF a c j) (c := a) (ta := ta) (t := ldM g ta a (ptF a c j) t) T.1 hpl ha hr l1
    have g2e := ldM_ge (g := g) (a := ptF a c j) (c := a) (ta := ta) (t := ldM g ta a (ptF a c j) t) T.1 hpl ha hr l1
    -- nothing good from here on
    have dead : (∀ i : Nat, j ≤ i → i ≤ N → ¬ (¬ ldM g ta a (ptF a c i) t = -1 ∧ ¬ bkA g ta a (ptF a c i) t = -1 ∧ bkA g ta a (ptF a c i) t ≤ due)) → xbF g ta a c t due (n + 1) j far = far := by
      intro hno
      have key : ∀ (m i : Nat) (f : Int), j ≤ i → i + m = N + 1 → xbF g ta a c t due m i f = f := by
        intro m
        induction m with
        | zero => intro i f _ _; rfl
        | succ m ihm =>
          intro i f h1 h2
          unfold xbF
          rw [if_neg (hno i h1 (by omega))]
          exact ihm (i + 1) f (by omega) (by omega)
      exact key (n + 1) j far (Nat.le_refl _) h
    rw [M_turningBack_b, if_pos rfl, if_pos c2, c3, e3, e2, hNi, if_neg c4, e5, e4]
    clear c2 c3 c4 hNi
    have c5 : nw due = due := nw_id (by omega) (by omega)
    have c6 : nw t = t := by clear c5; exact nw_id (by omega) (by omega)
    rw [c5, c6]
    clear c5 c6
    by_cases z : due < t
    · rw [if_pos z, fin far best j g hbf, dead (fun i h1 h2 q => ?_)]
      · exact ⟨g, rfl, Fr.rf⟩
      · have hpl' := ptF_le (n := i) ha hc (by rw [← hN]; exact h2)
        have a1 := ldM_tm (g := g) (a := a) (c := ptF a c i) (ta := ta) (t := t) T.1 ha hpl' hr tmt
        have a2 := ldM_ge (g := g) (a := a) (c := ptF a c i) (ta := ta) (t := t) T.1 ha hpl' hr tmt
        have a3 := ldM_ge (g := g) (a := ptF a c i) (c := a) (ta := ta) (t := ldM g ta a (ptF a c i) t) T.1 hpl' ha hr a1
        unfold bkA at q
        omega
    · rw [if_neg z, e1, hpt]
      obtain ⟨g1, r1, f1⟩ := M_led1 (b := b) (a := a) (c := ptF a c j) (t := t) (g := g) T.1 hf hb ha hpl (by rw [e6]; exact hr) tmt
      rw [e6] at r1
      rw [r1, sb]
      dsimp only
      by_cases d1 : ldM g ta a (ptF a c j) t = -1
      · rw [d1, nw_m1, if_pos rfl, sb]
        have := fin far best j g1 hbf
        rw [M_turningBack_b, if_neg (by decide), if_pos rfl, sb] at this
        rw [this, dead (fun i h1 h2 q => ?_)]
        · exact ⟨g1, rfl, f1⟩
        · refine q.1 ?_
          unfold ldM at d1 ⊢
          unfold ptF at d1 ⊢
          by_cases y : c ≤ a
          · rw [if_pos y] at d1 ⊢
            rw [if_pos y] at hN
            exact led_dn_m1 (by omega) (by omega) d1
          · rw [if_neg y] at d1 ⊢
            exact led_up_m1 (by omega) (by omega) d1
      · unfold TmOk at l1 l2
        have d2 : ¬ nw (ldM g ta a (ptF a c j) t) = -1 := by clear dead ih; rw [nw_id (by omega) (by omega)]; exact d1
        have q1 : g1 149 k = b := by rw [f1 149 k rfl]; exact e1
        have q2 : g1 150 k = a := by rw [f1 150 k rfl]; exact e2
        obtain ⟨g2, r2, f2⟩ := M_led1 (b := b) (a := ptF a c j) (c := a) (t := ldM g ta a (ptF a c j) t) (g := g1) (T.1.fr f1 rfl) (by unfold JFlag; rw [f1 117 47 rfl]; exact hf) hb hpl ha (by rw [f1 127 b rfl, e6]; exact hr) l1
        rw [ldM_fr f1 rfl, f1 127 b rfl, e6] at r2
        have f12 := f1.tr f2
        have q3 : g2 153 k = due := by rw [f12 153 k rfl]; exact e5
        have xf : xbF g2 ta a c t due = xbF g ta a c t due := by
          have lf := ldM_fr f12 rfl
          funext n
          induction n with
          | zero => rfl
          | succ n ihn =>
            funext j far
            unfold xbF bkA
            rw [lf, ihn]
        have go : ∀ far' best' : Int, ((best' = -1 ∧ far' = -1000000) ∨ (best' = far' ∧ 0 ≤ best' ∧ best' ≤ 15)) → far' = (if ¬ ldM g ta a (ptF a c j) t = -1 ∧ ¬ bkA g ta a (ptF a c j) t = -1 ∧ bkA g ta a (ptF a c j) t ≤ due then (ptF a c j : Int) else far) → ∃ g', M_turningBack_b k way 1 best' ((j : Int) + 1) g2 = some (xbF g ta a c t due (n + 1) j far, g') ∧ FR WM g g' := by
          intro far' best' hb' hf'
          obtain ⟨g3, r3, f3⟩ := ih (j + 1) far' best' g2 (by omega) (T.fr f12 rfl rfl rfl) (by unfold JFlag; rw [f12 117 47 rfl]; exact hf) (by rw [f12 7 8 rfl]; exact hk) (by rw [f12 149 k rfl]; exact e1) (by rw [f12 150 k rfl]; exact e2) (by rw [f12 151 k rfl]; exact e3) (by rw [f12 152 k rfl]; exact e4) q3 (by rw [f12 127 b rfl]; exact e6) hb'
          rw [xf, show ((j + 1 : Nat) : Int) = (j : Int) + 1 from rfl] at r3
          refine ⟨g3, ?_, f12.tr f3⟩
          rw [r3, hf']
          rfl
        rw [if_neg d2, q1, q2, r2, sb]
        clear d2
        simp only [q3]
        have bk : bkA g ta a (ptF a c j) t = ldM g ta (ptF a c j) a (ldM g ta a (ptF a c j) t) := rfl
        rw [← bk] at l2 ⊢
        by_cases d3 : bkA g ta a (ptF a c j) t = -1
        · rw [d3, nw_m1, if_pos rfl, sb]
          exact go far best hbf (by rw [if_neg (fun w => w.2.1 d3)])
        · have d4 : ¬ nw (bkA g ta a (ptF a c j) t) = -1 := by clear dead ih go; rw [nw_id (by omega) (by omega)]; exact d3
          have d5 : nw (bkA g ta a (ptF a c j) t) = bkA g ta a (ptF a c j) t := by clear dead ih go d4; exact nw_id (by omega) (by omega)
          have d6 : nw due = due := by clear d5 d4 dead ih go; exact nw_id (by omega) (by omega)
          rw [if_neg d4, d5, d6]
          clear d4 d5 d6
          by_cases d7 : due < bkA g ta a (ptF a c j) t
          · rw [if_pos d7, sb]
            exact go far best hbf (by rw [if_neg (fun w => by have := w.2.2; omega)])
          · rw [if_neg d7, sb]
            exact go (ptF a c j) (ptF a c j) (Or.inr ⟨rfl, by omega, by omega⟩) (by rw [if_pos ⟨d1, d3, by omega⟩])
theorem sm_turning {k : Nat} {g : AG} (T : JT g) (hf : JFlag g) (hk : (k : Int) < g 7 8) : ∃ v g1 g2, Trips_turningBack k g = some (v, g1) ∧ FR WV g g1 ∧ M_turningBack k g1 = some (v, g2) ∧ FR WM g1 g2 := by
  obtain ⟨b, a, c, e1, e2, e3, e4, e5, e6, e7, e8, hb, hb2, ha, hc, ht, hd, hta, hr, hk20⟩ := T.row hk
  obtain ⟨g1, r1, f1⟩ := X_tb_s (k := k) hb ha hc (way := if (a : Int) ≤ c then 1 else -1) (st := ((if c ≤ a then a - c else c - a : Nat) : Int)) (N := if c ≤ a then a - c else c - a) rfl rfl (by
    by_cases z : a = c
    · exact Or.inl z
    · refine Or.inr ?_
      split <;> split <;> omega) ht hd hr ((if c ≤ a then a - c else c - a) + 1) 0 (-1000000) g (by omega) T hk e1 e2 rfl rfl rfl
  have T1 := T.fr f1 rfl rfl rfl
  obtain ⟨g2, r2, f2⟩ := M_tb_s (k := k) hb ha hc (way := if c ≤ a then -1 else 1) (N := if c ≤ a then a - c else c - a) rfl rfl ht hd hr ((if c ≤ a then a - c else c - a) + 1) 0 (-1000000) (-1) g1 (by omega) T1 (by unfold JFlag; rw [f1 117 47 rfl]; exact hf) (by rw [f1 7 8 rfl]; exact hk) (by rw [f1 149 k rfl]; exact e4) (by rw [f1 150 k rfl]; exact e5) (by rw [f1 151 k rfl]; exact e6) (by rw [f1 152 k rfl]; exact e7) (by rw [f1 153 k rfl]; exact e8) (by rw [f1 127 b rfl]; exact hta) (Or.inl ⟨rfl, rfl⟩)
  have xf : xbF g1 (g 51 b) a c (g 79 k) (g 80 k) = xbF g (g 51 b) a c (g 79 k) (g 80 k) := by
    have lf := ldM_fr f1 rfl
    funext n
    induction n with
    | zero => rfl
    | succ n ihn =>
      funext j far
      unfold xbF bkA
      rw [lf, ihn]
  rw [xf] at r2
  have c2 : 0 ≤ nw (k : Int) ∧ nw (k : Int) < 20 := by rw [nw_id (by omega) (by omega)]; omega
  have c3 : ix (k : Int) = k := by clear c2; rw [ix_id (by omega) (by omega), Int.toNat_natCast]
  have c4 : nw (a : Int) = a := by clear c2 c3; exact nw_id (by omega) (by omega)
  have c5 : nw (c : Int) = c := by clear c2 c3 c4; exact nw_id (by omega) (by omega)
  refine ⟨xbF g (g 51 b) a c (g 79 k) (g 80 k) ((if c ≤ a then a - c else c - a) + 1) 0 (-1000000), g1, g2, ?_, f1, ?_, f2⟩
  · rw [← r1]
    unfold Trips_turningBack
    rw [if_pos c2, c3, e2, e3, c4, c5, sb]
    have ab : abI ((c : Int) - a) = ((if c ≤ a then a - c else c - a : Nat) : Int) := by
      clear c2 c3 c4 c5
      unfold abI
      rw [nw_id (by omega) (by omega)]
      split <;> split <;> omega
    rw [ab]
    rfl
  · rw [← r2]
    unfold M_turningBack
    have q2 : g1 150 k = a := by rw [f1 150 k rfl]; exact e5
    have q3 : g1 151 k = c := by rw [f1 151 k rfl]; exact e6
    rw [if_pos c2, c3, q2, q3, c4, c5, sb]
    have : (if (c : Int) ≤ a then (-1 : Int) else 1) = (if c ≤ a then -1 else 1) := by clear c2 c3 c4 c5; split <;> split <;> omega
    rw [this]
    rfl
