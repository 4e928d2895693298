/-! plain programs: a step of a boat; the first minute at which it may begin -/
def foI (ok : Int → Bool) (t r : Int) : Prop := (r = -1 ∧ ∀ s, t ≤ s → s < 20160 → ok s = false) ∨ (t ≤ r ∧ r < 20160 ∧ ok r = true ∧ ∀ s, t ≤ s → s < r → ok s = false)
theorem foI_u {ok : Int → Bool} {t r r' : Int} (h0 : 0 ≤ t) (h : foI ok t r) (h' : foI ok t r') : r = r' := by
  rcases h with ⟨rfl, h⟩ | ⟨a1, a2, a3, a4⟩
  · rcases h' with ⟨rfl, h'⟩ | ⟨b1, b2, b3, b4⟩
    · rfl
    · rw [h r' b1 b2] at b3; cases b3
  · rcases h' with ⟨rfl, h'⟩ | ⟨b1, b2, b3, b4⟩
    · rw [h' r a1 a2] at a3; cases a3
    · rcases Int.lt_trichotomy r r' with q | q | q
      · rw [b4 r a1 q] at a3; cases a3
      · exact q
      · rw [a4 r' b1 q] at b3; cases b3
def fo (ok : Int → Bool) : Nat → Int → Int
  | 0, _ => -1
  | n + 1, t => if ok t = true then t else fo ok n (t + 1)
theorem fo_I {ok : Int → Bool} : ∀ (n : Nat) (t : Int), t + n = 20160 → foI ok t (fo ok n t)
  | 0, t, h => Or.inl ⟨rfl, fun s h1 h2 => by omega⟩
  | n + 1, t, h => by
    unfold fo
    by_cases e : ok t = true
    · rw [if_pos e]
      exact Or.inr ⟨by omega, by omega, e, fun s h1 h2 => by omega⟩
    · rw [if_neg e]
      have e' : ok t = false := by cases h : ok t with | false => rfl | true => exact absurd h e
      rcases fo_I (ok := ok) n (t + 1) (by omega) with ⟨a, b⟩ | ⟨a1, a2, a3, a4⟩
      · refine Or.inl ⟨a, fun s h1 h2 => ?_⟩
        by_cases q : s = t
        · rw [q]; exact e'
        · exact b s (by omega) h2
      · refine Or.inr ⟨by omega, a2, a3, fun s h1 h2 => ?_⟩
        by_cases q : s = t
        · rw [q]; exact e'
        · exact a4 s (by omega) h2
def foT (ok : Int → Bool) (t : Int) : Int := if t < 0 then -1 else fo ok (20160 - t).toNat t
theorem foT_I {ok : Int → Bool} {t : Int} (h0 : 0 ≤ t) (h1 : t ≤ 20160) : foI ok t (foT ok t) := by
  unfold foT
  rw [if_neg (by omega)]
  exact fo_I _ _ (by omega)
theorem foT_eq {ok : Int → Bool} {t r : Int} (h0 : 0 ≤ t) (h1 : t ≤ 20160) (h : foI ok t r) : r = foT ok t := foI_u h0 h (foT_I h0 h1)
theorem foT_rng {ok : Int → Bool} {t : Int} (h1 : t ≤ 20160) : foT ok t = -1 ∨ (t ≤ foT ok t ∧ 0 ≤ foT ok t ∧ foT ok t < 20160) := by
  by_cases h0 : t < 0
  · unfold foT; rw [if_pos h0]; exact Or.inl rfl
  · rcases foT_I (ok := ok) (t := t) (by omega) h1 with ⟨a, _⟩ | ⟨a, b, _⟩
    · exact Or.inl a
    · exact Or.inr ⟨a, by omega, b⟩
/-- where a step that begins at r ends -/
def fin (r lasts : Int) : Int := if r = -1 ∨ 20159 < r + lasts then -1 else r + lasts
def StR (g : AG) : Prop := (0 ≤ g 117 11 ∧ g 117 11 ≤ 8) ∧ ∀ s : Nat, (s : Int) < g 117 11 → (0 ≤ g 121 s ∧ g 121 s < 15) ∧ (0 ≤ g 122 s ∧ g 122 s ≤ 13) ∧ (0 ≤ g 123 s ∧ g 123 s ≤ 13)
def stpN (a b c : Nat → Int) (i d : Int) : Nat → Nat → Bool
  | 0, _ => false
  | n + 1, s => decide (a s = i ∧ b s ≤ d ∧ d ≤ c s) || stpN a b c i d n (s + 1)
def stpM (g : AG) (i d : Int) : Bool := stpN (g 121) (g 122) (g 123) i d (g 117 11).toNat 0
theorem M_isStopped_b_s {g : AG} {i d : Int} (hi : 0 ≤ i ∧ i < 15) (hd : 0 ≤ d ∧ d < 14) (R : StR g) : ∀ (n s : Nat), ((s + n : Nat) : Int) = g 117 11 → M_isStopped_b i d g 1 s = some (if stpN (g 121) (g 122) (g 123) i d n s = true then 1 else 0) := by
  obtain ⟨⟨r1, r2⟩, r3⟩ := R
  intro n
  induction n with
  | zero =>
    intro s h
    rw [M_isStopped_b]
    simp (disch := omega) only [nw_id, ix_id, sb, if_true, if_false, if_pos, if_neg, true_and, and_true, false_and, and_false, and_self, stpN]
    rfl
  | succ n ih =>
    intro s h
    have q := r3 s (by omega)
    rw [M_isStopped_b]
    unfold stpN
    have next : (M_isStopped_b i d g 2 s) = some (if stpN (g 121) (g 122) (g 123) i d n (s + 1) = true then 1 else 0) := by
      rw [M_isStopped_b, if_neg (by decide), if_pos rfl, ← ih (s + 1) (by omega)]
      rfl
    simp (disch := omega) only [nw_id, ix_id, sb, if_true, if_false, if_pos, if_neg, true_and, and_true, false_and, and_false, and_self, Int.toNat_natCast, next, isIn0]
    by_cases c1 : g 121 s = i
    · by_cases c2 : g 122 s ≤ d ∧ d ≤ g 123 s
      · simp (disch := omega) only [nw_id, ix_id, sb, if_true, if_false, if_pos, if_neg, true_and, and_true, false_and, and_false, and_self, c1]
        simp [c2]
      · have c3 : d < g 122 s ∨ g 123 s < d := by omega
        simp (disch := omega) only [nw_id, ix_id, sb, if_true, if_false, if_pos, if_neg, true_and, and_true, false_and, and_false, and_self, c1]
        simp [c2]
    · simp (disch := omega) only [nw_id, ix_id, sb, if_true, if_false, if_pos, if_neg, true_and, and_true, false_and, and_false, and_self, c1]
      simp
theorem M_isStopped_s {g : AG} {i d : Int} (hi : 0 ≤ i ∧ i < 15) (hd : 0 ≤ d ∧ d < 14) (R : StR g) : M_isStopped i d g = some (if stpM g i d = true then 1 else 0) := by
  unfold M_isStopped stpM
  have := R.1
  exact M_isStopped_b_s hi hd R _ 0 (by omega)
abbrev TOK : Type := Nat → Int → Int → Bool
/-- whether a step of a sort may begin in a stretch at a minute -/
def okS (g : AG) (i : Nat) (sort h : Int) (d : Nat) : Bool :=
  if sort = 0 then true else if sort = 1 then decide (hrA g (g 117 10) d ≤ h ∧ h < hrB g (g 117 10) d)
  else decide (g 144 (2 * i + (sort - 2).toNat) = 1 ∧ g 142 (2 * (2 * i + (sort - 2).toNat)) ≤ h ∧ h < g 142 (2 * (2 * i + (sort - 2).toNat) + 1))
def okM (g : AG) (sd : Int → Int → Bool) : TOK := fun i sort t => decide (8 ≤ t % 1440 / 60 ∧ t % 1440 / 60 ≤ 19) && !sd i (t / 1440) && okS g i sort (t % 1440 / 60) (t / 1440).toNat
theorem JRule.tun {g : AG} (J : JRule g) {k : Nat} (hk : k < 30) : (g 144 k = 0 ∨ g 144 k = 1) ∧ (g 144 k = 1 → (0 ≤ g 142 (2 * k) ∧ g 142 (2 * k) ≤ 24) ∧ (0 ≤ g 142 (2 * k + 1) ∧ g 142 (2 * k + 1) ≤ 24)) := by
  have jt := J.2.2.2.2.2.2.2
  have q := jt (k / 2) (by omega)
  have hh : k = 2 * (k / 2) ∨ k = 2 * (k / 2) + 1 := by omega
  have gen : ∀ (h a b t1 t2 : Int) (q : Bool), tnOk h a b t1 t2 q → (h = 0 ∨ h = 1) ∧ (h = 1 → (0 ≤ a ∧ a ≤ 24) ∧ (0 ≤ b ∧ b ≤ 24)) := by
    rintro h a b t1 t2 q ⟨q1, q2, q3, q4, q5⟩
    cases q with
    | true =>
      obtain ⟨e1, e2⟩ := q2 rfl
      subst e1; subst e2
      simp at q1
      exact ⟨Or.inr q1, fun _ => ⟨q4, q5⟩⟩
    | false =>
      simp at q1
      exact ⟨Or.inl q1, fun e => by omega⟩
  rcases hh with e | e
  · have := gen _ _ _ _ _ _ q.1
    rw [← e] at this
    exact this
  · have := gen _ _ _ _ _ _ q.2
    rw [← e] at this
    exact this
theorem M_mayBegin_s {g : AG} {i : Nat} {sort t : Int} (hi : i < 15) (hs : 0 ≤ sort ∧ sort ≤ 3) (ht : 0 ≤ t ∧ t ≤ 20159) (J : JRule g) (R : StR g) :
    ∃ g', M_mayBegin i sort (t / 1440) (t % 1440 / 60) g = some (if okM g (stpM g) i sort t = true then 1 else 0, g') ∧ FR [(147, 0), (148, 0)] g g' := by
  generalize hd : t / 1440 = d
  generalize hh : t % 1440 / 60 = h
  have d1 : 0 ≤ d ∧ d < 14 := by omega
  have h1 : 0 ≤ h ∧ h < 24 := by omega
  unfold okM
  rw [hd, hh]
  clear hd hh ht
  unfold M_mayBegin
  rw [M_isStopped_s (i := (i : Int)) (by omega) d1 R]
  by_cases c1 : 8 ≤ h ∧ h ≤ 19
  · by_cases c2 : stpM g i d = true
    · simp (disch := omega) only [nw_id, ix_id, sb, if_true, if_false, if_pos, if_neg, true_and, and_true, false_and, and_false, and_self, isIn0, c2, reduceIte]
      exact ⟨g, by simp, Fr.rf⟩
    · have c2' : stpM g i d = false := by cases e : stpM g i d with | false => rfl | true => exact absurd e c2
      simp (disch := omega) only [nw_id, ix_id, sb, if_true, if_false, if_pos, if_neg, true_and, and_true, false_and, and_false, and_self, isIn0, c2', Bool.false_eq_true]
      by_cases s0 : sort = 0
      · simp (disch := omega) only [nw_id, ix_id, sb, if_true, if_false, if_pos, if_neg, true_and, and_true, false_and, and_false, and_self]
        refine ⟨g, ?_, Fr.rf⟩
        simp [okS, s0, c1]
      · by_cases s1 : sort = 1
        · obtain ⟨g1, e1, f1⟩ := M_locksLine_s (day := d) J d1.1 d1.2
          have hr := srvF_rng (kd := g 128) (md := g 132) (en := g 133) (cd := g 134) (fc := fcDay d (g 117 10)) (sort := 0) (g 2 3).toNat 0
          have hq := hr_rng J (g 117 10) d.toNat
          have J0 := J.1
          have k1 : g1 129 = g 129 := f1.cell (fun _ => rfl)
          have k2 : g1 130 = g 130 := f1.cell (fun _ => rfl)
          refine ⟨g1, ?_, f1⟩
          unfold okS
          unfold hrA hrB srvG at hq ⊢
          rw [show ((d.toNat : Nat) : Int) = d by omega] at hq ⊢
          unfold srvG at e1
          simp (disch := omega) only [nw_id, ix_id, sb, if_true, if_false, if_pos, if_neg, true_and, and_true, false_and, and_false, and_self, e1]
          generalize srvF (g 128) (g 132) (g 133) (g 134) (fcDay d (g 117 10)) 0 (g 2 3).toNat 0 = l at hr hq ⊢
          by_cases e : l = -1
          · subst e
            clear hr hq
            simp (disch := omega) only [nw_id, ix_id, sb, if_true, if_false, if_pos, if_neg, true_and, and_true, false_and, and_false, and_self, true_or, or_true]
            simp [c1]
            omega
          · have hr2 : 0 ≤ l ∧ l < 16 := by rcases hr with hr | ⟨a, b, c⟩ <;> omega
            rw [if_neg e, if_neg e] at hq
            clear hr
            simp (disch := omega) only [nw_id, ix_id, sb, if_true, if_false, if_pos, if_neg, true_and, and_true, false_and, and_false, and_self, k1, k2]
            by_cases p1 : h < g 129 l.toNat
            · simp (disch := omega) only [nw_id, ix_id, sb, if_true, if_false, if_pos, if_neg, true_and, and_true, false_and, and_false, and_self]
              simp [c1]
              omega
            · simp (disch := omega) only [nw_id, ix_id, sb, if_true, if_false, if_pos, if_neg, true_and, and_true, false_and, and_false, and_self]
              by_cases p2 : g 130 l.toNat ≤ h
              · simp (disch := omega) only [nw_id, ix_id, sb, if_true, if_false, if_pos, if_neg, true_and, and_true, false_and, and_false, and_self, true_or, or_true]
                simp [c1]
                omega
              · simp (disch := omega) only [nw_id, ix_id, sb, if_true, if_false, if_pos, if_neg, true_and, and_true, false_and, and_false, and_self, true_or, or_true]
                simp [c1]
                omega
        · obtain ⟨w, hw⟩ : ∃ w : Nat, sort = w + 2 := ⟨(sort - 2).toNat, by omega⟩
          subst hw
          have tn := J.tun (k := 2 * i + w) (by omega)
          have t0 : (2 * (i : Int) + ((w : Int) + 2) - 2).toNat = 2 * i + w := by omega
          have t1 : (2 * (2 * (i : Int) + ((w : Int) + 2) - 2)).toNat = 2 * (2 * i + w) := by omega
          have t2 : (2 * (2 * (i : Int) + ((w : Int) + 2) - 2) + 1).toNat = 2 * (2 * i + w) + 1 := by omega
          have t3 : ((w : Int) + 2 - 2).toNat = w := by omega
          refine ⟨g, ?_, Fr.rf⟩
          unfold okS
          rw [if_neg s0, if_neg s1, t3]
          rcases tn.1 with q | q
          · clear tn
            simp (disch := omega) only [nw_id, ix_id, sb, if_true, if_false, if_pos, if_neg, true_and, and_true, false_and, and_false, and_self, t0, q, true_or, or_true]
            simp
          · have tn2 := tn.2 q
            clear tn
            simp (disch := omega) only [nw_id, ix_id, sb, if_true, if_false, if_pos, if_neg, true_and, and_true, false_and, and_false, and_self, t0, t1, t2, q]
            by_cases p1 : h < g 142 (2 * (2 * i + w))
            · simp (disch := omega) only [nw_id, ix_id, sb, if_true, if_false, if_pos, if_neg, true_and, and_true, false_and, and_false, and_self, true_or, or_true]
              simp [c1]
              omega
            · by_cases p2 : g 142 (2 * (2 * i + w) + 1) ≤ h
              · simp (disch := omega) only [nw_id, ix_id, sb, if_true, if_false, if_pos, if_neg, true_and, and_true, false_and, and_false, and_self, true_or, or_true]
                simp [c1]
                omega
              · simp (disch := omega) only [nw_id, ix_id, sb, if_true, if_false, if_pos, if_neg, true_and, and_true, false_and, and_false, and_self, true_or, or_true]
                simp [c1]
                omega
  · have c3 : h < 8 ∨ 19 < h := by omega
    simp (disch := omega) only [nw_id, ix_id, sb, if_true, if_false, if_pos, if_neg, true_and, and_true, false_and, and_false, and_self, isIn0]
    exact ⟨g, by simp [c1], Fr.rf⟩
