/-! plain programs: a step's end, on both sides -/
theorem okM_hour {g : AG} {sd : Int → Int → Bool} {i : Nat} {sort t s : Int} (h0 : 0 ≤ t) (h1 : t ≤ s) (h2 : s < (t / 60 + 1) * 60) : okM g sd i sort s = okM g sd i sort t := by
  have e1 : s / 1440 = t / 1440 := by omega
  have e2 : s % 1440 / 60 = t % 1440 / 60 := by omega
  unfold okM
  rw [e1, e2]
theorem okM_fr {W : Reg} {g g' : AG} {sd : Int → Int → Bool} (f : FR W g g') (d : djR [(117, 11), (2, 4), (128, 0), (129, 0), (130, 0), (132, 0), (133, 0), (134, 0), (142, 0), (144, 0)] W = true) : okM g' sd = okM g sd := by
  have c := f.cg d
  have c0 : g' 117 10 = g 117 10 := c 117 10 rfl
  have c1 : g' 2 3 = g 2 3 := c 2 3 rfl
  have c2 : g' 128 = g 128 := funext fun i => c 128 i rfl
  have c3 : g' 129 = g 129 := funext fun i => c 129 i rfl
  have c4 : g' 130 = g 130 := funext fun i => c 130 i rfl
  have c5 : g' 132 = g 132 := funext fun i => c 132 i rfl
  have c6 : g' 133 = g 133 := funext fun i => c 133 i rfl
  have c7 : g' 134 = g 134 := funext fun i => c 134 i rfl
  have c8 : g' 142 = g 142 := funext fun i => c 142 i rfl
  have c9 : g' 144 = g 144 := funext fun i => c 144 i rfl
  funext i sort t
  unfold okM okS hrA hrB srvG
  simp only [c0, c1, c2, c3, c4, c5, c6, c7, c8, c9]
theorem stpM_fr {W : Reg} {g g' : AG} (f : FR W g g') (d : djR [(117, 12), (121, 0), (122, 0), (123, 0)] W = true) : stpM g' = stpM g := by
  have c := f.cg d
  have c0 : g' 117 11 = g 117 11 := c 117 11 rfl
  have c1 : g' 121 = g 121 := funext fun i => c 121 i rfl
  have c2 : g' 122 = g 122 := funext fun i => c 122 i rfl
  have c3 : g' 123 = g 123 := funext fun i => c 123 i rfl
  funext i d
  unfold stpM
  rw [c0, c1, c2, c3]
theorem StR.fr {W : Reg} {g g' : AG} (h : StR g) (f : FR W g g') (d : djR [(117, 12), (121, 0), (122, 0), (123, 0)] W = true) : StR g' := by
  have c := f.cg d
  have c0 : g' 117 11 = g 117 11 := c 117 11 rfl
  have c1 : g' 121 = g 121 := funext fun i => c 121 i rfl
  have c2 : g' 122 = g 122 := funext fun i => c 122 i rfl
  have c3 : g' 123 = g 123 := funext fun i => c 123 i rfl
  unfold StR
  rw [c0, c1, c2, c3]
  exact h
theorem foI_shift {ok : Int → Bool} {t t' r : Int} (h : t ≤ t') (hn : ∀ s, t ≤ s → s < t' → ok s = false) (q : foI ok t' r) : foI ok t r := by
  rcases q with ⟨a, b⟩ | ⟨a1, a2, a3, a4⟩
  · refine Or.inl ⟨a, fun s h1 h2 => ?_⟩
    by_cases e : s < t'
    · exact hn s h1 e
    · exact b s (by omega) h2
  · refine Or.inr ⟨by omega, a2, a3, fun s h1 h2 => ?_⟩
    by_cases e : s < t'
    · exact hn s h1 e
    · exact a4 s (by omega) h2
theorem M_endOf_b_s {i : Nat} {sort lasts : Int} (hi : i < 15) (hs : 0 ≤ sort ∧ sort ≤ 3) (hl : 0 ≤ lasts ∧ lasts ≤ 1000) {sd : Int → Int → Bool} : ∀ (n : Nat) (t : Int) (g : AG), 0 ≤ t → t ≤ 20160 → 20160 - t ≤ n → JRule g → StR g → stpM g = sd →
    ∃ r g', foI (okM g sd i sort) t r ∧ M_endOf_b i sort lasts 1 t g = some (fin r lasts, g') ∧ FR [(147, 0), (148, 0)] g g' := by
  intro n
  induction n with
  | zero =>
    intro t g h0 h1 hn J R hsd
    refine ⟨-1, g, Or.inl ⟨rfl, fun s a b => by omega⟩, ?_, Fr.rf⟩
    rw [M_endOf_b]
    simp (disch := omega) only [nw_id, ix_id, sb, if_true, if_false, if_pos, if_neg, true_and, and_true, false_and, and_false, and_self]
    rw [M_endOf_b]
    simp (disch := omega) only [nw_id, ix_id, sb, if_true, if_false, if_pos, if_neg, true_and, and_true, false_and, and_false, and_self]
    simp [fin]
  | succ n ih =>
    intro t g h0 h1 hn J R hsd
    by_cases e : t = 20160
    · refine ⟨-1, g, Or.inl ⟨rfl, fun s a b => by omega⟩, ?_, Fr.rf⟩
      rw [M_endOf_b]
      simp (disch := omega) only [nw_id, ix_id, sb, if_true, if_false, if_pos, if_neg, true_and, and_true, false_and, and_false, and_self]
      rw [M_endOf_b]
      simp (disch := omega) only [nw_id, ix_id, sb, if_true, if_false, if_pos, if_neg, true_and, and_true, false_and, and_false, and_self]
      simp [fin]
    · obtain ⟨g1, e1, f1⟩ := M_mayBegin_s (g := g) (i := i) (sort := sort) (t := t) hi hs (by omega) J R
      rw [hsd] at e1
      rw [M_endOf_b]
      simp (disch := omega) only [nw_id, ix_id, sb, if_true, if_false, if_pos, if_neg, true_and, and_true, false_and, and_false, and_self, tdE, tmE, e1]
      by_cases c : okM g sd i sort t = true
      · refine ⟨t, g1, Or.inr ⟨by omega, by omega, c, fun s a b => by omega⟩, ?_, f1⟩
        rw [c]
        simp (disch := omega) only [nw_id, ix_id, sb, if_true, if_false, if_pos, if_neg, true_and, and_true, false_and, and_false, and_self]
        rw [M_endOf_b]
        simp (disch := omega) only [nw_id, ix_id, sb, if_true, if_false, if_pos, if_neg, true_and, and_true, false_and, and_false, and_self]
        unfold fin
        congr 2
        by_cases q : 20159 < t + lasts
        · simp (disch := omega) only [nw_id, ix_id, sb, if_true, if_false, if_pos, if_neg, true_and, and_true, false_and, and_false, and_self, true_or, or_true]
        · simp (disch := omega) only [nw_id, ix_id, sb, if_true, if_false, if_pos, if_neg, true_and, and_true, false_and, and_false, and_self]
      · have c' : okM g sd i sort t = false := by cases h : okM g sd i sort t with | false => rfl | true => exact absurd h c
        obtain ⟨r, g2, r1, e2, f2⟩ := ih ((t / 60 + 1) * 60) g1 (by omega) (by omega) (by omega) (J.cg (f1.cg rfl)) (R.fr f1 rfl) (by rw [stpM_fr f1 rfl, hsd])
        rw [okM_fr f1 rfl] at r1
        refine ⟨r, g2, foI_shift (by omega) (fun s a b => by rw [okM_hour h0 a b]; exact c') r1, ?_, f1.tr f2⟩
        rw [c']
        simp (disch := omega) only [nw_id, ix_id, sb, if_true, if_false, if_pos, if_neg, true_and, and_true, false_and, and_false, and_self, Bool.false_eq_true, e2]
theorem M_endOf_s {i : Nat} {sort lasts t : Int} {g : AG} (hi : i < 15) (hs : 0 ≤ sort ∧ sort ≤ 3) (hl : 0 ≤ lasts ∧ lasts ≤ 1000) (h0 : 0 ≤ t) (h1 : t ≤ 20160) (J : JRule g) (R : StR g) :
    ∃ g', M_endOf i sort t lasts g = some (fin (foT (okM g (stpM g) i sort) t) lasts, g') ∧ FR [(147, 0), (148, 0)] g g' := by
  obtain ⟨r, g', a, b, c⟩ := M_endOf_b_s (lasts := lasts) hi hs hl (20160 - t).toNat t g h0 h1 (by omega) J R rfl
  rw [foT_eq h0 h1 a] at b
  exact ⟨g', b, c⟩
/-! the class -/
theorem mxI_s {a b : Int} (h1 : -2147483648 ≤ a) (h2 : a < 2147483648) (h3 : -2147483648 ≤ b) (h4 : b < 2147483648) : mxI a b = max a b := by
  unfold mxI
  rw [nw_id h1 h2, nw_id h3 h4]
  split <;> omega
theorem mnI_s {a b : Int} (h1 : -2147483648 ≤ a) (h2 : a < 2147483648) (h3 : -2147483648 ≤ b) (h4 : b < 2147483648) : mnI a b = min a b := by
  unfold mnI
  rw [nw_id h1 h2, nw_id h3 h4]
  split <;> omega
/-- what the class knows of a stretch's days agrees with ok -/
def XDay (g : AG) (i : Nat) (kind : Int) (ok : Int → Bool) : Prop := ∀ d : Nat, d < 14 → ∃ (fh hb : Int) (st : Bool), Voyage_firstHour i kind d g = some fh ∧ Voyage_hourBehind i kind d g = some hb ∧ Voyage_isStopped i d g = some (if st = true then 1 else 0) ∧ (0 ≤ fh ∧ fh ≤ 24) ∧ (0 ≤ hb ∧ hb ≤ 24) ∧
  ∀ s : Int, (d : Int) * 1440 ≤ s → s < ((d : Int) + 1) * 1440 → (ok s = true ↔ st = false ∧ (8 ≤ s % 1440 / 60 ∧ s % 1440 / 60 ≤ 19) ∧ fh ≤ s % 1440 / 60 ∧ s % 1440 / 60 < hb)
theorem begins_b_s {i : Nat} {kind m : Int} {g : AG} {ok : Int → Bool} (hm : 0 ≤ m ∧ m < 20160) (D : XDay g i kind ok) : ∀ (n d : Nat), d + n = 14 → m < ((d : Int) + 1) * 1440 → ∃ r, foI ok (max m ((d : Int) * 1440)) r ∧ Voyage_begins_b i kind m g 1 d = some r := by
  intro n
  induction n with
  | zero =>
    intro d h hd
    refine ⟨-1, Or.inl ⟨rfl, fun s a b => by omega⟩, ?_⟩
    rw [Voyage_begins_b]
    simp (disch := omega) only [nw_id, ix_id, sb, if_true, if_false, if_pos, if_neg, true_and, and_true, false_and, and_false, and_self]
  | succ n ih =>
    intro d h hd
    obtain ⟨fh, hb, st, e1, e2, e3, r1, r2, hok⟩ := D d (by omega)
    have okf : ∀ s : Int, (d : Int) * 1440 ≤ s → s < ((d : Int) + 1) * 1440 → ¬ (st = false ∧ (8 ≤ s % 1440 / 60 ∧ s % 1440 / 60 ≤ 19) ∧ fh ≤ s % 1440 / 60 ∧ s % 1440 / 60 < hb) → ok s = false := by
      intro s a b c
      cases q : ok s with
      | false => rfl
      | true => exact absurd ((hok s a b).mp q) c
    have next : (∀ s, max m ((d : Int) * 1440) ≤ s → s < ((d : Int) + 1) * 1440 → ok s = false) → ∃ r, foI ok (max m ((d : Int) * 1440)) r ∧ Voyage_begins_b i kind m g 2 d = some r := by
      intro hno
      obtain ⟨r, a, b⟩ := ih (d + 1) (by omega) (by omega)
      refine ⟨r, foI_shift (t' := max m (((d + 1 : Nat) : Int) * 1440)) (by omega) (fun s q1 q2 => hno s q1 (by omega)) a, ?_⟩
      rw [Voyage_begins_b, if_neg (by decide), if_pos rfl, ← b]
      rfl
    have okt : ∀ s : Int, (d : Int) * 1440 ≤ s → s < ((d : Int) + 1) * 1440 → (st = false ∧ (8 ≤ s % 1440 / 60 ∧ s % 1440 / 60 ≤ 19) ∧ fh ≤ s % 1440 / 60 ∧ s % 1440 / 60 < hb) → ok s = true := fun s a b c => (hok s a b).mpr c
    rw [Voyage_begins_b]
    clear hok ih
    have x1 : mnI 20 hb = min 20 hb := mnI_s (by decide) (by decide) (by omega) (by omega)
    have x2 : mxI 8 fh = max 8 fh := mxI_s (by decide) (by decide) (by omega) (by omega)
    have x3 : mxI m ((d : Int) * 1440 + (max 8 fh) * 60) = max m ((d : Int) * 1440 + (max 8 fh) * 60) := mxI_s (by omega) (by omega) (by omega) (by omega)
    simp (disch := omega) only [nw_id, ix_id, sb, if_true, if_false, if_pos, if_neg, true_and, and_true, false_and, and_false, and_self, e1, e2, e3, x1, x2, x3]
    by_cases c : (d : Int) * 1440 + (min 20 hb) * 60 ≤ max m ((d : Int) * 1440 + (max 8 fh) * 60)
    · rw [if_pos c]
      refine next (fun s a b => okf s (by omega) b (fun q => ?_))
      omega
    · rw [if_neg c]
      cases st with
      | true =>
        simp (disch := omega) only [nw_id, ix_id, sb, if_true, if_false, if_pos, if_neg, true_and, and_true, false_and, and_false, and_self]
        exact next (fun s a b => okf s (by omega) b (fun q => by cases q.1))
      | false =>
        simp (disch := omega) only [nw_id, ix_id, sb, if_true, if_false, if_pos, if_neg, true_and, and_true, false_and, and_false, and_self, Bool.false_eq_true]
        refine ⟨_, Or.inr ⟨by omega, by omega, okt _ (by omega) (by omega) ⟨rfl, by omega, by omega, by omega⟩, fun s a b => okf s (by omega) (by omega) (fun q => by omega)⟩, rfl⟩

theorem begins_s {i : Nat} {kind m : Int} {g : AG} {ok : Int → Bool} (hm : m = -1 ∨ (0 ≤ m ∧ m < 20160)) (D : XDay g i kind ok) : Voyage_begins i kind m g = some (foT ok m) := by
  unfold Voyage_begins
  rcases hm with rfl | hm
  · rw [nw_m1]; rfl
  · obtain ⟨r, a, b⟩ := begins_b_s hm D (14 - (m / 1440).toNat) (m / 1440).toNat (by omega) (by omega)
    rw [show max m (((m / 1440).toNat : Int) * 1440) = m by omega] at a
    rw [← foT_eq hm.1 (by omega) a]
    rw [show (((m / 1440).toNat : Nat) : Int) = m / 1440 by omega] at b
    simp (disch := omega) only [nw_id, ix_id, sb, if_true, if_false, if_pos, if_neg, true_and, and_true, false_and, and_false, and_self, tdE, b]
def RStop : Reg := [(1, 5), (117, 12), (16, 0), (121, 0), (122, 0), (123, 0)]
def JStop (g : AG) : Prop := g 117 11 = g 1 4 ∧ StR g ∧ ∀ i d : Nat, i < 15 → d < 14 → tb (g 16 i) d = stpM g i d
theorem JStop.cg {g g' : AG} (h : ∀ k i, inR RStop k i = true → g' k i = g k i) (q : JStop g) : JStop g' := by
  have q1 : JStop (rs (inR RStop) g) := q
  rw [← rs_eq h] at q1
  exact q1
def sdX (g : AG) : Int → Int → Bool := if g 5 7 = 1 then stpM g else fun _ _ => false
theorem Voyage_isStopped_s {i d : Nat} {g : AG} (hi : i < 15) (hd : d < 14) (S : JStop g) (h5 : g 5 7 = 0 ∨ g 5 7 = 1) : Voyage_isStopped i d g = some (if sdX g i d = true then 1 else 0) := by
  have S3 := S.2.2 i d hi hd
  have bq := bit_q (g 16 i) d (by omega)
  have ei : ix (i : Int) = i := by rw [ix_id (by omega) (by omega), Int.toNat_natCast]
  have hi2 : 0 ≤ nw (i : Int) ∧ nw (i : Int) < 15 := by clear bq; rw [nw_id (by omega) (by omega)]; omega
  unfold Voyage_isStopped sdX
  rcases h5 with e | e
  · rw [e, nw_0]
    rfl
  · rw [e, nw_1, if_neg (by decide), if_pos hi2, if_pos rfl, ei, sb, sb, bq, S3]
    cases stpM g i d with
    | true => rfl
    | false => rfl
theorem XDay_of {i : Nat} {kind : Int} {g : AG} (hi : i < 15) (hk : 0 ≤ kind ∧ kind ≤ 3) (J : JRule g) (H : JHour g) (S : JStop g) (h5 : g 5 7 = 0 ∨ g 5 7 = 1) : XDay g i kind (okM g (sdX g) i kind) := by
  intro d hd
  have eS := Voyage_isStopped_s hi hd S h5
  have ed : ∀ s : Int, (d : Int) * 1440 ≤ s → s < ((d : Int) + 1) * 1440 → s / 1440 = d := by intro s a b; omega
  by_cases k0 : kind = 0
  · subst k0
    refine ⟨0, 24, sdX g i d, ?_, ?_, eS, by decide, by decide, ?_⟩
    · unfold Voyage_firstHour; simp (disch := omega) only [nw_id, ix_id, sb, if_true, if_false, if_pos, if_neg, true_and, and_true, false_and, and_false, and_self]
    · unfold Voyage_hourBehind; simp (disch := omega) only [nw_id, ix_id, sb, if_true, if_false, if_pos, if_neg, true_and, and_true, false_and, and_false, and_self]
    · intro s a b
      unfold okM okS
      rw [ed s a b]
      generalize sdX g (i : Int) (d : Int) = q
      cases q <;> simp <;> (try omega)
  · by_cases k1 : kind = 1
    · subst k1
      have hr := hr_rng J (g 117 10) d
      have Hd := H d hd
      refine ⟨g 44 d, g 45 d, sdX g i d, ?_, ?_, eS, by omega, by omega, ?_⟩
      · unfold Voyage_firstHour; clear hr Hd; simp (disch := omega) only [nw_id, ix_id, sb, if_true, if_false, if_pos, if_neg, true_and, and_true, false_and, and_false, and_self, Int.toNat_natCast]
      · unfold Voyage_hourBehind; clear hr Hd; simp (disch := omega) only [nw_id, ix_id, sb, if_true, if_false, if_pos, if_neg, true_and, and_true, false_and, and_false, and_self, Int.toNat_natCast]
      · intro s a b
        unfold okM okS
        rw [ed s a b, Hd.1, Hd.2]
        generalize sdX g (i : Int) (d : Int) = q
        cases q <;> simp <;> (try omega)
    · have tn := J.2.2.2.2.2.2.2 i hi
      have gen : ∀ (w row : Nat) (h a b : Int), w < 2 → kind = (w : Int) + 2 → tnOk h a b (g 25 row) (g 26 row) (tb (g 2 10) row) → g 144 (2 * i + w) = h → g 142 (2 * (2 * i + w)) = a → g 142 (2 * (2 * i + w) + 1) = b → Voyage_firstHour i kind d g = some (g 25 row) → Voyage_hourBehind i kind d g = some (g 26 row) → ∃ (fh hb : Int) (st : Bool), Voyage_firstHour i kind d g = some fh ∧ Voyage_hourBehind i kind d g = some hb ∧ Voyage_isStopped i d g = some (if st = true then 1 else 0) ∧ (0 ≤ fh ∧ fh ≤ 24) ∧ (0 ≤ hb ∧ hb ≤ 24) ∧
  ∀ s : Int, (d : Int) * 1440 ≤ s → s < ((d : Int) + 1) * 1440 → (okM g (sdX g) i kind s = true ↔ st = false ∧ (8 ≤ s % 1440 / 60 ∧ s % 1440 / 60 ≤ 19) ∧ fh ≤ s % 1440 / 60 ∧ s % 1440 / 60 < hb) := by
        intro w row h a b hw hk2 ht e1 e2 e3 e4 e5
        obtain ⟨q1, q2, q3, q4, q5⟩ := ht
        refine ⟨_, _, sdX g i d, e4, e5, eS, q4, q5, ?_⟩
        intro s a1 b1
        unfold okM okS
        rw [ed s a1 b1, if_neg k0, if_neg k1, hk2, show ((w : Int) + 2 - 2).toNat = w by omega, e1, e2, e3]
        cases hq : tb (g 2 10) row with
        | true =>
          rw [hq] at q1 q2
          obtain ⟨p1, p2⟩ := q2 rfl
          simp at q1
          rw [q1, p1, p2]
          generalize sdX g (i : Int) (d : Int) = q
          cases q <;> simp <;> (try omega)
        | false =>
          rw [hq] at q1 q3
          obtain ⟨p1, p2⟩ := q3 rfl
          simp at q1
          rw [q1, p1, p2]
          generalize sdX g (i : Int) (d : Int) = q
          cases q <;> simp <;> (try omega)
      by_cases k2 : kind = 2
      · subst k2
        refine gen 0 i _ _ _ (by decide) (by decide) tn.1 rfl rfl rfl ?_ ?_
        · unfold Voyage_firstHour; clear gen tn; simp (disch := omega) only [nw_id, ix_id, sb, if_true, if_false, if_pos, if_neg, true_and, and_true, false_and, and_false, and_self, Int.toNat_natCast]
        · unfold Voyage_hourBehind; clear gen tn; simp (disch := omega) only [nw_id, ix_id, sb, if_true, if_false, if_pos, if_neg, true_and, and_true, false_and, and_false, and_self, Int.toNat_natCast]
      · have k3 : kind = 3 := by omega
        subst k3
        refine gen 1 (15 + i) _ _ _ (by decide) (by decide) tn.2 rfl rfl rfl ?_ ?_
        · unfold Voyage_firstHour; clear gen tn; simp (disch := omega) only [nw_id, ix_id, sb, if_true, if_false, if_pos, if_neg, true_and, and_true, false_and, and_false, and_self, show (15 + (i : Int)).toNat = 15 + i by omega]
        · unfold Voyage_hourBehind; clear gen tn; simp (disch := omega) only [nw_id, ix_id, sb, if_true, if_false, if_pos, if_neg, true_and, and_true, false_and, and_false, and_self, show (15 + (i : Int)).toNat = 15 + i by omega]
/-- a step: when it ends -/
def stF (ok : TOK) (i : Nat) (sort t lasts : Int) : Int := fin (foT (ok i sort) t) lasts
theorem stF_rng {ok : TOK} {i : Nat} {sort t lasts : Int} (ht : t ≤ 20160) (hl : 0 ≤ lasts) : stF ok i sort t lasts = -1 ∨ (t ≤ stF ok i sort t lasts ∧ 0 ≤ stF ok i sort t lasts ∧ stF ok i sort t lasts ≤ 20159 ∧ 0 ≤ stF ok i sort t lasts - lasts ∧ stF ok i sort t lasts - lasts < 20160) := by
  unfold stF fin
  rcases foT_rng (ok := ok i sort) ht with h | h
  · rw [h]; exact Or.inl (if_pos (Or.inl rfl))
  · by_cases e : foT (ok i sort) t = -1 ∨ 20159 < foT (ok i sort) t + lasts
    · rw [if_pos e]; exact Or.inl rfl
    · rw [if_neg e]; right; omega
theorem stF_m1 {ok : TOK} {i : Nat} {sort lasts : Int} : stF ok i sort (-1) lasts = -1 := by
  unfold stF foT fin
  rfl
theorem X_step_s {i : Nat} {kind m lasts : Int} {g : AG} {ok : TOK} (hk : 0 ≤ kind ∧ kind ≤ 3) (hm : m = -1 ∨ (0 ≤ m ∧ m < 20160)) (hl : 0 ≤ lasts ∧ lasts ≤ 1000) (D : XDay g i kind (ok i kind)) :
    Voyage_step i kind m lasts g = some (stF ok i kind m lasts, if kind = 1 ∧ ¬ stF ok i kind m lasts = -1 then up g 47 ((stF ok i kind m lasts - lasts) / 1440).toNat (g 47 ((stF ok i kind m lasts - lasts) / 1440).toNat + 1) else g) := by
  unfold Voyage_step
  rw [begins_s hm D, sb]
  have r := foT_rng (ok := ok i kind) (t := m) (by omega)
  unfold stF fin
  generalize foT (ok i kind) m = b at r ⊢
  by_cases e : b = -1
  · subst e
    clear r
    simp (disch := omega) only [nw_id, ix_id, sb, if_true, if_false, if_pos, if_neg, true_and, and_true, false_and, and_false, and_self, true_or, not_true]
  · have r2 : 0 ≤ b ∧ b < 20160 := by omega
    clear r
    by_cases e2 : 20159 < b + lasts
    · simp (disch := omega) only [nw_id, ix_id, sb, if_true, if_false, if_pos, if_neg, true_and, and_true, false_and, and_false, and_self, or_true, not_true]
    · have e3 : ¬ (b = -1 ∨ 20159 < b + lasts) := by omega
      have e4 : ¬ b + lasts = -1 := by omega
      rw [if_neg e3]
      by_cases k1 : kind = 1
      · simp (disch := omega) only [nw_id, ix_id, sb, if_true, if_false, if_pos, if_neg, true_and, and_true, false_and, and_false, and_self, tdE, show b + lasts - lasts = b by omega, not_false_eq_true]
      · simp (disch := omega) only [nw_id, ix_id, sb, if_true, if_false, if_pos, if_neg, true_and, and_true, false_and, and_false, and_self]
