/-! plain programs: the reference goes along the canal -/
abbrev WM : Reg := [(147, 0), (148, 0), (117, 49)]
def laF (ta : Int) : Int := 15 + (60 - ta) / 6
def MI (g : AG) (b : Nat) (ok : TOK) (tu : Nat → Bool) (mi lk : Nat → Int) (W : Int → Int) (ta : Int) : Prop := JRule g ∧ StR g ∧ okM g (stpM g) = ok ∧ tuM g = tu ∧ g 118 = mi ∧ g 119 = lk ∧ hwF g b = W ∧ g 127 b = ta ∧ (0 ≤ ta ∧ ta ≤ 60) ∧ b < 10 ∧ (∀ i : Nat, i < 15 → (0 ≤ mi i ∧ mi i ≤ 9) ∧ (0 ≤ lk i ∧ lk i ≤ 9)) ∧ (g 117 47 = 0 ∨ g 117 47 = 1)
theorem MI.fr {g g' : AG} {b : Nat} {ok : TOK} {tu : Nat → Bool} {mi lk : Nat → Int} {W : Int → Int} {ta : Int} (h : MI g b ok tu mi lk W ta) (f : FR WM g g') : MI g' b ok tu mi lk W ta := by
  obtain ⟨h1, h2, h3, h4, h5, h6, h7, h8, h9, h10, h11, h12⟩ := h
  refine ⟨h1.cg (f.cg rfl), h2.fr f rfl, ?_, ?_, ?_, ?_, ?_, ?_, h9, h10, h11, ?_⟩
  · rw [stpM_fr f rfl, okM_fr f rfl]; exact h3
  · have c : g' 144 = g 144 := f.cell (fun _ => rfl)
    rw [← h4]; unfold tuM; rw [c]
  · rw [f.cell (k := 118) (fun _ => rfl)]; exact h5
  · rw [f.cell (k := 119) (fun _ => rfl)]; exact h6
  · rw [hwF_fr f rfl]; exact h7
  · rw [f 127 b rfl]; exact h8
  · rw [f 117 47 rfl]; exact h12
def HR (W : Int → Int) (g g' : AG) (ds ds' : List Int) : Prop := (g 117 47 = 0 → g' 117 48 = g 117 48) ∧ (g 117 47 = 1 → g' 117 48 + wsF W ds = g 117 48 + wsF W ds')
theorem HR.rf {W : Int → Int} {g : AG} {ds : List Int} : HR W g g ds ds := ⟨fun _ => rfl, fun _ => rfl⟩
theorem HR.tr {W : Int → Int} {g g1 g2 : AG} {d1 d2 d3 : List Int} (f : FR WM g g1) (h1 : HR W g g1 d1 d2) (h2 : HR W g1 g2 d2 d3) : HR W g g2 d1 d3 := by
  have e := f 117 47 rfl
  refine ⟨fun q => ?_, fun q => ?_⟩
  · rw [h2.1 (by rw [e]; exact q), h1.1 q]
  · have a := h1.2 q
    have b := h2.2 (by rw [e]; exact q)
    omega
theorem HR.same {W : Int → Int} {g g1 : AG} {ds : List Int} (h : g1 117 48 = g 117 48) : HR W g g1 ds ds := ⟨fun _ => h, fun _ => by rw [h]⟩
section LEDM
variable {b : Nat} {ok : TOK} {tu : Nat → Bool} {mi lk : Nat → Int} {W : Int → Int} {ta : Int}
theorem M_lk_s {i : Nat} (hi : i < 15) {u : Int} : ∀ (n k : Nat) (t : Int) (ds : List Int) (g : AG), MI g b ok tu mi lk W ta → TmOk t → ((k + n : Nat) : Int) = lk i → ∃ g', M_through_b b i u 4 t (laF ta) k g = some ((lkF ok i (laF ta) n (t, ds)).1, g') ∧ FR WM g g' ∧ HR W g g' ds (lkF ok i (laF ta) n (t, ds)).2 := by
  intro n
  induction n with
  | zero =>
    intro k t ds g M ht h
    obtain ⟨h1, h2, h3, h4, h5, h6, h7, h8, h9, h10, h11, h12⟩ := M
    have r := h11 i hi
    refine ⟨g, ?_, Fr.rf, HR.rf⟩
    rw [M_through_b, h6]
    simp (disch := omega) only [nw_id, ix_id, sb, if_true, if_false, if_pos, if_neg, true_and, and_true, false_and, and_false, and_self, Int.toNat_natCast]
    rfl
  | succ n ih =>
    intro k t ds g M ht h
    have M0 := M
    obtain ⟨h1, h2, h3, h4, h5, h6, h7, h8, h9, h10, h11, h12⟩ := M
    have r := h11 i hi
    have la : 15 ≤ laF ta ∧ laF ta ≤ 25 := by unfold laF; omega
    rw [M_through_b, h6]
    by_cases et : t = -1
    · subst et
      rw [lkF_m1]
      refine ⟨g, ?_, Fr.rf, HR.rf⟩
      simp (disch := omega) only [nw_id, ix_id, sb, if_true, if_false, if_pos, if_neg, true_and, and_true, false_and, and_false, and_self, Int.toNat_natCast]
    · have ht2 : 0 ≤ t ∧ t ≤ 20159 := by unfold TmOk at ht; omega
      obtain ⟨g1, e1, f1⟩ := M_endOf_s (g := g) (i := i) (sort := 1) (lasts := laF ta) (t := t) hi (by decide) (by omega) ht2.1 (by omega) h1 h2
      rw [h3] at e1
      have e1' : M_endOf i 1 t (laF ta) g = some (stF ok i 1 t (laF ta), g1) := e1
      have rg := stF_rng (ok := ok) (i := i) (sort := 1) (t := t) (lasts := laF ta) (by omega) (by omega)
      have f1' : FR WM g g1 := f1.mo rfl
      unfold lkF
      dsimp only
      generalize stF ok i 1 t (laF ta) = v at e1' rg ⊢
      rw [show ((i : Nat) : Int) = (i : Int) from rfl] at e1'
      have c48 : g1 117 48 = g 117 48 := f1 117 48 rfl
      have c47 : g1 117 47 = g 117 47 := f1 117 47 rfl
      have M1 := M0.fr f1'
      by_cases ev : v = -1
      · subst ev
        obtain ⟨g2, e2, f2, q2⟩ := ih (k + 1) (-1) ds g1 M1 (Or.inl rfl) (by omega)
        rw [show ((k + 1 : Nat) : Int) = (k : Int) + 1 from rfl] at e2
        refine ⟨g2, ?_, f1'.tr f2, ?_⟩
        · clear rg
          simp (disch := omega) only [nw_id, ix_id, sb, if_true, if_false, if_pos, if_neg, true_and, and_true, false_and, and_false, and_self, Int.toNat_natCast, e1', ite_self]
          exact e2
        · rw [if_pos rfl]
          exact HR.tr f1' (HR.same c48) q2
      · have rg2 : 0 ≤ v ∧ v ≤ 20159 ∧ 0 ≤ v - laF ta ∧ v - laF ta < 20160 := by omega
        clear rg
        obtain ⟨g2, e2, f2⟩ := M_harmOf_s (g := g1) (b := b) (d := (v - laF ta) / 1440) h10 (by omega) M1.1
        have W1 : hwF g1 b = W := M1.2.2.2.2.2.2.1
        rw [W1] at e2
        rcases h12 with z | z
        · obtain ⟨g3, e3, f3, q3⟩ := ih (k + 1) v ((v - laF ta) / 1440 :: ds) g1 M1 (Or.inr ⟨rg2.1, rg2.2.1⟩) (by omega)
          rw [show ((k + 1 : Nat) : Int) = (k : Int) + 1 from rfl] at e3
          refine ⟨g3, ?_, f1'.tr f3, ?_⟩
          · simp (disch := omega) only [nw_id, ix_id, sb, if_true, if_false, if_pos, if_neg, true_and, and_true, false_and, and_false, and_self, Int.toNat_natCast, e1', c47, z]
            exact e3
          · rw [if_neg ev]
            refine ⟨fun _ => ?_, fun q => by omega⟩
            rw [q3.1 (by rw [c47]; exact z), c48]
        · have f2' : FR WM g1 (up g2 117 48 (g1 117 48 + W ((v - laF ta) / 1440))) := Fr.up (f2.mo rfl) rfl
          obtain ⟨g3, e3, f3, q3⟩ := ih (k + 1) v ((v - laF ta) / 1440 :: ds) _ (M1.fr f2') (Or.inr ⟨rg2.1, rg2.2.1⟩) (by omega)
          rw [show ((k + 1 : Nat) : Int) = (k : Int) + 1 from rfl] at e3
          refine ⟨g3, ?_, f1'.tr (f2'.tr f3), ?_⟩
          · simp (disch := omega) only [nw_id, ix_id, sb, if_true, if_false, if_pos, if_neg, true_and, and_true, false_and, and_false, and_self, Int.toNat_natCast, e1', c47, z, tdE, e2]
            exact e3
          · rw [if_neg ev]
            refine ⟨fun q => by omega, fun _ => ?_⟩
            have q4 := q3.2 (by rw [f2' 117 47 rfl, c47]; exact z)
            simp only [up_at, and_self, if_true, wsF] at q4
            omega
theorem M_mi_s {i : Nat} (hi : i < 15) {u x6 : Int} : ∀ (n k : Nat) (t : Int) (g : AG), MI g b ok tu mi lk W ta → TmOk t → ((k + n : Nat) : Int) = mi i → ∃ g', M_through_b b i u 2 t k x6 g = M_through_b b i u 4 (miF ok i n t) (laF ta) 0 g' ∧ FR WM g g' ∧ g' 117 48 = g 117 48 := by
  have done : ∀ (t : Int) (k : Int) (g : AG), MI g b ok tu mi lk W ta → M_through_b b i u 3 t k x6 g = M_through_b b i u 4 t (laF ta) 0 g := by
    intro t k g M
    obtain ⟨h1, h2, h3, h4, h5, h6, h7, h8, h9, h10, h11, h12⟩ := M
    rw [M_through_b, if_neg (by decide), if_neg (by decide), if_pos rfl]
    have c1 : 0 ≤ nw (b : Int) ∧ nw (b : Int) < 10 := by rw [nw_id (by omega) (by omega)]; omega
    rw [if_pos c1, ix_id (by omega) (by omega), Int.toNat_natCast, h8, nw_id (by omega) (by omega), tdE (by omega)]
    unfold laF
    rfl
  intro n
  induction n with
  | zero =>
    intro k t g M ht h
    have M0 := M
    obtain ⟨h1, h2, h3, h4, h5, h6, h7, h8, h9, h10, h11, h12⟩ := M
    have r := h11 i hi
    refine ⟨g, ?_, Fr.rf, rfl⟩
    rw [M_through_b, h5]
    simp (disch := omega) only [nw_id, ix_id, sb, if_true, if_false, if_pos, if_neg, true_and, and_true, false_and, and_false, and_self, Int.toNat_natCast]
    exact done t k g M0
  | succ n ih =>
    intro k t g M ht h
    have M0 := M
    obtain ⟨h1, h2, h3, h4, h5, h6, h7, h8, h9, h10, h11, h12⟩ := M
    have r := h11 i hi
    rw [M_through_b, h5]
    by_cases et : t = -1
    · subst et
      rw [miF_m1]
      refine ⟨g, ?_, Fr.rf, rfl⟩
      simp (disch := omega) only [nw_id, ix_id, sb, if_true, if_false, if_pos, if_neg, true_and, and_true, false_and, and_false, and_self, Int.toNat_natCast]
      exact done (-1) k g M0
    · have ht2 : 0 ≤ t ∧ t ≤ 20159 := by unfold TmOk at ht; omega
      obtain ⟨g1, e1, f1⟩ := M_endOf_s (g := g) (i := i) (sort := 0) (lasts := 20) (t := t) hi (by decide) (by omega) ht2.1 (by omega) h1 h2
      rw [h3] at e1
      have e1' : M_endOf i 0 t 20 g = some (stF ok i 0 t 20, g1) := e1
      have f1' : FR WM g g1 := f1.mo rfl
      obtain ⟨g2, e2, f2, q2⟩ := ih (k + 1) (stF ok i 0 t 20) g1 (M0.fr f1') (stF_tm ht (by decide)) (by omega)
      rw [show ((k + 1 : Nat) : Int) = (k : Int) + 1 from rfl] at e2
      refine ⟨g2, ?_, f1'.tr f2, by rw [q2, f1 117 48 rfl]⟩
      simp (disch := omega) only [nw_id, ix_id, sb, if_true, if_false, if_pos, if_neg, true_and, and_true, false_and, and_false, and_self, Int.toNat_natCast, e1']
      exact e2
theorem M_through_s {i : Nat} (hi : i < 15) {u t : Int} (hu : u = 0 ∨ u = 1) (ds : List Int) {g : AG} (M : MI g b ok tu mi lk W ta) (ht : 0 ≤ t ∧ t ≤ 20159) : ∃ g', M_through b i u t g = some ((thF ok tu mi lk (laF ta) i (decide (u = 1)) (t, ds)).1, g') ∧ FR WM g g' ∧ HR W g g' ds (thF ok tu mi lk (laF ta) i (decide (u = 1)) (t, ds)).2 := by
  have M0 := M
  obtain ⟨h1, h2, h3, h4, h5, h6, h7, h8, h9, h10, h11, h12⟩ := M
  have r := h11 i hi
  have t0 := h1.tun (k := 2 * i) (by omega)
  have t1 := h1.tun (k := 2 * i + 1) (by omega)
  have tm : TmOk t := Or.inr ht
  have tu1 : tu i = decide (g 144 (2 * i) = 1 ∨ g 144 (2 * i + 1) = 1) := by rw [← h4]; rfl
  have n0 : (2 * (i : Int)).toNat = 2 * i := by omega
  have n1 : (2 * (i : Int) + 1).toNat = 2 * i + 1 := by omega
  -- the way with a tunnel
  have tun : tu i = true → ∃ g', M_through_b b i u 1 t 0 0 g = some ((thF ok tu mi lk (laF ta) i (decide (u = 1)) (t, ds)).1, g') ∧ FR WM g g' ∧ HR W g g' ds (thF ok tu mi lk (laF ta) i (decide (u = 1)) (t, ds)).2 := by
    intro htu
    unfold thF enF
    rw [if_pos htu]
    dsimp only
    rw [M_through_b, if_pos rfl]
    have c1 : 0 ≤ nw (i : Int) ∧ nw (i : Int) < 15 := by clear t0 t1; rw [nw_id (by omega) (by omega)]; omega
    have c2 : 0 ≤ nw (b : Int) ∧ nw (b : Int) < 10 := by clear t0 t1 c1; rw [nw_id (by omega) (by omega)]; omega
    have c3 : ix (i : Int) = i := by clear t0 t1 c1 c2; rw [ix_id (by omega) (by omega), Int.toNat_natCast]
    have c4 : ix (b : Int) = b := by clear t0 t1 c1 c2 c3; rw [ix_id (by omega) (by omega), Int.toNat_natCast]
    have c5 : nw (mi i) = mi i := nw_id (by clear t0 t1 c1 c2 c3 c4; omega) (by clear t0 t1 c1 c2 c3 c4; omega)
    have c6 : 15 + (nw (60 - ta)).tdiv 6 = laF ta := by unfold laF; clear t0 t1 c1 c2 c3 c4 c5; rw [nw_id (by omega) (by omega), tdE (by omega)]
    rw [if_pos c1, c3, h5, c5]
    by_cases m0 : mi i ≤ 0
    · rw [if_pos m0, sb]
      dsimp only
      rw [if_pos c2, c4, h8, c6]
      clear c1 c2 c3 c4 c5 c6 t0 t1
      rw [if_neg (show ¬ 0 < mi i by omega)]
      exact M_lk_s hi (lk i).toNat 0 t ds g M0 tm (by omega)
    · have hs : (if nw u = 0 then (3 : Int) else 2) = (if decide (u = 1) = true then 2 else 3) := by
        clear c1 c2 c3 c4 c5 c6 t0 t1
        rcases hu with e | e
        · subst e; rw [nw_0]; rfl
        · subst e; rw [nw_1]; rfl
      have sr : 0 ≤ (if decide (u = 1) = true then (2 : Int) else 3) ∧ (if decide (u = 1) = true then (2 : Int) else 3) ≤ 3 := by split <;> decide
      obtain ⟨g1, e1, f1⟩ := M_endOf_s (g := g) (i := i) (sort := if decide (u = 1) = true then 2 else 3) (lasts := 20 * mi i) (t := t) hi sr (by clear c1 c2 c3 c4 c5 c6 t0 t1; omega) ht.1 (by clear c1 c2 c3 c4 c5 c6 t0 t1; omega) h1 h2
      rw [h3] at e1
      have f1' : FR WM g g1 := f1.mo rfl
      have M1 := M0.fr f1'
      have tm2 : TmOk (stF ok i (if decide (u = 1) = true then 2 else 3) t (20 * mi i)) := stF_tm tm (by clear c1 c2 c3 c4 c5 c6 t0 t1; omega)
      obtain ⟨g2, e2, f2, q2⟩ := M_lk_s hi (u := u) (lk i).toNat 0 _ ds g1 M1 tm2 (by clear c1 c2 c3 c4 c5 c6 t0 t1; omega)
      refine ⟨g2, ?_, f1'.tr f2, ?_⟩
      · rw [if_neg m0, sb, hs, e1, sb, sb]
        dsimp only
        rw [if_pos c2, c4, f1 127 b rfl, h8, c6, if_pos (show 0 < mi i by clear c1 c2 c3 c4 c5 c6 t0 t1; omega)]
        exact e2
      · rw [if_pos (show 0 < mi i by clear c1 c2 c3 c4 c5 c6 t0 t1; omega)]
        exact HR.tr f1' (HR.same (f1 117 48 rfl)) q2
  unfold M_through
  rcases t0.1 with z0 | z0
  · rcases t1.1 with z1 | z1
    · have htu : ¬ tu i = true := by rw [tu1, z0, z1]; simp
      clear t0 t1 tun
      simp (disch := omega) only [nw_id, ix_id, sb, if_true, if_false, if_pos, if_neg, true_and, and_true, false_and, and_false, and_self, n0, n1, z0, z1]
      unfold thF enF
      rw [if_neg htu]
      dsimp only
      obtain ⟨g1, e1, f1, q1⟩ := M_mi_s hi (u := 0) (x6 := 0) (mi i).toNat 0 t g M0 tm (by omega)
      obtain ⟨g2, e2, f2, q2⟩ := M_lk_s hi (u := 0) (lk i).toNat 0 (miF ok i (mi i).toNat t) ds g1 (M0.fr f1) (miF_tm _ _ tm) (by omega)
      refine ⟨g2, ?_, f1.tr f2, HR.tr f1 (HR.same q1) q2⟩
      rw [← e2]
      exact e1
    · have htu : tu i = true := by rw [tu1, z0, z1]; simp
      clear t0 t1
      have tun := tun htu
      simp (disch := omega) only [nw_id, ix_id, sb, if_true, if_false, if_pos, if_neg, true_and, and_true, false_and, and_false, and_self, n0, n1, z0, z1]
      exact tun
  · have htu : tu i = true := by rw [tu1, z0]; simp
    clear t0 t1
    have tun := tun htu
    simp (disch := omega) only [nw_id, ix_id, sb, if_true, if_false, if_pos, if_neg, true_and, and_true, false_and, and_false, and_self, n0, n1, z0]
    exact tun
theorem M_dn_s {x2 : Int} {c : Nat} : ∀ (n a : Nat) (t : Int) (ds : List Int) (g : AG), MI g b ok tu mi lk W ta → TmOk t → n = a - c → a ≤ 15 → c ≤ 15 → ∃ g', M_led_b b x2 c 3 t a g = some ((dnF ok tu mi lk (laF ta) n a (t, ds)).1, g') ∧ FR WM g g' ∧ HR W g g' ds (dnF ok tu mi lk (laF ta) n a (t, ds)).2 := by
  intro n
  induction n with
  | zero =>
    intro a t ds g M ht hn ha hc
    refine ⟨g, ?_, Fr.rf, HR.rf⟩
    rw [M_led_b]
    simp (disch := omega) only [nw_id, ix_id, sb, if_true, if_false, if_pos, if_neg, true_and, and_true, false_and, and_false, and_self]
    rfl
  | succ n ih =>
    intro a t ds g M ht hn ha hc
    rw [M_led_b]
    by_cases et : t = -1
    · subst et
      rw [dnF_m1]
      refine ⟨g, ?_, Fr.rf, HR.rf⟩
      simp (disch := omega) only [nw_id, ix_id, sb, if_true, if_false, if_pos, if_neg, true_and, and_true, false_and, and_false, and_self]
    · have ht2 : 0 ≤ t ∧ t ≤ 20159 := by unfold TmOk at ht; omega
      have M0 := M
      obtain ⟨h1, h2, h3, h4, h5, h6, h7, h8, h9, h10, h11, h12⟩ := M
      obtain ⟨g1, e1, f1, q1⟩ := M_through_s (i := a - 1) (by omega) (u := 0) (Or.inl rfl) ds M0 ht2
      have q := thF_ok (ok := ok) (tu := tu) (mi := mi) (lk := lk) (lasts := laF ta) (i := a - 1) (up := false) (p := (t, [])) (by unfold laF; omega) (h11 (a - 1) (by omega)).1.1 (h11 (a - 1) (by omega)).2 ht (by intro d hd; cases hd)
      have hfst : ∀ d1 d2 : List Int, (thF ok tu mi lk (laF ta) (a - 1) false (t, d1)).1 = (thF ok tu mi lk (laF ta) (a - 1) false (t, d2)).1 := by
        intro d1 d2
        unfold thF
        have key : ∀ (m : Nat) (x : Int) (d1 d2 : List Int), (lkF ok (a - 1) (laF ta) m (x, d1)).1 = (lkF ok (a - 1) (laF ta) m (x, d2)).1 := by
          intro m
          induction m with
          | zero => intro x d1 d2; rfl
          | succ m ihm =>
            intro x d1 d2
            unfold lkF
            dsimp only
            split
            · exact ihm _ _ _
            · exact ihm _ _ _
        exact key _ _ _ _
      have tm2 : TmOk (thF ok tu mi lk (laF ta) (a - 1) false (t, ds)).1 := by rw [hfst ds []]; exact q.1
      obtain ⟨g2, e2, f2, q2⟩ := ih (a - 1) (thF ok tu mi lk (laF ta) (a - 1) false (t, ds)).1 (thF ok tu mi lk (laF ta) (a - 1) false (t, ds)).2 g1 (M0.fr f1) tm2 (by omega) (by omega) hc
      have na : ((a - 1 : Nat) : Int) = (a : Int) - 1 := by omega
      have na2 : ((a - 1 : Nat) : Int) = (a : Int) + -1 := by omega
      rw [na] at e1
      rw [na2] at e2
      refine ⟨g2, ?_, f1.tr f2, HR.tr f1 q1 q2⟩
      simp (disch := omega) only [nw_id, ix_id, sb, if_true, if_false, if_pos, if_neg, true_and, and_true, false_and, and_false, and_self]
      rw [e1, sb]
      exact e2
theorem M_up_s {x2 c : Nat} (hx : x2 ≤ 15) : ∀ (n a : Nat) (t : Int) (ds : List Int) (g : AG), MI g b ok tu mi lk W ta → TmOk t → n = c - a → a ≤ 15 → c ≤ 15 → ∃ g', M_led_b b x2 c 1 t a g = some ((dnF ok tu mi lk (laF ta) (x2 - c) x2 (upF ok tu mi lk (laF ta) n a (t, ds))).1, g') ∧ FR WM g g' ∧ HR W g g' ds (dnF ok tu mi lk (laF ta) (x2 - c) x2 (upF ok tu mi lk (laF ta) n a (t, ds))).2 := by
  have exit : ∀ (a : Int) (t : Int) (ds : List Int) (g : AG), MI g b ok tu mi lk W ta → TmOk t → c ≤ 15 → ∃ g', M_led_b b x2 c 2 t a g = some ((dnF ok tu mi lk (laF ta) (x2 - c) x2 (t, ds)).1, g') ∧ FR WM g g' ∧ HR W g g' ds (dnF ok tu mi lk (laF ta) (x2 - c) x2 (t, ds)).2 := by
    intro a t ds g M ht hc
    rw [M_led_b, if_neg (by decide), if_pos rfl]
    exact M_dn_s (x2 := x2) (c := c) (x2 - c) x2 t ds g M ht rfl hx hc
  intro n
  induction n with
  | zero =>
    intro a t ds g M ht hn ha hc
    rw [M_led_b]
    simp (disch := omega) only [nw_id, ix_id, sb, if_true, if_false, if_pos, if_neg, true_and, and_true, false_and, and_false, and_self]
    exact exit a t ds g M ht hc
  | succ n ih =>
    intro a t ds g M ht hn ha hc
    rw [M_led_b]
    by_cases et : t = -1
    · subst et
      rw [upF_m1]
      simp (disch := omega) only [nw_id, ix_id, sb, if_true, if_false, if_pos, if_neg, true_and, and_true, false_and, and_false, and_self]
      exact exit a (-1) ds g M ht hc
    · have ht2 : 0 ≤ t ∧ t ≤ 20159 := by unfold TmOk at ht; omega
      have M0 := M
      obtain ⟨h1, h2, h3, h4, h5, h6, h7, h8, h9, h10, h11, h12⟩ := M
      obtain ⟨g1, e1, f1, q1⟩ := M_through_s (i := a) (by omega) (u := 1) (Or.inr rfl) ds M0 ht2
      have q := thF_ok (ok := ok) (tu := tu) (mi := mi) (lk := lk) (lasts := laF ta) (i := a) (up := true) (p := (t, [])) (by unfold laF; omega) (h11 a (by omega)).1.1 (h11 a (by omega)).2 ht (by intro d hd; cases hd)
      have hfst : ∀ d1 d2 : List Int, (thF ok tu mi lk (laF ta) a true (t, d1)).1 = (thF ok tu mi lk (laF ta) a true (t, d2)).1 := by
        intro d1 d2
        unfold thF
        have key : ∀ (m : Nat) (x : Int) (d1 d2 : List Int), (lkF ok a (laF ta) m (x, d1)).1 = (lkF ok a (laF ta) m (x, d2)).1 := by
          intro m
          induction m with
          | zero => intro x d1 d2; rfl
          | succ m ihm =>
            intro x d1 d2
            unfold lkF
            dsimp only
            split
            · exact ihm _ _ _
            · exact ihm _ _ _
        exact key _ _ _ _
      have tm2 : TmOk (thF ok tu mi lk (laF ta) a true (t, ds)).1 := by rw [hfst ds []]; exact q.1
      obtain ⟨g2, e2, f2, q2⟩ := ih (a + 1) (thF ok tu mi lk (laF ta) a true (t, ds)).1 (thF ok tu mi lk (laF ta) a true (t, ds)).2 g1 (M0.fr f1) tm2 (by omega) (by omega) hc
      rw [show ((a + 1 : Nat) : Int) = (a : Int) + 1 from rfl] at e2
      refine ⟨g2, ?_, f1.tr f2, HR.tr f1 q1 q2⟩
      simp (disch := omega) only [nw_id, ix_id, sb, if_true, if_false, if_pos, if_neg, true_and, and_true, false_and, and_false, and_self]
      rw [e1, sb]
      exact e2
theorem M_led_s {a c : Nat} (ha : a ≤ 15) (hc : c ≤ 15) {t : Int} (ht : TmOk t) (ds : List Int) {g : AG} (M : MI g b ok tu mi lk W ta) : ∃ g', M_led b a c t g = some ((ledF ok tu mi lk (laF ta) a c (t, ds)).1, g') ∧ FR WM g g' ∧ HR W g g' ds (ledF ok tu mi lk (laF ta) a c (t, ds)).2 := by
  unfold M_led ledF
  exact M_up_s ha (c - a) a t ds g M ht rfl ha hc
end LEDM
