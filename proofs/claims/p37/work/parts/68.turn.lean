/-! plain programs: turning round, as worked -/
def frL (e : Nat → Int) : Nat → Nat
  | 0 => 0
  | h + 1 => if e (frL e h) ≤ e (h + 1) then frL e h else h + 1
def leF (e : Nat → Int) : Nat → Int
  | 0 => 600
  | h + 1 => max (leF e h) (e h)
def wS (H : Nat) (mi : Nat → Int) : Nat → (Nat → Int) × Int
  | 0 => (fun _ => 600, 0)
  | j + 1 => (fun h => if h = frL (wS H mi j).1 (H - 1) then (wS H mi j).1 h + mi j else (wS H mi j).1 h, (wS H mi j).2 + (if (wS H mi j).1 (frL (wS H mi j).1 (H - 1)) + mi j ≤ 900 then 0 else 1))
theorem frL_le (e : Nat → Int) : ∀ h : Nat, frL e h ≤ h
  | 0 => Nat.le_refl 0
  | h + 1 => by
    have := frL_le e h
    unfold frL
    split <;> omega
theorem frL_cg {e e' : Nat → Int} : ∀ h : Nat, (∀ x, x ≤ h → e x = e' x) → frL e h = frL e' h
  | 0, _ => rfl
  | h + 1, q => by
    have := frL_cg (e := e) (e' := e') h (fun x hx => q x (by omega))
    have l := frL_le e' h
    unfold frL
    rw [this, q _ (by omega), q (h + 1) (by omega)]
theorem leF_cg {e e' : Nat → Int} : ∀ h : Nat, (∀ x, x < h → e x = e' x) → leF e h = leF e' h
  | 0, _ => rfl
  | h + 1, q => by
    unfold leF
    rw [leF_cg (e := e) (e' := e') h (fun x hx => q x (by omega)), q h (by omega)]
theorem leF_rng {e : Nat → Int} {B : Int} (hB : 600 ≤ B) : ∀ h : Nat, (∀ x, x < h → e x ≤ B) → 600 ≤ leF e h ∧ leF e h ≤ B
  | 0, _ => by unfold leF; omega
  | h + 1, q => by
    have := leF_rng (e := e) hB h (fun x hx => q x (by omega))
    have := q h (by omega)
    unfold leF
    omega
theorem leF_up {e : Nat → Int} {d : Int} {f : Nat} (hd : 0 ≤ d) : ∀ h : Nat, f < h → leF (fun x => if x = f then e x + d else e x) h = max (leF e h) (e f + d)
  | 0, q => by omega
  | h + 1, q => by
    unfold leF
    by_cases z : f = h
    · subst z
      rw [leF_cg (e := fun x => if x = f then e x + d else e x) (e' := e) f (fun x hx => if_neg (by omega))]
      rw [if_pos rfl]
      omega
    · rw [leF_up hd h (by omega)]
      rw [if_neg (by omega)]
      omega
def JbOk (mi : Nat → Int) (J : Nat) : Prop := J ≤ 8 ∧ ∀ j, j < J → 1 ≤ mi j ∧ mi j ≤ 300
theorem wS_rng {H J : Nat} {mi : Nat → Int} (K : JbOk mi J) : ∀ j : Nat, j ≤ J → (∀ h, 600 ≤ (wS H mi j).1 h ∧ (wS H mi j).1 h ≤ 600 + 300 * j) ∧ 0 ≤ (wS H mi j).2 ∧ (wS H mi j).2 ≤ j
  | 0, _ => by unfold wS; exact ⟨fun h => by dsimp only; omega, by dsimp only; omega, by dsimp only; omega⟩
  | j + 1, q => by
    have r := wS_rng (H := H) K j (by omega)
    have m := K.2 j (by omega)
    unfold wS
    dsimp only
    refine ⟨fun h => ?_, ?_, ?_⟩
    · have := r.1 h
      split <;> omega
    · have := r.2
      split <;> omega
    · have := r.2
      split <;> omega
def XJ (g : AG) (mi : Nat → Int) (J : Nat) : Prop := g 10 7 = J ∧ ∀ j, j < J → g 103 j = mi j
theorem X_work2_s {H J j : Nat} {mi : Nat → Int} {g : AG} {e : Nat → Int} (hH : 1 ≤ H ∧ H ≤ 3) (he : ∀ h, h < 3 → g 104 h = e h ∧ 0 ≤ e h ∧ e h ≤ 10000) : ∀ (n k : Nat), k + n = H - 1 → Yard_workInOrder_b H 2 j (frL e k : Nat) ((k : Int) + 1) g = Yard_workInOrder_b H 2 j (frL e (H - 1) : Nat) H g := by
  intro n
  induction n with
  | zero =>
    intro k h
    rw [show k = H - 1 by (try clear n0); (try clear n1); (try clear n2); (try clear n3); (try clear n4); (try clear n5); (try clear n6); omega, show ((H - 1 : Nat) : Int) + 1 = H by (try clear n0); (try clear n1); (try clear n2); (try clear n3); (try clear n4); (try clear n5); (try clear n6); omega]
  | succ n ih =>
    intro k h
    have l := frL_le e k
    have a := he (frL e k) (by (try clear n0); (try clear n1); (try clear n2); (try clear n3); (try clear n4); (try clear n5); (try clear n6); omega)
    have b := he (k + 1) (by (try clear n0); (try clear n1); (try clear n2); (try clear n3); (try clear n4); (try clear n5); (try clear n6); omega)
    have e2 := ih (k + 1) (by (try clear n0); (try clear n1); (try clear n2); (try clear n3); (try clear n4); (try clear n5); (try clear n6); omega)
    have n0 : nw (H : Int) = H := nwN _ (by (try clear n0); (try clear n1); (try clear n2); (try clear n3); (try clear n4); (try clear n5); (try clear n6); omega)
    have n1 : nw ((k : Int) + 1) = (k + 1 : Nat) := nwN (k + 1) (by (try clear n0); (try clear n1); (try clear n2); (try clear n3); (try clear n4); (try clear n5); (try clear n6); omega)
    have n2 : ix ((k : Int) + 1) = k + 1 := ixN (k + 1) (by (try clear n0); (try clear n1); (try clear n2); (try clear n3); (try clear n4); (try clear n5); (try clear n6); omega)
    have n3 : nw ((frL e k : Nat) : Int) = (frL e k : Nat) := nwN _ (by (try clear n0); (try clear n1); (try clear n2); (try clear n3); (try clear n4); (try clear n5); (try clear n6); omega)
    have n4 : ix ((frL e k : Nat) : Int) = frL e k := ixN _ (by (try clear n0); (try clear n1); (try clear n2); (try clear n3); (try clear n4); (try clear n5); (try clear n6); omega)
    have n5 : nw (e (frL e k)) = e (frL e k) := by clear n0 n1 n2 n3 n4; exact nw_id (by (try clear n0); (try clear n1); (try clear n2); (try clear n3); (try clear n4); (try clear n5); (try clear n6); omega) (by (try clear n0); (try clear n1); (try clear n2); (try clear n3); (try clear n4); (try clear n5); (try clear n6); omega)
    have n6 : nw (e (k + 1)) = e (k + 1) := by clear n0 n1 n2 n3 n4 n5; exact nw_id (by (try clear n0); (try clear n1); (try clear n2); (try clear n3); (try clear n4); (try clear n5); (try clear n6); omega) (by (try clear n0); (try clear n1); (try clear n2); (try clear n3); (try clear n4); (try clear n5); (try clear n6); omega)
    rw [Yard_workInOrder_b.eq_1 _ 2, n0, n1, n2, n3, n4, a.1, b.1, n5, n6]
    clear n0 n1 n2 n3 n4 n5 n6
    rw [if_neg (by decide), if_pos rfl, if_neg (by (try clear n0); (try clear n1); (try clear n2); (try clear n3); (try clear n4); (try clear n5); (try clear n6); omega), if_pos (by (try clear n0); (try clear n1); (try clear n2); (try clear n3); (try clear n4); (try clear n5); (try clear n6); omega), if_pos (by (try clear n0); (try clear n1); (try clear n2); (try clear n3); (try clear n4); (try clear n5); (try clear n6); omega), sb]
    have s : (if e (frL e k) ≤ e (k + 1) then ((frL e k : Nat) : Int) else (k : Int) + 1) = ((frL e (k + 1) : Nat) : Int) := by
      conv => rhs; unfold frL
      split <;> rfl
    rw [s]
    exact e2
theorem X_work_s {H J : Nat} {mi : Nat → Int} (K : JbOk mi J) (hH : 1 ≤ H ∧ H ≤ 3) : ∀ (n j : Nat) (x3 x4 : Int) (g : AG), j + n = J → XJ g mi J → (∀ h, h < 3 → g 104 h = (wS H mi j).1 h) → g 10 13 = leF (wS H mi j).1 H → g 10 14 = (wS H mi j).2 → ∃ g', Yard_workInOrder_b H 1 j x3 x4 g = some (0, g') ∧ FR [(10, 14), (10, 15), (104, 0)] g g' ∧ g' 10 13 = leF (wS H mi J).1 H ∧ g' 10 14 = (wS H mi J).2 := by
  intro n
  induction n with
  | zero =>
    intro j x3 x4 g h X h1 h2 h3
    have := K.1
    refine ⟨g, ?_, Fr.rf, by rw [h2, show j = J by (try clear n0); (try clear n1); (try clear n2); (try clear n3); (try clear n4); (try clear n5); (try clear n6); omega], by rw [h3, show j = J by (try clear n0); (try clear n1); (try clear n2); (try clear n3); (try clear n4); (try clear n5); (try clear n6); omega]⟩
    rw [Yard_workInOrder_b.eq_1 _ 1, if_pos rfl, if_pos (by rw [X.1, nwN _ (by (try clear n0); (try clear n1); (try clear n2); (try clear n3); (try clear n4); (try clear n5); (try clear n6); omega), nwN _ (by (try clear n0); (try clear n1); (try clear n2); (try clear n3); (try clear n4); (try clear n5); (try clear n6); omega)]; omega)]
  | succ n ih =>
    intro j x3 x4 g h X h1 h2 h3
    have hJ := K.1
    have r := wS_rng (H := H) K j (by (try clear n0); (try clear n1); (try clear n2); (try clear n3); (try clear n4); (try clear n5); (try clear n6); omega)
    have m := K.2 j (by (try clear n0); (try clear n1); (try clear n2); (try clear n3); (try clear n4); (try clear n5); (try clear n6); omega)
    have fl := frL_le (wS H mi j).1 (H - 1)
    have rf := r.1 (frL (wS H mi j).1 (H - 1))
    have lr := leF_rng (e := (wS H mi j).1) (B := 600 + 300 * j) (by (try clear n0); (try clear n1); (try clear n2); (try clear n3); (try clear n4); (try clear n5); (try clear n6); omega) H (fun x _ => (r.1 x).2)
    have w2 := X_work2_s (J := J) (j := j) (mi := mi) (g := g) (e := (wS H mi j).1) hH (fun h hh => ⟨h1 h hh, by have := r.1 h; omega, by have := r.1 h; omega⟩) (H - 1) 0 (by (try clear n0); (try clear n1); (try clear n2); (try clear n3); (try clear n4); (try clear n5); (try clear n6); omega)
    obtain ⟨f, hf⟩ : ∃ f, f = frL (wS H mi j).1 (H - 1) := ⟨_, rfl⟩
    rw [← hf] at w2 fl rf
    have w2' : Yard_workInOrder_b H 2 j 0 1 g = Yard_workInOrder_b H 2 j f H g := w2
    have n0 : nw (g 10 7) = J := by rw [X.1, nwN _ (by (try clear n0); (try clear n1); (try clear n2); (try clear n3); (try clear n4); (try clear n5); (try clear n6); omega)]
    have n1 : nw (j : Int) = j := nwN _ (by (try clear n0); (try clear n1); (try clear n2); (try clear n3); (try clear n4); (try clear n5); (try clear n6); omega)
    have n2 : ix (j : Int) = j := ixN _ (by (try clear n0); (try clear n1); (try clear n2); (try clear n3); (try clear n4); (try clear n5); (try clear n6); omega)
    have n3 : nw (f : Int) = f := nwN _ (by (try clear n0); (try clear n1); (try clear n2); (try clear n3); (try clear n4); (try clear n5); (try clear n6); omega)
    have n4 : ix (f : Int) = f := ixN _ (by (try clear n0); (try clear n1); (try clear n2); (try clear n3); (try clear n4); (try clear n5); (try clear n6); omega)
    have n5 : nw (H : Int) = H := nwN _ (by (try clear n0); (try clear n1); (try clear n2); (try clear n3); (try clear n4); (try clear n5); (try clear n6); omega)
    have hfe := h1 f (by (try clear n0); (try clear n1); (try clear n2); (try clear n3); (try clear n4); (try clear n5); (try clear n6); omega)
    obtain ⟨g4, hg4⟩ : ∃ g4 : AG, g4 = up g 104 f ((wS H mi j).1 f + mi j) := ⟨_, rfl⟩
    have v4 : g4 104 f = (wS H mi j).1 f + mi j := by rw [hg4, up_at, if_pos ⟨rfl, rfl⟩]
    have v413 : g4 10 13 = leF (wS H mi j).1 H := by rw [hg4, up_at, if_neg (by (try clear n0); (try clear n1); (try clear n2); (try clear n3); (try clear n4); (try clear n5); (try clear n6); omega)]; exact h2
    have mx : mxI (g4 10 13) (g4 104 f) = max (leF (wS H mi j).1 H) ((wS H mi j).1 f + mi j) := by
      rw [v413, v4]
      clear n0 n1 n2 n3 n4 n5
      exact mxI_s (by (try clear n0); (try clear n1); (try clear n2); (try clear n3); (try clear n4); (try clear n5); (try clear n6); omega) (by (try clear n0); (try clear n1); (try clear n2); (try clear n3); (try clear n4); (try clear n5); (try clear n6); omega) (by (try clear n0); (try clear n1); (try clear n2); (try clear n3); (try clear n4); (try clear n5); (try clear n6); omega) (by (try clear n0); (try clear n1); (try clear n2); (try clear n3); (try clear n4); (try clear n5); (try clear n6); omega)
    obtain ⟨g6, hg6⟩ : ∃ g6 : AG, g6 = up g4 10 13 (max (leF (wS H mi j).1 H) ((wS H mi j).1 f + mi j)) := ⟨_, rfl⟩
    have v6 : g6 104 f = (wS H mi j).1 f + mi j := by rw [hg6, up_at, if_neg (by (try clear n0); (try clear n1); (try clear n2); (try clear n3); (try clear n4); (try clear n5); (try clear n6); omega)]; exact v4
    have v614 : g6 10 14 = (wS H mi j).2 := by
      rw [hg6, up_at, if_neg (by (try clear n0); (try clear n1); (try clear n2); (try clear n3); (try clear n4); (try clear n5); (try clear n6); omega), hg4, up_at, if_neg (by (try clear n0); (try clear n1); (try clear n2); (try clear n3); (try clear n4); (try clear n5); (try clear n6); omega)]; exact h3
    have n6 : nw (g6 104 f) = (wS H mi j).1 f + mi j := by
      rw [v6]
      clear n0 n1 n2 n3 n4 n5
      exact nw_id (by (try clear n0); (try clear n1); (try clear n2); (try clear n3); (try clear n4); (try clear n5); (try clear n6); omega) (by (try clear n0); (try clear n1); (try clear n2); (try clear n3); (try clear n4); (try clear n5); (try clear n6); omega)
    have wE : wS H mi (j + 1) = (fun h => if h = f then (wS H mi j).1 h + mi j else (wS H mi j).1 h, (wS H mi j).2 + (if (wS H mi j).1 f + mi j ≤ 900 then 0 else 1)) := by
      rw [hf]; rfl
    obtain ⟨g', e', f', r1, r2⟩ := ih (j + 1) f H (up g6 10 14 ((wS H mi j).2 + (if (wS H mi j).1 f + mi j ≤ 900 then 0 else 1))) (by (try clear n0); (try clear n1); (try clear n2); (try clear n3); (try clear n4); (try clear n5); (try clear n6); omega) ⟨by rw [up_at, if_neg (by (try clear n0); (try clear n1); (try clear n2); (try clear n3); (try clear n4); (try clear n5); (try clear n6); omega), hg6, up_at, if_neg (by (try clear n0); (try clear n1); (try clear n2); (try clear n3); (try clear n4); (try clear n5); (try clear n6); omega), hg4, up_at, if_neg (by (try clear n0); (try clear n1); (try clear n2); (try clear n3); (try clear n4); (try clear n5); (try clear n6); omega)]; exact X.1, fun i hi => by rw [up_at, if_neg (by (try clear n0); (try clear n1); (try clear n2); (try clear n3); (try clear n4); (try clear n5); (try clear n6); omega), hg6, up_at, if_neg (by (try clear n0); (try clear n1); (try clear n2); (try clear n3); (try clear n4); (try clear n5); (try clear n6); omega), hg4, up_at, if_neg (by (try clear n0); (try clear n1); (try clear n2); (try clear n3); (try clear n4); (try clear n5); (try clear n6); omega)]; exact X.2 i hi⟩ (fun h hh => by
      rw [wE, up_at, if_neg (by (try clear n0); (try clear n1); (try clear n2); (try clear n3); (try clear n4); (try clear n5); (try clear n6); omega), hg6, up_at, if_neg (by (try clear n0); (try clear n1); (try clear n2); (try clear n3); (try clear n4); (try clear n5); (try clear n6); omega), hg4, up_at]
      dsimp only
      by_cases z : h = f
      · rw [if_pos ⟨rfl, z⟩, if_pos z, z]
      · rw [if_neg (fun q => z q.2), if_neg z]; exact h1 h hh) (by
      rw [wE, up_at, if_neg (by (try clear n0); (try clear n1); (try clear n2); (try clear n3); (try clear n4); (try clear n5); (try clear n6); omega), hg6, up_at, if_pos ⟨rfl, rfl⟩]
      dsimp only
      rw [leF_up (by (try clear n0); (try clear n1); (try clear n2); (try clear n3); (try clear n4); (try clear n5); (try clear n6); omega) H (by (try clear n0); (try clear n1); (try clear n2); (try clear n3); (try clear n4); (try clear n5); (try clear n6); omega)]) (by
      rw [wE, up_at, if_pos ⟨rfl, rfl⟩])
    refine ⟨g', ?_, ?_, r1, r2⟩
    · rw [Yard_workInOrder_b.eq_1 _ 1, n0, n1, if_pos rfl, if_neg (by (try clear n0); (try clear n1); (try clear n2); (try clear n3); (try clear n4); (try clear n5); (try clear n6); omega), w2', Yard_workInOrder_b.eq_1 _ 2, n5, n3, n1, n4, n2, hfe, X.2 j (by (try clear n0); (try clear n1); (try clear n2); (try clear n3); (try clear n4); (try clear n5); (try clear n6); omega)]
      rw [if_neg (by decide), if_pos rfl, if_pos (Int.le_refl _), if_pos (by (try clear n0); (try clear n1); (try clear n2); (try clear n3); (try clear n4); (try clear n5); (try clear n6); omega), if_pos (by (try clear n0); (try clear n1); (try clear n2); (try clear n3); (try clear n4); (try clear n5); (try clear n6); omega), sb, ← hg4, mx, sb, ← hg6, n6, sb, v614, sb]
      exact e'
    · refine Fr.tr ?_ f'
      rw [hg6, hg4]
      exact Fr.up (Fr.up (Fr.up Fr.rf rfl) rfl) rfl
def MJ (g : AG) (mi : Nat → Int) (J : Nat) : Prop := g 117 87 = J ∧ ∀ j, j < J → g 178 j = mi j
theorem M_last_s {H : Nat} {g : AG} {e : Nat → Int} (hH : 1 ≤ H ∧ H ≤ 3) (he : ∀ h, h < H → g 179 h = e h ∧ 0 ≤ e h ∧ e h ≤ 10000) : ∀ (n k : Nat), k + n = H → M_lastEnd_b H g (leF e k) k = some (leF e H) := by
  intro n
  induction n with
  | zero =>
    intro k h
    rw [M_lastEnd_b, if_pos (by rw [nwN _ (by (try clear n0); (try clear n1); (try clear n2); (try clear n3); (try clear n4); omega), nwN _ (by (try clear n0); (try clear n1); (try clear n2); (try clear n3); (try clear n4); omega)]; omega), show k = H by (try clear n0); (try clear n1); (try clear n2); (try clear n3); (try clear n4); omega]
  | succ n ih =>
    intro k h
    have a := he k (by (try clear n0); (try clear n1); (try clear n2); (try clear n3); (try clear n4); omega)
    have lr := leF_rng (e := e) (B := 10000) (by (try clear n0); (try clear n1); (try clear n2); (try clear n3); (try clear n4); omega) k (fun x hx => (he x (by (try clear n0); (try clear n1); (try clear n2); (try clear n3); (try clear n4); omega)).2.2)
    have e2 := ih (k + 1) (by (try clear n0); (try clear n1); (try clear n2); (try clear n3); (try clear n4); omega)
    have n0 : nw (H : Int) = H := nwN _ (by (try clear n0); (try clear n1); (try clear n2); (try clear n3); (try clear n4); omega)
    have n1 : nw (k : Int) = k := nwN _ (by (try clear n0); (try clear n1); (try clear n2); (try clear n3); (try clear n4); omega)
    have n2 : ix (k : Int) = k := ixN _ (by (try clear n0); (try clear n1); (try clear n2); (try clear n3); (try clear n4); omega)
    have n3 : nw (e k) = e k := by clear n0 n1 n2; exact nw_id (by (try clear n0); (try clear n1); (try clear n2); (try clear n3); (try clear n4); omega) (by (try clear n0); (try clear n1); (try clear n2); (try clear n3); (try clear n4); omega)
    have n4 : nw (leF e k) = leF e k := by clear n0 n1 n2 n3; exact nw_id (by (try clear n0); (try clear n1); (try clear n2); (try clear n3); (try clear n4); omega) (by (try clear n0); (try clear n1); (try clear n2); (try clear n3); (try clear n4); omega)
    rw [M_lastEnd_b, n0, n1, n2, a.1, n3, n4]
    clear n0 n1 n2 n3 n4
    rw [if_neg (by (try clear n0); (try clear n1); (try clear n2); (try clear n3); (try clear n4); omega), if_pos (by (try clear n0); (try clear n1); (try clear n2); (try clear n3); (try clear n4); omega)]
    have s : (if e k ≤ leF e k then some (leF e k) else some (e k)) = some (leF e (k + 1)) := by
      conv => rhs; unfold leF
      split
      · rw [show max (leF e k) (e k) = leF e k by (try clear n0); (try clear n1); (try clear n2); (try clear n3); (try clear n4); omega]
      · rw [show max (leF e k) (e k) = e k by (try clear n0); (try clear n1); (try clear n2); (try clear n3); (try clear n4); omega]
    rw [s, sb]
    exact e2
theorem M_work3_s {H J j : Nat} {mi : Nat → Int} {g : AG} {e : Nat → Int} (hH : 1 ≤ H ∧ H ≤ 3) (he : ∀ h, h < H → g 179 h = e h ∧ 0 ≤ e h ∧ e h ≤ 10000) : ∀ (n k : Nat), k + n = H - 1 → M_worked_b H 3 j (frL e k : Nat) ((k : Int) + 1) g = M_worked_b H 3 j (frL e (H - 1) : Nat) H g := by
  intro n
  induction n with
  | zero =>
    intro k h
    rw [show k = H - 1 by (try clear n0); (try clear n1); (try clear n2); (try clear n3); (try clear n4); (try clear n5); (try clear n6); omega, show ((H - 1 : Nat) : Int) + 1 = H by (try clear n0); (try clear n1); (try clear n2); (try clear n3); (try clear n4); (try clear n5); (try clear n6); omega]
  | succ n ih =>
    intro k h
    have l := frL_le e k
    have a := he (frL e k) (by (try clear n0); (try clear n1); (try clear n2); (try clear n3); (try clear n4); (try clear n5); (try clear n6); omega)
    have b := he (k + 1) (by (try clear n0); (try clear n1); (try clear n2); (try clear n3); (try clear n4); (try clear n5); (try clear n6); omega)
    have e2 := ih (k + 1) (by (try clear n0); (try clear n1); (try clear n2); (try clear n3); (try clear n4); (try clear n5); (try clear n6); omega)
    have n0 : nw (H : Int) = H := nwN _ (by (try clear n0); (try clear n1); (try clear n2); (try clear n3); (try clear n4); (try clear n5); (try clear n6); omega)
    have n1 : nw ((k : Int) + 1) = (k + 1 : Nat) := nwN (k + 1) (by (try clear n0); (try clear n1); (try clear n2); (try clear n3); (try clear n4); (try clear n5); (try clear n6); omega)
    have n2 : ix ((k : Int) + 1) = k + 1 := ixN (k + 1) (by (try clear n0); (try clear n1); (try clear n2); (try clear n3); (try clear n4); (try clear n5); (try clear n6); omega)
    have n3 : nw ((frL e k : Nat) : Int) = (frL e k : Nat) := nwN _ (by (try clear n0); (try clear n1); (try clear n2); (try clear n3); (try clear n4); (try clear n5); (try clear n6); omega)
    have n4 : ix ((frL e k : Nat) : Int) = frL e k := ixN _ (by (try clear n0); (try clear n1); (try clear n2); (try clear n3); (try clear n4); (try clear n5); (try clear n6); omega)
    have n5 : nw (e (frL e k)) = e (frL e k) := by clear n0 n1 n2 n3 n4; exact nw_id (by (try clear n0); (try clear n1); (try clear n2); (try clear n3); (try clear n4); (try clear n5); (try clear n6); omega) (by (try clear n0); (try clear n1); (try clear n2); (try clear n3); (try clear n4); (try clear n5); (try clear n6); omega)
    have n6 : nw (e (k + 1)) = e (k + 1) := by clear n0 n1 n2 n3 n4 n5; exact nw_id (by (try clear n0); (try clear n1); (try clear n2); (try clear n3); (try clear n4); (try clear n5); (try clear n6); omega) (by (try clear n0); (try clear n1); (try clear n2); (try clear n3); (try clear n4); (try clear n5); (try clear n6); omega)
    rw [M_worked_b.eq_1 _ 3, n0, n1, n2, n3, n4, a.1, b.1, n5, n6]
    clear n0 n1 n2 n3 n4 n5 n6
    rw [if_neg (by decide), if_neg (by decide), if_pos rfl, if_neg (by (try clear n0); (try clear n1); (try clear n2); (try clear n3); (try clear n4); (try clear n5); (try clear n6); omega), if_pos (by (try clear n0); (try clear n1); (try clear n2); (try clear n3); (try clear n4); (try clear n5); (try clear n6); omega), if_pos (by (try clear n0); (try clear n1); (try clear n2); (try clear n3); (try clear n4); (try clear n5); (try clear n6); omega), sb]
    have s : (if e (frL e k) ≤ e (k + 1) then ((frL e k : Nat) : Int) else (k : Int) + 1) = ((frL e (k + 1) : Nat) : Int) := by
      conv => rhs; unfold frL
      split <;> rfl
    rw [s]
    exact e2
theorem M_work2_s {H J : Nat} {mi : Nat → Int} (K : JbOk mi J) (hH : 1 ≤ H ∧ H ≤ 3) : ∀ (n j : Nat) (x3 x4 : Int) (g : AG), j + n = J → MJ g mi J → (∀ h, h < H → g 179 h = (wS H mi j).1 h) → g 117 90 = (wS H mi j).2 → ∃ g', M_worked_b H 2 j x3 x4 g = some (leF (wS H mi J).1 H, g') ∧ FR [(117, 91), (179, 0)] g g' ∧ g' 117 90 = (wS H mi J).2 := by
  intro n
  induction n with
  | zero =>
    intro j x3 x4 g h X h1 h3
    have hJ := K.1
    have r := wS_rng (H := H) K j (by (try clear n0); (try clear n1); (try clear n2); (try clear n3); (try clear n4); (try clear n5); (try clear n6); omega)
    have hj : j = J := by (try clear n0); (try clear n1); (try clear n2); (try clear n3); (try clear n4); (try clear n5); (try clear n6); omega
    subst hj
    refine ⟨g, ?_, Fr.rf, h3⟩
    have l : M_lastEnd H g = some (leF (wS H mi j).1 H) := M_last_s (e := (wS H mi j).1) hH (fun h hh => ⟨h1 h hh, by have := r.1 h; omega, by have := r.1 h; omega⟩) H 0 (by (try clear n0); (try clear n1); (try clear n2); (try clear n3); (try clear n4); (try clear n5); (try clear n6); omega)
    rw [M_worked_b.eq_1 _ 2, if_neg (by decide), if_pos rfl, if_pos (by rw [X.1, nwN _ (by (try clear n0); (try clear n1); (try clear n2); (try clear n3); (try clear n4); (try clear n5); (try clear n6); omega)]; omega), l, sb]
  | succ n ih =>
    intro j x3 x4 g h X h1 h3
    have hJ := K.1
    have r := wS_rng (H := H) K j (by (try clear n0); (try clear n1); (try clear n2); (try clear n3); (try clear n4); (try clear n5); (try clear n6); omega)
    have m := K.2 j (by (try clear n0); (try clear n1); (try clear n2); (try clear n3); (try clear n4); (try clear n5); (try clear n6); omega)
    have fl := frL_le (wS H mi j).1 (H - 1)
    have rf := r.1 (frL (wS H mi j).1 (H - 1))
    have w2 := M_work3_s (J := J) (j := j) (mi := mi) (g := g) (e := (wS H mi j).1) hH (fun h hh => ⟨h1 h hh, by have := r.1 h; omega, by have := r.1 h; omega⟩) (H - 1) 0 (by (try clear n0); (try clear n1); (try clear n2); (try clear n3); (try clear n4); (try clear n5); (try clear n6); omega)
    obtain ⟨f, hf⟩ : ∃ f, f = frL (wS H mi j).1 (H - 1) := ⟨_, rfl⟩
    rw [← hf] at w2 fl rf
    have w2' : M_worked_b H 3 j 0 1 g = M_worked_b H 3 j f H g := w2
    have n0 : nw (g 117 87) = J := by rw [X.1, nwN _ (by (try clear n0); (try clear n1); (try clear n2); (try clear n3); (try clear n4); (try clear n5); (try clear n6); omega)]
    have n1 : nw (j : Int) = j := nwN _ (by (try clear n0); (try clear n1); (try clear n2); (try clear n3); (try clear n4); (try clear n5); (try clear n6); omega)
    have n2 : ix (j : Int) = j := ixN _ (by (try clear n0); (try clear n1); (try clear n2); (try clear n3); (try clear n4); (try clear n5); (try clear n6); omega)
    have n3 : nw (f : Int) = f := nwN _ (by (try clear n0); (try clear n1); (try clear n2); (try clear n3); (try clear n4); (try clear n5); (try clear n6); omega)
    have n4 : ix (f : Int) = f := ixN _ (by (try clear n0); (try clear n1); (try clear n2); (try clear n3); (try clear n4); (try clear n5); (try clear n6); omega)
    have n5 : nw (H : Int) = H := nwN _ (by (try clear n0); (try clear n1); (try clear n2); (try clear n3); (try clear n4); (try clear n5); (try clear n6); omega)
    have hfe := h1 f (by (try clear n0); (try clear n1); (try clear n2); (try clear n3); (try clear n4); (try clear n5); (try clear n6); omega)
    obtain ⟨g4, hg4⟩ : ∃ g4 : AG, g4 = up g 179 f ((wS H mi j).1 f + mi j) := ⟨_, rfl⟩
    have v4 : g4 179 f = (wS H mi j).1 f + mi j := by rw [hg4, up_at, if_pos ⟨rfl, rfl⟩]
    have v490 : g4 117 90 = (wS H mi j).2 := by
      rw [hg4, up_at, if_neg (by (try clear n0); (try clear n1); (try clear n2); (try clear n3); (try clear n4); (try clear n5); (try clear n6); omega)]; exact h3
    have n6 : nw (g4 179 f) = (wS H mi j).1 f + mi j := by
      rw [v4]
      clear n0 n1 n2 n3 n4 n5
      exact nw_id (by (try clear n0); (try clear n1); (try clear n2); (try clear n3); (try clear n4); (try clear n5); (try clear n6); omega) (by (try clear n0); (try clear n1); (try clear n2); (try clear n3); (try clear n4); (try clear n5); (try clear n6); omega)
    have wE : wS H mi (j + 1) = (fun h => if h = f then (wS H mi j).1 h + mi j else (wS H mi j).1 h, (wS H mi j).2 + (if (wS H mi j).1 f + mi j ≤ 900 then 0 else 1)) := by
      rw [hf]; rfl
    obtain ⟨g', e', f', r2⟩ := ih (j + 1) f H (up g4 117 90 ((wS H mi j).2 + (if (wS H mi j).1 f + mi j ≤ 900 then 0 else 1))) (by (try clear n0); (try clear n1); (try clear n2); (try clear n3); (try clear n4); (try clear n5); (try clear n6); omega) ⟨by rw [up_at, if_neg (by (try clear n0); (try clear n1); (try clear n2); (try clear n3); (try clear n4); (try clear n5); (try clear n6); omega), hg4, up_at, if_neg (by (try clear n0); (try clear n1); (try clear n2); (try clear n3); (try clear n4); (try clear n5); (try clear n6); omega)]; exact X.1, fun i hi => by rw [up_at, if_neg (by (try clear n0); (try clear n1); (try clear n2); (try clear n3); (try clear n4); (try clear n5); (try clear n6); omega), hg4, up_at, if_neg (by (try clear n0); (try clear n1); (try clear n2); (try clear n3); (try clear n4); (try clear n5); (try clear n6); omega)]; exact X.2 i hi⟩ (fun h hh => by
      rw [wE, up_at, if_neg (by (try clear n0); (try clear n1); (try clear n2); (try clear n3); (try clear n4); (try clear n5); (try clear n6); omega), hg4, up_at]
      dsimp only
      by_cases z : h = f
      · rw [if_pos ⟨rfl, z⟩, if_pos z, z]
      · rw [if_neg (fun q => z q.2), if_neg z]; exact h1 h hh) (by
      rw [wE, up_at, if_pos ⟨rfl, rfl⟩])
    refine ⟨g', ?_, ?_, r2⟩
    · rw [M_worked_b.eq_1 _ 2, n0, n1, if_neg (by decide), if_pos rfl, if_neg (by (try clear n0); (try clear n1); (try clear n2); (try clear n3); (try clear n4); (try clear n5); (try clear n6); omega), w2', M_worked_b.eq_1 _ 3, n5, n3, n1, n4, n2, hfe, X.2 j (by (try clear n0); (try clear n1); (try clear n2); (try clear n3); (try clear n4); (try clear n5); (try clear n6); omega)]
      rw [if_neg (by decide), if_neg (by decide), if_pos rfl, if_pos (Int.le_refl _), if_pos (by (try clear n0); (try clear n1); (try clear n2); (try clear n3); (try clear n4); (try clear n5); (try clear n6); omega), if_pos (by (try clear n0); (try clear n1); (try clear n2); (try clear n3); (try clear n4); (try clear n5); (try clear n6); omega), sb, ← hg4, n6, sb, v490, sb]
      exact e'
    · refine Fr.tr ?_ f'
      rw [hg4]
      exact Fr.up (Fr.up Fr.rf rfl) rfl
theorem M_work1_s {H : Nat} (hH : 1 ≤ H ∧ H ≤ 3) : ∀ (n k : Nat) (g : AG), k + n = H → (∀ h, h < k → g 179 h = 600) → ∃ g', M_worked_b H 1 k 0 0 g = M_worked_b H 2 0 0 0 g' ∧ FR [(179, 0)] g g' ∧ ∀ h, h < H → g' 179 h = 600 := by
  intro n
  induction n with
  | zero =>
    intro k g h q
    refine ⟨g, ?_, Fr.rf, fun h hh => q h (by (try clear n0); (try clear n1); (try clear n2); omega)⟩
    rw [M_worked_b.eq_1 _ 1, if_pos rfl, if_pos (by rw [nwN _ (by (try clear n0); (try clear n1); (try clear n2); omega), nwN _ (by (try clear n0); (try clear n1); (try clear n2); omega)]; omega)]
  | succ n ih =>
    intro k g h q
    obtain ⟨g', e, f, r⟩ := ih (k + 1) (up g 179 k 600) (by (try clear n0); (try clear n1); (try clear n2); omega) (fun h hh => by
      rw [up_at]
      by_cases z : h = k
      · rw [if_pos ⟨rfl, z⟩]
      · rw [if_neg (by (try clear n0); (try clear n1); (try clear n2); omega)]; exact q h (by (try clear n0); (try clear n1); (try clear n2); omega))
    refine ⟨g', ?_, (Fr.up Fr.rf rfl).tr f, r⟩
    have n0 : nw (H : Int) = H := nwN _ (by (try clear n0); (try clear n1); (try clear n2); omega)
    have n1 : nw (k : Int) = k := nwN _ (by (try clear n0); (try clear n1); (try clear n2); omega)
    have n2 : ix (k : Int) = k := ixN _ (by (try clear n0); (try clear n1); (try clear n2); omega)
    rw [M_worked_b.eq_1 _ 1, n0, n1, n2]
    clear n0 n1 n2
    rw [if_pos rfl, if_neg (by (try clear n0); (try clear n1); (try clear n2); omega), if_pos (by (try clear n0); (try clear n1); (try clear n2); omega), sb]
    exact e
theorem M_worked_s {H J : Nat} {mi : Nat → Int} (K : JbOk mi J) (hH : 1 ≤ H ∧ H ≤ 3) {g : AG} (X : MJ g mi J) : ∃ g', M_worked H g = some (leF (wS H mi J).1 H, g') ∧ FR [(117, 91), (179, 0)] g g' ∧ g' 117 90 = (wS H mi J).2 := by
  obtain ⟨g1, e1, f1, r1⟩ := M_work1_s hH H 0 (up g 117 90 0) (by omega) (fun h hh => by omega)
  have f01 : FR [(117, 91), (179, 0)] g g1 := (Fr.up Fr.rf rfl).tr (FR.mo f1 rfl)
  obtain ⟨g2, e2, f2, r2⟩ := M_work2_s K hH J 0 0 0 g1 (by omega) ⟨by rw [f01 117 87 rfl]; exact X.1, fun j hj => by rw [f01 178 j rfl]; exact X.2 j hj⟩ (fun h hh => by rw [r1 h hh]; rfl) (by rw [f1 117 90 rfl, up_at, if_pos ⟨rfl, rfl⟩]; rfl)
  refine ⟨g2, ?_, f01.tr f2, r2⟩
  unfold M_worked
  rw [sb]
  have e1' : M_worked_b H 1 0 0 0 (up g 117 90 0) = M_worked_b H 2 0 0 0 g1 := e1
  rw [e1']
  exact e2
theorem X_worked_s {H J : Nat} {mi : Nat → Int} (K : JbOk mi J) (hH : 1 ≤ H ∧ H ≤ 3) {g : AG} (X : XJ g mi J) : ∃ g', Yard_workInOrder H g = some (0, g') ∧ FR [(10, 14), (10, 15), (104, 0)] g g' ∧ g' 10 13 = leF (wS H mi J).1 H ∧ g' 10 14 = (wS H mi J).2 := by
  obtain ⟨g5, hg5⟩ : ∃ g5 : AG, g5 = up (up (fillG g 104 3 600) 10 13 600) 10 14 0 := ⟨_, rfl⟩
  have f5 : FR [(10, 14), (10, 15), (104, 0)] g g5 := by rw [hg5]; exact Fr.up (Fr.up (Fr.fill Fr.rf (fun _ => rfl)) rfl) rfl
  have l0 : ∀ h : Nat, leF (wS H mi 0).1 h = 600 := by
    intro h
    have := leF_rng (e := (wS H mi 0).1) (B := 600) (by omega) h (fun x _ => Int.le_refl _)
    omega
  obtain ⟨g2, e2, f2, r1, r2⟩ := X_work_s K hH J 0 0 0 g5 (by omega) ⟨by rw [f5 10 7 rfl]; exact X.1, fun j hj => by rw [f5 103 j rfl]; exact X.2 j hj⟩ (fun h hh => by
    rw [hg5, up_at, if_neg (by omega), up_at, if_neg (by omega), fill_at, if_pos ⟨rfl, hh⟩]; rfl) (by rw [l0, hg5, up_at, if_neg (by omega), up_at, if_pos ⟨rfl, rfl⟩]) (by rw [hg5, up_at, if_pos ⟨rfl, rfl⟩]; rfl)
  refine ⟨g2, ?_, f5.tr f2, r1, r2⟩
  unfold Yard_workInOrder
  rw [sb, sb, sb, ← hg5]
  exact e2
