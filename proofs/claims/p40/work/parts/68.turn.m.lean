section
/-! plain programs: turning round, as worked -/
def frL (e : Nat → Int) : Nat → Nat
  | 0 => 0
  | h + 1 => if e (frL e h) ≤ e (h + 1) then frL e h else h + 1
def leF (e : Nat → Int) : Nat → Int
  | 0 => 600
  | h + 1 => max (leF e h) (e h)
def wS (H : Nat) (mi : Nat → Int) : Nat → (Nat → Int) × Int
  | 0 => (fun _ => 600, 0)
  | j + 1 => (fun h => if h = frL (wS H mi j).1 (H - 1) then (wS H mi j).1 h + mi j else (wS H mi j).1 h, (wS H mi j).2 + (if (wS H mi j).1 (frL (wS H mi j).1 (H - 1)) + mi j ≤ 900 then 0 else 1))
theorem frL_le (e : Nat → Int) : ∀ h : Nat, frL e h ≤ h
  | 0 => Nat.le_refl 0
  | h + 1 => by
    have := frL_le e h
    unfold frL
    split <;> omega
theorem frL_cg {e e' : Nat → Int} : ∀ h : Nat, (∀ x, x ≤ h → e x = e' x) → frL e h = frL e' h
  | 0, _ => rfl
  | h + 1, q => by
    have := frL_cg (e := e) (e' := e') h (fun x hx => q x (by omega))
    have l := frL_le e' h
    unfold frL
    rw [this, q _ (by omega), q (h + 1) (by omega)]
theorem leF_cg {e e' : Nat → Int} : ∀ h : Nat, (∀ x, x < h → e x = e' x) → leF e h = leF e' h
  | 0, _ => rfl
  | h + 1, q => by
    unfold leF
    rw [leF_cg (e := e) (e' := e') h (fun x hx => q x (by omega)), q h (by omega)]
theorem leF_rng {e : Nat → Int} {B : Int} (hB : 600 ≤ B) : ∀ h : Nat, (∀ x, x < h → e x ≤ B) → 600 ≤ leF e h ∧ leF e h ≤ B
  | 0, _ => by unfold leF; omega
  | h + 1, q => by
    have := leF_rng (e := e) hB h (fun x hx => q x (by omega))
    have := q h (by omega)
    unfold leF
    omega
theorem leF_up {e : Nat → Int} {d : Int} {f : Nat} (hd : 0 ≤ d) : ∀ h : Nat, f < h → leF (fun x => if x = f then e x + d else e x) h = max (leF e h) (e f + d)
  | 0, q => by omega
  | h + 1, q => by
    unfold leF
    by_cases z : f = h
    · subst z
      rw [leF_cg (e := fun x => if x = f then e x + d else e x) (e' := e) f (fun x hx => if_neg (by omega))]
      rw [if_pos rfl]
      omega
    · rw [leF_up hd h (by omega)]
      rw [if_neg (by omega)]
      omega
def JbOk (mi : Nat → Int) (J : Nat) : Prop := J ≤ 8 ∧ ∀ j, j < J → 1 ≤ mi j ∧ mi j ≤ 300
theorem wS_rng {H J : Nat} {mi : Nat → Int} (K : JbOk mi J) : ∀ j : Nat, j ≤ J → (∀ h, 600 ≤ (wS H mi j).1 h ∧ (wS H mi j).1 h ≤ 600 + 300 * j) ∧ 0 ≤ (wS H mi j).2 ∧ (wS H mi j).2 ≤ j
  | 0, _ => by unfold wS; exact ⟨fun h => by dsimp only; omega, by dsimp only; omega, by dsimp only; omega⟩
  | j + 1, q => by
    have r := wS_rng (H := H) K j (by omega)
    have m := K.2 j (by omega)
    unfold wS
    dsimp only
    refine ⟨fun h => ?_, ?_, ?_⟩
    · have := r.1 h
      split <;> omega
    · have := r.2
      split <;> omega
    · have := r.2
      split <;> omega
def XJ (g : AG) (mi : Nat → Int) (J : Nat) : Prop := g 10 7 = J ∧ ∀ j, j < J → g 103 j = mi j
theorem X_work2_s {H J j : Nat} {mi : Nat → Int} {g : AG} {e : Nat → Int} (hH : 1 ≤ H ∧ H ≤ 3) (he : ∀ h, h < 3 → g 104 h = e h ∧ 0 ≤ e h ∧ e h ≤ 10000) : ∀ (n k : Nat), k + n = H - 1 → Yard_workInOrder_b H 2 j (frL e k : Nat) ((k : Int) + 1) g = Yard_workInOrder_b H 2 j (frL e (H - 1) : Nat) H g := by
  intro n
  induction n with
  | zero =>
    intro k h
    rw [show k = H - 1 by (try clear n0); (try clear n1); (try clear n2); (try clear n3); (try clear n4); (try clear n5); (try clear n6); omega, show ((H - 1 : Nat) : Int) + 1 = H by (try clear n0); (try clear n1); (try clear n2); (try clear n3); (try clear n4); (try clear n5); (try clear n6); omega]
  | succ n ih =>
    intro k h
    have l := frL_le e k
    have a := he (frL e k) (by (try clear n0); (try clear n1); (try clear n2); (try clear n3); (try clear n4); (try clear n5); (try clear n6); omega)
    have b := he (k + 1) (by (try clear n0); (try clear n1); (try clear n2); (try clear n3); (try clear n4); (try clear n5); (try clear n6); omega)
    have e2 := ih (k + 1) (by (try clear n0); (try clear n1); (try clear n2); (try clear n3); (try clear n4); (try clear n5); (try clear n6); omega)
    have n0 : nw (H : Int) = H := nwN _ (by (try clear n0); (try clear n1); (try clear n2); (try clear n3); (try clear n4); (try clear n5); (try clear n6); omega)
    have n1 : nw ((k : Int) + 1) = (k + 1 : Nat) := nwN (k + 1) (by (try clear n0); (try clear n1); (try clear n2); (try clear n3); (try clear n4); (try clear n5); (try clear n6); omega)
    have n2 : ix ((k : Int) + 1) = k + 1 := ixN (k + 1) (by (try clear n0); (try clear n1); (try clear n2); (try clear n3); (try clear n4); (try clear n5); (try clear n6); omega)
    have n3 : nw ((frL e k : Nat) : Int) = (frL e k : Nat) := nwN _ (by (try clear n0); (try clear n1); (try clear n2); (try clear n3); (try clear n4); (try clear n5); (try clear n6); omega)
    have n4 : ix ((frL e k : Nat) : Int) = frL e k := ixN _ (by (try clear n0); (try clear n1); (try clear n2); (try clear n3); (try clear n4); (try clear n5); (try clear n6); omega)
    have n5 : nw (e (frL e k)) = e (frL e k) := by clear n0 n1 n2 n3 n4; exact nw_id (by (try clear n0); (try clear n1); (try clear n2); (try clear n3); (try clear n4); (try clear n5); (try clear n6); omega) (by (try clear n0); (try clear n1); (try clear n2); (try clear n3); (try clear n4); (try clear n5); (try clear n6); omega)
    have n6 : nw (e (k + 1)) = e (k + 1) := by clear n0 n1 n2 n3 n4 n5; exact nw_id (by (try clear n0); (try clear n1); (try clear n2); (try clear n3); (try clear n4); (try clear n5); (try clear n6); omega) (by (try clear n0); (try clear n1); (try clear n2); (try clear n3); (try clear n4); (try clear n5); (try clear n6); omega)
    rw [Yard_workInOrder_b.eq_1 _ 2, n0, n1, n2, n3, n4, a.1, b.1, n5, n6]
    clear n0 n1 n2 n3 n4 n5 n6
    rw [if_neg (by decide), if_pos rfl, if_neg (by (try clear n0); (try clear n1); (try clear n2); (try clear n3); (try clear n4); (try clear n5); (try clear n6); omega), if_pos (by (try clear n0); (try clear n1); (try clear n2); (try clear n3); (try clear n4); (try clear n5); (try clear n6); omega), if_pos (by (try clear n0); (try clear n1); (try clear n2); (try clear n3); (try clear n4); (try clear n5); (try clear n6); omega), sb]
    have s : (if e (frL e k) ≤ e (k + 1) then ((frL e k : Nat) : Int) else (k : Int) + 1) = ((frL e (k + 1) : Nat) : Int) := by
      conv => rhs; unfold frL
      split <;> rfl
    rw [s]
    exact e2
theorem X_work_s {H J : Nat} {mi : Nat → Int} (K : JbOk mi J) (hH : 1 ≤ H ∧ H ≤ 3) : ∀ (n j : Nat) (x3 x4 : Int) (g : AG), j + n = J → XJ g mi J → (∀ h, h < 3 → g 104 h = (wS H mi j).1 h) → g 10 13 = leF (wS H mi j).1 H → g 10 14 = (wS H mi j).2 → ∃ g', Yard_workInOrder_b H 1 j x3 x4 g = some (0, g') ∧ FR [(10, 14), (10, 15), (104, 0)] g g' ∧ g' 10 13 = leF (wS H mi J).1 H ∧ g' 10 14 = (wS H mi J).2 := by
  intro n
  induction n with
  | zero =>
    intro j x3 x4 g h X h1 h2 h3
    have := K.1
    refine ⟨g, ?_, Fr.rf, by rw [h2, show j = J by (try clear n0); (try clear n1); (try clear n2); (try clear n3); (try clear n4); (try clear n5); (try clear n6); omega], by rw [h3, show j = J by (try clear n0); (try clear n1); (try clear n2); (try clear n3); (try clear n4); (try clear n5); (try clear n6); omega]⟩
    rw [Yard_workInOrder_b.eq_1 _ 1, if_pos rfl, if_pos (by rw [X.1, nwN _ (by (try clear n0); (try clear n1); (try clear n2); (try clear n3); (try clear n4); (try clear n5); (try clear n6); omega), nwN _ (by (try clear n0); (try clear n1); (try clear n2); (try clear n3); (try clear n4); (try clear n5); (try clear n6); omega)]; omega)]
  | succ n ih =>
    intro j x3 x4 g h X h1 h2 h3
    have hJ := K.1
    have r := wS_rng (H := H) K j (by (try clear n0); (try clear n1); (try clear n2); (try clear n3); (try clear n4); (try clear n5); (try clear n6); omega)
    have m := K.2 j (by (try clear n0); (try clear n1); (try clear n2); (try clear n3); (try clear n4); (try clear n5); (try clear n6); omega)
    have fl := frL_le (wS H mi j).1 (H - 1)
    have rf := r.1 (frL (wS H mi j).1 (H - 1))
    have lr := leF_rng (e := (wS H mi j).1) (B := 600 + 300 * j) (by (try clear n0); (try clear n1); (try clear n2); (try clear n3); (try clear n4); (try clear n5); (try clear n6); omega) H (fun x _ => (r.1 x).2)
    have w2 := X_work2_s (J := J) (j := j) (mi := mi) (g := g) (e := (wS H mi j).1) hH (fun h hh => ⟨h1 h hh, by have := r.1 h; omega, by have := r.1 h; omega⟩) (H - 1) 0 (by (try clear n0); (try clear n1); (try clear n2); (try clear n3); (try clear n4); (try clear n5); (try clear n6); omega)
    obtain ⟨f, hf⟩ : ∃ f, f = frL (wS H mi j).1 (H - 1) := ⟨_, rfl⟩
    rw [← hf] at w2 fl rf
    have w2' : Yard_workInOrder_b H 2 j 0 1 g = Yard_workInOrder_b H 2 j f H g := w2
    have n0 : nw (g 10 7) = J := by rw [X.1, nwN _ (by (try clear n0); (try clear n1); (try clear n2); (try clear n3); (try clear n4); (try clear n5); (try clear n6); omega)]
    have n1 : nw (j : Int) = j := nwN _ (by (try clear n0); (try clear n1); (try clear n2); (try clear n3); (try clear n4); (try clear n5); (try clear n6); omega)
    have n2 : ix (j : Int) = j := ixN _ (by (try clear n0); (try clear n1); (try clear n2); (try clear n3); (try clear n4); (try clear n5); (try clear n6); omega)
    have n3 : nw (f : Int) = f := nwN _ (by (try clear n0); (try clear n1); (try clear n2); (try clear n3); (try clear n4); (try clear n5); (try clear n6); omega)
    have n4 : ix (f : Int) = f := ixN _ (by (try clear n0); (try clear n1); (try clear n2); (try clear n3); (try clear n4); (try clear n5); (try clear n6); omega)
    have n5 : nw (H : Int) = H := nwN _ (by (try clear n0); (try clear n1); (try clear n2); (try clear n3); (try clear n4); (try clear n5); (try clear n6); omega)
    have hfe := h1 f (by (try clear n0); (try clear n1); (try clear n2); (try clear n3); (try clear n4); (try clear n5); (try clear n6); omega)
    obtain ⟨g4, hg4⟩ : ∃ g4 : AG, g4 = up g 104 f ((wS H mi j).1 f + mi j) := ⟨_, rfl⟩
    have v4 : g4 104 f = (wS H mi j).1 f + mi j := by rw [hg4, up_at, if_pos ⟨rfl, rfl⟩]
    have v413 : g4 10 13 = leF (wS H mi j).1 H := by rw [hg4, up_at, if_neg (by (try clear n0); (try clear n1); (try clear n2); (try clear n3); (try clear n4); (try clear n5); (try clear n6); omega)]; exact h2
    have mx : mxI (g4 10 13) (g4 104 f) = max (leF (wS H mi j).1 H) ((wS H mi j).1 f + mi j) := by
      rw [v413, v4]
      clear n0 n1 n2 n3 n4 n5
      exact mxI_s (by (try clear n0); (try clear n1); (try clear n2); (try clear n3); (try clear n4); (try clear n5); (try clear n6); omega) (by (try clear n0); (try clear n1); (try clear n2); (try clear n3); (try clear n4); (try clear n5); (try clear n6); omega) (by (try clear n0); (try clear n1); (try clear n2); (try clear n3); (try clear n4); (try clear n5); (try clear n6); omega) (by (try clear n0); (try clear n1); (try clear n2); (try clear n3); (try clear n4); (try clear n5); (try clear n6); omega)
    obtain ⟨g6, hg6⟩ : ∃ g6 : AG, g6 = up g4 10 13 (max (leF (wS H mi j).1 H) ((wS H mi j).1 f + mi j)) := ⟨_, rfl⟩
    have v6 : g6 104 f = (wS H mi j).1 f + mi j := by rw [hg6, up_at, if_neg (by (try clear n0); (try clear n1); (try clear n2); (try clear n3); (try clear n4); (try clear n5); (try clear n6); omega)]; exact v4
    have v614 : g6 10 14 = (wS H mi j).2 := by
      rw [hg6, up_at, if_neg (by (try clear n0); (try clear n1); (try clear n2); (try clear n3); (try clear n4); (try clear n5); (try clear n6); omega), hg4, up_at, if_neg (by (try clear n0); (try clear n1); (try clear n2); (try clear n3); (try clear n4); (try clear n5); (try clear n6); omega)]; exact h3
    have n6 : nw (g6 104 f) = (wS H mi j).1 f + mi j := by
      rw [v6]
      clear n0 n1 n2 n3 n4 n5
      exact nw_id (by (try clear n0); (try clear n1); (try clear n2); (try clear n3); (try clear n4); (try clear n5); (try clear n6); omega) (by (try clear n0); (try clear n1); (try clear n2); (try clear n3); (try clear n4); (try clear n5); (try clear n6); omega)
    have wE : wS H mi (j + 1) = (fun h => if h = f then (wS H mi j).1 h + mi j else (wS H mi j).1 h, (wS H mi j).2 + (if (wS H mi j).1 f + mi j ≤ 900 then 0 else 1)) := by
      rw [hf]; rfl
    obtain ⟨g', e', f', r1, r2⟩ := ih (j + 1) f H (up g6 10 14 ((wS H mi j).2 + (if (wS H mi j).1 f + mi j ≤ 900 then 0 else 1))) (by (try clear n0); (try clear n1); (try clear n2); (try clear n3); (try clear n4); (try clear n5); (try clear n6); omega) ⟨by rw [up_at, if_neg (by (try clear n0); (try clear n1); (try clear n2); (try clear n3); (try clear n4); (try clear n5); (try clear n6); omega), hg6, up_at, if_neg (by (try clear n0); (try clear n1); (try clear n2); (try clear n3); (try clear n4); (try clear n5); (try clear n6); omega), hg4, up_at, if_neg (by (try clear n0); (try clear n1); (try clear n2); (try clear n3); (try clear n4); (try clear n5); (try clear n6); omega)]; exact X.1, fun i hi => by rw [up_at, if_neg (by (try clear n0); (try clear n1); (try clear n2); (try clear n3); (try clear n4); (try clear n5); (try clear n6); omega), hg6, up_at, if_neg (by (try clear n0); (try clear n1); (try clear n2); (try clear n3); (try clear n4); (try clear n5); (try clear n6); omega), hg4, up_at, if_neg (by (try clear n0); (try clear n1); (try clear n2); (try clear n3); (try clear n4); (try clear n5); (try clear n6); omega)]; exact X.2 i hi⟩ (fun h hh => by
      rw [wE, up_at, if_neg (by (try clear n0); (try clear n1); (try clear n2); (try clear n3); (try clear n4); (try clear n5); (try clear n6); omega), hg6, up_at, if_neg (by (try clear n0); (try clear n1); (try clear n2); (try clear n3); (try clear n4); (try clear n5); (try clear n6); omega), hg4, up_at]
      dsimp only
      by_cases z : h = f
      · rw [if_pos ⟨rfl, z⟩, if_pos z, z]
      · rw [if_neg (fun q => z q.2), if_neg z]; exact h1 h hh) (by
      rw [wE, up_at, if_neg (by (try clear n0); (try clear n1); (try clear n2); (try clear n3); (try clear n4); (try clear n5); (try clear n6); omega), hg6, up_at, if_pos ⟨rfl, rfl⟩]
      dsimp only
      rw [leF_up (by (try clear n0); (try clear n1); (try clear n2); (try clear n3); (try clear n4); (try clear n5); (try clear n6); omega) H (by (try clear n0); (try clear n1); (try clear n2); (try clear n3); (try clear n4); (try clear n5); (try clear n6); omega)]) (by
      rw [wE, up_at, if_pos ⟨rfl, rfl⟩])
    refine ⟨g', ?_, ?_, r1, r2⟩
    · rw [Yard_workInOrder_b.eq_1 _ 1, n0, n1, if_pos rfl, if_neg (by (try clear n0); (try clear n1); (try clear n2); (try clear n3); (try clear n4); (try clear n5); (try clear n6); omega), w2', Yard_workInOrder_b.eq_1 _ 2, n5, n3, n1, n4, n2, hfe, X.2 j (by (try clear n0); (try clear n1); (try clear n2); (try clear n3); (try clear n4); (try clear n5); (try clear n6); omega)]
      rw [if_neg (by decide), if_pos rfl, if_pos (Int.le_refl _), if_pos (by (try clear n0); (try clear n1); (try clear n2); (try clear n3); (try clear n4); (try clear n5); (try clear n6); omega), if_pos (by (try clear n0); (try clear n1); (try clear n2); (try clear n3); (try clear n4); (try clear n5); (try clear n6); omega), sb, ← hg4, mx, sb, ← hg6, n6, sb, v614, sb]
      exact e'
    · refine Fr.tr ?_ f'
      rw [hg6, hg4]
      exact Fr.up (Fr.up (Fr.up Fr.rf rfl) rfl) rfl
def MJ (g : AG) (mi : Nat → Int) (J : Nat) : Prop := g 117 87 = J ∧ ∀ j, j < J → g 178 j = mi j
theorem M_last_s {H : Nat} {g : AG} {e : Nat → Int} (hH : 1 ≤ H ∧ H ≤ 3) (he : ∀ h, h < H → g 179 h = e h ∧ 0 ≤ e h ∧ e h ≤ 10000) : ∀ (n k : Nat), k + n = H → M_lastEnd_b H g (leF e k) k = some (leF e H) := by
  intro n
  induction n with
  | zero =>
    intro k h
    rw [M_lastEnd_b, if_pos (by rw [nwN _ (by (try clear n0); (try clear n1); (try clear n2); (try clear n3); (try clear n4); omega), nwN _ (by (try clear n0); (try clear n1); (try clear n2); (try clear n3); (try clear n4); omega)]; omega), show k = H by (try clear n0); (try clear n1); (try clear n2); (try clear n3); (try clear n4); omega]
  | succ n ih =>
    intro k h
    have a := he k (by (try clear n0); (try clear n1); (try clear n2); (try clear n3); (try clear n4); omega)
    have lr := leF_rng (e := e) (B := 10000) (by (try clear n0); (try clear n1); (try clear n2); (try clear n3); (try clear n4); omega) k (fun x hx => (he x (by (try clear n0); (try clear n1); (try clear n2); (try clear n3); (try clear n4); omega)).2.2)
    have e2 := ih (k + 1) (by (try clear n0); (try clear n1); (try clear n2); (try clear n3); (try clear n4); omega)
    have n0 : nw (H : Int) = H := nwN _ (by (try clear n0); (try clear n1); (try clear n2); (try clear n3); (try clear n4); omega)
    have n1 : nw (k : Int) = k := nwN _ (by (try clear n0); (try clear n1); (try clear n2); (try clear n3); (try clear n4); omega)
    have n2 : ix (k : Int) = k := ixN _ (by (try clear n0); (try clear n1); (try clear n2); (try clear n3); (try clear n4); omega)
    have n3 : nw (e k) = e k := by clear n0 n1 n2; exact nw_id (by (try clear n0); (try clear n1); (try clear n2); (try clear n3); (try clear n4); omega) (by (try clear n0); (try clear n1); (try clear n2); (try clear n3); (try clear n4); omega)
    have n4 : nw (leF e k) = leF e k := by clear n0 n1 n2 n3; exact nw_id (by (try clear n0); (try clear n1); (try clear n2); (try clear n3); (try clear n4); omega) (by (try clear n0); (try clear n1); (try clear n2); (try clear n3); (try clear n4); omega)
    rw [M_lastEnd_b, n0, n1, n2, a.1, n3, n4]
    clear n0 n1 n2 n3 n4
    rw [if_neg (by (try clear n0); (try clear n1); (try clear n2); (try clear n3); (try clear n4); omega), if_pos (by (try clear n0); (try clear n1); (try clear n2); (try clear n3); (try clear n4); omega)]
    have s : (if e k ≤ leF e k then some (leF e k) else some (e k)) = some (leF e (k + 1)) := by
      conv => rhs; unfold leF
      split
      · rw [show max (leF e k) (e k) = leF e k by (try clear n0); (try clear n1); (try clear n2); (try clear n3); (try clear n4); omega]
      · rw [show max (leF e k) (e k) = e k by (try clear n0); (try clear n1); (try clear n2); (try clear n3); (try clear n4); omega]
    rw [s, sb]
    exact e2
theorem M_work3_s {H J j : Nat} {mi : Nat → Int} {g : AG} {e : Nat → Int} (hH : 1 ≤ H ∧ H ≤ 3) (he : ∀ h, h < H → g 179 h = e h ∧ 0 ≤ e h ∧ e h ≤ 10000) : ∀ (n k : Nat), k + n = H - 1 → M_worked_b H 3 j (frL e k : Nat) ((k : Int) + 1) g = M_worked_b H 3 j (frL e (H - 1) : Nat) H g := by
  intro n
  induction n with
  | zero =>
    intro k h
    rw [show k = H - 1 by (try clear n0); (try clear n1); (try clear n2); (try clear n3); (try clear n4); (try clear n5); (try clear n6); omega, show ((H - 1 : Nat) : Int) + 1 = H by (try clear n0); (try clear n1); (try clear n2); (try clear n3); (try clear n4); (try clear n5); (try clear n6); omega]
  | succ n ih =>
    intro k h
    have l := frL_le e k
    have a := he (frL e k) (by (try clear n0); (try clear n1); (try clear n2); (try clear n3); (try clear n4); (try clear n5); (try clear n6); omega)
    have b := he (k + 1) (by (try clear n0); (try clear n1); (try clear n2); (try clear n3); (try clear n4); (try clear n5); (try clear n6); omega)
    have e2 := ih (k + 1) (by (try clear n0); (try clear n1); (try clear n2); (try clear n3); (try clear n4); (try clear n5); (try clear n6); omega)
    have n0 : nw (H : Int) = H := nwN _ (by (try clear n0); (try clear n1); (try clear n2); (try clear n3); (try clear n4); (try clear n5); (try clear n6); omega)
    have n1 : nw ((k : Int) + 1) = (k + 1 : Nat) := nwN (k + 1) (by (try clear n0); (try clear n1); (try clear n2); (try clear n3); (try clear n4); (try clear n5); (try clear n6); omega)
    have n2 : ix ((k : Int) + 1) = k + 1 := ixN (k + 1) (by (try clear n0); (try clear n1); (try clear n2); (try clear n3); (try clear n4); (try clear n5); (try clear n6); omega)
    have n3 : nw ((frL e k : Nat) : Int) = (frL e k : Nat) := nwN _ (by (try clear n0); (try clear n1); (try clear n2); (try clear n3); (try clear n4); (try clear n5); (try clear n6); omega)
    have n4 : ix ((frL e k : Nat) : Int) = frL e k := ixN _ (by (try clear n0); (try clear n1); (try clear n2); (try clear n3); (try clear n4); (try clear n5); (try clear n6); omega)
    have n5 : nw (e (frL e k)) = e (frL e k) := by clear n0 n1 n2 n3 n4; exact nw_id (by (try clear n0); (try clear n1); (try clear n2); (try clear n3); (try clear n4); (try clear n5); (try clear n6); omega) (by (try clear n0); (try clear n1); (try clear n2); (try clear n3); (try clear n4); (try clear n5); (try clear n6); omega)
    have n6 : nw (e (k + 1)) = e (k + 1) := by clear n0 n1 n2 n3 n4 n5; exact nw_id (by (try clear n0); (try clear n1); (try clear n2); (try clear n3); (try clear n4); (try clear n5); (try clear n6); omega) (by (try clear n0); (try clear n1); (try clear n2); (try clear n3); (try clear n4); (try clear n5); (try clear n6); omega)
    rw [M_worked_b.eq_1 _ 3, n0, n1, n2, n3, n4, a.1, b.1, n5, n6]
    clear n0 n1 n2 n3 n4 n5 n6
    rw [if_neg (by decide), if_neg (by decide), if_pos rfl, if_neg (by (try clear n0); (try clear n1); (try clear n2); (try clear n3); (try clear n4); (try clear n5); (try clear n6); omega), if_pos (by (try clear n0); (try clear n1); (try clear n2); (try clear n3); (try clear n4); (try clear n5); (try clear n6); omega), if_pos (by (try clear n0); (try clear n1); (try clear n2); (try clear n3); (try clear n4); (try clear n5); (try clear n6); omega), sb]
    have s : (if e (frL e k) ≤ e (k + 1) then ((frL e k : Nat) : Int) else (k : Int) + 1) = ((frL e (k + 1) : Nat) : Int) := by
      conv => rhs; unfold frL
      split <;> rfl
    rw [s]
    exact e2
theorem M_work2_s {H J : Nat} {mi : Nat → Int} (K : JbOk mi J) (hH : 1 ≤ H ∧ H ≤ 3) : ∀ (n j : Nat) (x3 x4 : Int) (g : AG), j + n = J → MJ g mi J → (∀ h, h < H → g 179 h = (wS H mi j).1 h) → g 117 90 = (wS H mi j).2 → ∃ g', M_worked_b H 2 j x3 x4 g = some (leF (wS H mi J).1 H, g') ∧ FR [(117, 91), (179, 0)] g g' ∧ g' 117 90 = (wS H mi J).2 := by
  intro n
  induction n with
  | zero =>
    intro j x3 x4 g h X h1 h3
    have hJ := K.1
    have r := wS_rng (H := H) K j (by (try clear n0); (try clear n1); (try clear n2); (try clear n3); (try clear n4); (try clear n5); (try clear n6); omega)
    have hj : j = J := by (try clear n0); (try clear n1); (try clear n2); (try clear n3); (try clear n4); (try clear n5); (try clear n6); omega
    subst hj
    refine ⟨g, ?_, Fr.rf, h3⟩
    have l : M_lastEnd H g = some (leF (wS H mi j).1 H) := M_last_s (e := (wS H mi j).1) hH (fun h hh => ⟨h1 h hh, by have := r.1 h; omega, by have := r.1 h; omega⟩) H 0 (by (try clear n0); (try clear n1); (try clear n2); (try clear n3); (try clear n4); (try clear n5); (try clear n6); omega)
    rw [M_worked_b.eq_1 _ 2, if_neg (by decide), if_pos rfl, if_pos (by rw [X.1, nwN _ (by (try clear n0); (try clear n1); (try clear n2); (try clear n3); (try clear n4); (try clear n5); (try clear n6); omega)]; omega), l, sb]
  | succ n ih =>
    intro j x3 x4 g h X h1 h3
    have hJ := K.1
    have r := wS_rng (H := H) K j (by (try clear n0); (try clear n1); (try clear n2); (try clear n3); (try clear n4); (try clear n5); (try clear n6); omega)
    have m := K.2 j (by (try clear n0); (try clear n1); (try clear n2); (try clear n3); (try clear n4); (try clear n5); (try clear n6); omega)
    have fl := frL_le (wS H mi j).1 (H - 1)
    have rf := r.1 (frL (wS H mi j).1 (H - 1))
    have w2 := M_work3_s (J := J) (j := j) (mi := mi) (g := g) (e := (wS H mi j).1) hH (fun h hh => ⟨h1 h hh, by have := r.1 h; omega, by have := r.1 h; omega⟩) (H - 1) 0 (by (try clear n0); (try clear n1); (try clear n2); (try clear n3); (try clear n4); (try clear n5); (try clear n6); omega)
    obtain ⟨f, hf⟩ : ∃ f, f = frL (wS H mi j).1 (H - 1) := ⟨_, rfl⟩
    rw [← hf] at w2 fl rf
    have w2' : M_worked_b H 3 j 0 1 g = M_worked_b H 3 j f H g := w2
    have n0 : nw (g 117 87) = J := by rw [X.1, nwN _ (by (try clear n0); (try clear n1); (try clear n2); (try clear n3); (try clear n4); (try clear n5); (try clear n6); omega)]
    have n1 : nw (j : Int) = j := nwN _ (by (try clear n0); (try clear n1); (try clear n2); (try clear n3); (try clear n4); (try clear n5); (try clear n6); omega)
    have n2 : ix (j : Int) = j := ixN _ (by (try clear n0); (try clear n1); (try clear n2); (try clear n3); (try clear n4); (try clear n5); (try clear n6); omega)
    have n3 : nw (f : Int) = f := nwN _ (by (try clear n0); (try clear n1); (try clear n2); (try clear n3); (try clear n4); (try clear n5); (try clear n6); omega)
    have n4 : ix (f : Int) = f := ixN _ (by (try clear n0); (try clear n1); (try clear n2); (try clear n3); (try clear n4); (try clear n5); (try clear n6); omega)
    have n5 : nw (H : Int) = H := nwN _ (by (try clear n0); (try clear n1); (try clear n2); (try clear n3); (try clear n4); (try clear n5); (try clear n6); omega)
    have hfe := h1 f (by (try clear n0); (try clear n1); (try clear n2); (try clear n3); (try clear n4); (try clear n5); (try clear n6); omega)
    obtain ⟨g4, hg4⟩ : ∃ g4 : AG, g4 = up g 179 f ((wS H mi j).1 f + mi j) := ⟨_, rfl⟩
    have v4 : g4 179 f = (wS H mi j).1 f + mi j := by rw [hg4, up_at, if_pos ⟨rfl, rfl⟩]
    have v490 : g4 117 90 = (wS H mi j).2 := by
      rw [hg4, up_at, if_neg (by (try clear n0); (try clear n1); (try clear n2); (try clear n3); (try clear n4); (try clear n5); (try clear n6); omega)]; exact h3
    have n6 : nw (g4 179 f) = (wS H mi j).1 f + mi j := by
      rw [v4]
      clear n0 n1 n2 n3 n4 n5
      exact nw_id (by (try clear n0); (try clear n1); (try clear n2); (try clear n3); (try clear n4); (try clear n5); (try clear n6); omega) (by (try clear n0); (try clear n1); (try clear n2); (try clear n3); (try clear n4); (try clear n5); (try clear n6); omega)
    have wE : wS H mi (j + 1) = (fun h => if h = f then (wS H mi j).1 h + mi j else (wS H mi j).1 h, (wS H mi j).2 + (if (wS H mi j).1 f + mi j ≤ 900 then 0 else 1)) := by
      rw [hf]; rfl
    obtain ⟨g', e', f', r2⟩ := ih (j + 1) f H (up g4 117 90 ((wS H mi j).2 + (if (wS H mi j).1 f + mi j ≤ 900 then 0 else 1))) (by (try clear n0); (try clear n1); (try clear n2); (try clear n3); (try clear n4); (try clear n5); (try clear n6); omega) ⟨by rw [up_at, if_neg (by (try clear n0); (try clear n1); (try clear n2); (try clear n3); (try clear n4); (try clear n5); (try clear n6); omega), hg4, up_at, if_neg (by (try clear n0); (try clear n1); (try clear n2); (try clear n3); (try clear n4); (try clear n5); (try clear n6); omega)]; exact X.1, fun i hi => by rw [up_at, if_neg (by (try clear n0); (try clear n1); (try clear n2); (try clear n3); (try clear n4); (try clear n5); (try clear n6); omega), hg4, up_at, if_neg (by (try clear n0); (try clear n1); (try clear n2); (try clear n3); (try clear n4); (try clear n5); (try clear n6); omega)]; exact X.2 i hi⟩ (fun h hh => by
      rw [wE, up_at, if_neg (by (try clear n0); (try clear n1); (try clear n2); (try clear n3); (try clear n4); (try clear n5); (try clear n6); omega), hg4, up_at]
      dsimp only
      by_cases z : h = f
      · rw [if_pos ⟨rfl, z⟩, if_pos z, z]
      · rw [if_neg (fun q => z q.2), if_neg z]; exact h1 h hh) (by
      rw [wE, up_at, if_pos ⟨rfl, rfl⟩])
    refine ⟨g', ?_, ?_, r2⟩
    · rw [M_worked_b.eq_1 _ 2, n0, n1, if_neg (by decide), if_pos rfl, if_neg (by (try clear n0); (try clear n1); (try clear n2); (try clear n3); (try clear n4); (try clear n5); (try clear n6); omega), w2', M_worked_b.eq_1 _ 3, n5, n3, n1, n4, n2, hfe, X.2 j (by (try clear n0); (try clear n1); (try clear n2); (try clear n3); (try clear n4); (try clear n5); (try clear n6); omega)]
      rw [if_neg (by decide), if_neg (by decide), if_pos rfl, if_pos (Int.le_refl _), if_pos (by (try clear n0); (try clear n1); (try clear n2); (try clear n3); (try clear n4); (try clear n5); (try clear n6); omega), if_pos (by (try clear n0); (try clear n1); (try clear n2); (try clear n3); (try clear n4); (try clear n5); (try clear n6); omega), sb, ← hg4, n6, sb, v490, sb]
      exact e'
    · refine Fr.tr ?_ f'
      rw [hg4]
      exact Fr.up (Fr.up Fr.rf rfl) rfl
theorem M_work1_s {H : Nat} (hH : 1 ≤ H ∧ H ≤ 3) : ∀ (n k : Nat) (g : AG), k + n = H → (∀ h, h < k → g 179 h = 600) → ∃ g', M_worked_b H 1 k 0 0 g = M_worked_b H 2 0 0 0 g' ∧ FR [(179, 0)] g g' ∧ ∀ h, h < H → g' 179 h = 600 := by
  intro n
  induction n with
  | zero =>
    intro k g h q
    refine ⟨g, ?_, Fr.rf, fun h hh => q h (by (try clear n0); (try clear n1); (try clear n2); omega)⟩
    rw [M_worked_b.eq_1 _ 1, if_pos rfl, if_pos (by rw [nwN _ (by (try clear n0); (try clear n1); (try clear n2); omega), nwN _ (by (try clear n0); (try clear n1); (try clear n2); omega)]; omega)]
  | succ n ih =>
    intro k g h q
    obtain ⟨g', e, f, r⟩ := ih (k + 1) (up g 179 k 600) (by (try clear n0); (try clear n1); (try clear n2); omega) (fun h hh => by
      rw [up_at]
      by_cases z : h = k
      · rw [if_pos ⟨rfl, z⟩]
      · rw [if_neg (by (try clear n0); (try clear n1); (try clear n2); omega)]; exact q h (by (try clear n0); (try clear n1); (try clear n2); omega))
    refine ⟨g', ?_, (Fr.up Fr.rf rfl).tr f, r⟩
    have n0 : nw (H : Int) = H := nwN _ (by (try clear n0); (try clear n1); (try clear n2); omega)
    have n1 : nw (k : Int) = k := nwN _ (by (try clear n0); (try clear n1); (try clear n2); omega)
    have n2 : ix (k : Int) = k := ixN _ (by (try clear n0); (try clear n1); (try clear n2); omega)
    rw [M_worked_b.eq_1 _ 1, n0, n1, n2]
    clear n0 n1 n2
    rw [if_pos rfl, if_neg (by (try clear n0); (try clear n1); (try clear n2); omega), if_pos (by (try clear n0); (try clear n1); (try clear n2); omega), sb]
    exact e
theorem M_worked_s {H J : Nat} {mi : Nat → Int} (K : JbOk mi J) (hH : 1 ≤ H ∧ H ≤ 3) {g : AG} (X : MJ g mi J) : ∃ g', M_worked H g = some (leF (wS H mi J).1 H, g') ∧ FR [(117, 91), (179, 0)] g g' ∧ g' 117 90 = (wS H mi J).2 := by
  obtain ⟨g1, e1, f1, r1⟩ := M_work1_s hH H 0 (up g 117 90 0) (by omega) (fun h hh => by omega)
  have f01 : FR [(117, 91), (179, 0)] g g1 := (Fr.up Fr.rf rfl).tr (FR.mo f1 rfl)
  obtain ⟨g2, e2, f2, r2⟩ := M_work2_s K hH J 0 0 0 g1 (by omega) ⟨by rw [f01 117 87 rfl]; exact X.1, fun j hj => by rw [f01 178 j rfl]; exact X.2 j hj⟩ (fun h hh => by rw [r1 h hh]; rfl) (by rw [f1 117 90 rfl, up_at, if_pos ⟨rfl, rfl⟩]; rfl)
  refine ⟨g2, ?_, f01.tr f2, r2⟩
  unfold M_worked
  rw [sb]
  have e1' : M_worked_b H 1 0 0 0 (up g 117 90 0) = M_worked_b H 2 0 0 0 g1 := e1
  rw [e1']
  exact e2
theorem X_worked_s {H J : Nat} {mi : Nat → Int} (K : JbOk mi J) (hH : 1 ≤ H ∧ H ≤ 3) {g : AG} (X : XJ g mi J) : ∃ g', Yard_workInOrder H g = some (0, g') ∧ FR [(10, 14), (10, 15), (104, 0)] g g' ∧ g' 10 13 = leF (wS H mi J).1 H ∧ g' 10 14 = (wS H mi J).2 := by
  obtain ⟨g5, hg5⟩ : ∃ g5 : AG, g5 = up (up (fillG g 104 3 600) 10 13 600) 10 14 0 := ⟨_, rfl⟩
  have f5 : FR [(10, 14), (10, 15), (104, 0)] g g5 := by rw [hg5]; exact Fr.up (Fr.up (Fr.fill Fr.rf (fun _ => rfl)) rfl) rfl
  have l0 : ∀ h : Nat, leF (wS H mi 0).1 h = 600 := by
    intro h
    have := leF_rng (e := (wS H mi 0).1) (B := 600) (by omega) h (fun x _ => Int.le_refl _)
    omega
  obtain ⟨g2, e2, f2, r1, r2⟩ := X_work_s K hH J 0 0 0 g5 (by omega) ⟨by rw [f5 10 7 rfl]; exact X.1, fun j hj => by rw [f5 103 j rfl]; exact X.2 j hj⟩ (fun h hh => by
    rw [hg5, up_at, if_neg (by omega), up_at, if_neg (by omega), fill_at, if_pos ⟨rfl, hh⟩]; rfl) (by rw [l0, hg5, up_at, if_neg (by omega), up_at, if_pos ⟨rfl, rfl⟩]) (by rw [hg5, up_at, if_pos ⟨rfl, rfl⟩]; rfl)
  refine ⟨g2, ?_, f5.tr f2, r1, r2⟩
  unfold Yard_workInOrder
  rw [sb, sb, sb, ← hg5]
  exact e2
end
section
/-! plain programs: turning round, the best way; the class -/
def dg (H : Nat) : Nat → Nat → Nat → Nat
  | 0, _, _ => 0
  | j + 1, n, i => if i = j then n % H else dg H j (n / H) i
theorem dg_child {H j n h i : Nat} (hh : h < H) : dg H (j + 1) (n * H + h) i = if i = j then h else dg H j n i := by
  have e1 : (n * H + h) % H = h := by rw [Nat.mul_comm, Nat.mul_add_mod]; exact Nat.mod_eq_of_lt hh
  have e2 : (n * H + h) / H = n := by rw [Nat.mul_comm n H, Nat.mul_add_div (by omega), Nat.div_eq_of_lt hh]; rfl
  conv => lhs; unfold dg
  rw [e1, e2]
def qe (mi : Nat → Int) (D : Nat → Nat) : Nat → Nat → Int
  | 0, _ => 600
  | j + 1, h => if h = D j then qe mi D j h + mi j else qe mi D j h
theorem qe_cg {mi : Nat → Int} {D D' : Nat → Nat} : ∀ j : Nat, (∀ i, i < j → D i = D' i) → ∀ h, qe mi D j h = qe mi D' j h
  | 0, _, _ => rfl
  | j + 1, q, h => by
    unfold qe
    rw [qe_cg (mi := mi) j (fun i hi => q i (by omega)) h, q j (by omega)]
theorem qe_rng {mi : Nat → Int} {J : Nat} (K : JbOk mi J) {D : Nat → Nat} : ∀ j : Nat, j ≤ J → ∀ h, 600 ≤ qe mi D j h ∧ qe mi D j h ≤ 600 + 300 * j
  | 0, _, _ => by unfold qe; omega
  | j + 1, q, h => by
    have := qe_rng K (D := D) j (by omega) h
    have := K.2 j (by omega)
    unfold qe
    split <;> omega
theorem qe_child {mi : Nat → Int} {H j n h : Nat} (hh : h < H) : qe mi (dg H (j + 1) (n * H + h)) (j + 1) = fun x => if x = h then qe mi (dg H j n) j x + mi j else qe mi (dg H j n) j x := by
  funext x
  have e : ∀ x, qe mi (dg H (j + 1) (n * H + h)) j x = qe mi (dg H j n) j x := qe_cg j (fun i hi => by rw [dg_child hh, if_neg (by omega)])
  conv => lhs; unfold qe
  rw [e, dg_child hh, if_pos rfl]
abbrev TB : Type := Option (Int × Nat)
def tU (v : Nat → Int) (w : Nat) (s : TB) : TB :=
  match s with
  | none => some (v w, w)
  | some p => if v w < p.1 then some (v w, w) else some p
def tR {S : Type} (rec : Nat → S → S) : Nat → Nat → S → S
  | 0, _, s => s
  | k + 1, h, s => tR rec k (h + 1) (rec h s)
def tT (H : Nat) (v : Nat → Int) : Nat → Nat → TB → TB
  | 0, n, s => tU v n s
  | d + 1, n, s => tR (fun h s => tT H v d (n * H + h) s) H 0 s
def tF (v : Nat → Int) : Nat → Nat → TB → TB
  | 0, _, s => s
  | n + 1, lo, s => tF v n (lo + 1) (tU v lo s)
theorem tF_add {v : Nat → Int} : ∀ (a b lo : Nat) (s : TB), tF v (a + b) lo s = tF v b (lo + a) (tF v a lo s)
  | 0, b, lo, s => by rw [show 0 + b = b by omega]; rfl
  | a + 1, b, lo, s => by
    rw [show a + 1 + b = (a + b) + 1 by omega]
    show tF v (a + b) (lo + 1) (tU v lo s) = tF v b (lo + (a + 1)) (tF v a (lo + 1) (tU v lo s))
    rw [tF_add a b (lo + 1), show lo + 1 + a = lo + (a + 1) by omega]
theorem tF_tT {H : Nat} {v : Nat → Int} : ∀ (d n : Nat) (s : TB), tF v (H ^ d) (n * H ^ d) s = tT H v d n s
  | 0, n, s => by
    show tF v 1 (n * 1) s = tU v n s
    rw [Nat.mul_one]
    rfl
  | d + 1, n, s => by
    have ch : ∀ (k h : Nat) (s : TB), tF v (k * H ^ d) ((n * H + h) * H ^ d) s = tR (fun h s => tT H v d (n * H + h) s) k h s := by
      intro k
      induction k with
      | zero => intro h s; rw [Nat.zero_mul]; rfl
      | succ k ih =>
        intro h s
        rw [show (k + 1) * H ^ d = H ^ d + k * H ^ d by rw [Nat.succ_mul, Nat.add_comm], tF_add, tF_tT d (n * H + h)]
        have := ih (h + 1) (tT H v d (n * H + h) s)
        rw [show (n * H + (h + 1)) * H ^ d = (n * H + h) * H ^ d + H ^ d by rw [← Nat.add_assoc, Nat.succ_mul]] at this
        exact this
    have := ch H 0 s
    rw [show (n * H + 0) * H ^ d = n * H ^ (d + 1) by rw [Nat.add_zero, Nat.mul_assoc, Nat.pow_succ, Nat.mul_comm H], show H * H ^ d = H ^ (d + 1) by rw [Nat.pow_succ, Nat.mul_comm]] at this
    exact this
def tV (mi : Nat → Int) (H J : Nat) (w : Nat) : Int := leF (qe mi (dg H J w) J) H
theorem le_child {mi : Nat → Int} {J H j n h : Nat} (K : JbOk mi J) (hj : j < J) (hh : h < H) : leF (qe mi (dg H (j + 1) (n * H + h)) (j + 1)) H = max (leF (qe mi (dg H j n) j) H) (qe mi (dg H j n) j h + mi j) := by
  have := K.2 j hj
  rw [qe_child hh, leF_up (by omega) H hh]
theorem tR_same {S : Type} {rec : Nat → S → S} {s : S} {H : Nat} (q : ∀ h, h < H → rec h s = s) : ∀ k h : Nat, h + k ≤ H → tR rec k h s = s
  | 0, _, _ => rfl
  | k + 1, h, y => by
    unfold tR
    rw [q h (by omega)]
    exact tR_same q k (h + 1) (by omega)
theorem tT_prune {mi : Nat → Int} {J H : Nat} (K : JbOk mi J) : ∀ (d j n : Nat) (p : Int × Nat), j + d = J → p.1 ≤ leF (qe mi (dg H j n) j) H → tT H (tV mi H J) d n (some p) = some p
  | 0, j, n, p, h, hp => by
    unfold tT tU tV
    dsimp only
    rw [show J = j by omega, if_neg (by omega)]
  | d + 1, j, n, p, h, hp => by
    unfold tT
    refine tR_same (H := H) (fun h hh => ?_) H 0 (by omega)
    refine tT_prune K d (j + 1) (n * H + h) p (by omega) ?_
    rw [le_child K (by omega) hh]
    omega
def XTB (g : AG) (H J : Nat) (s : TB) : Prop := (s = none ∧ g 10 12 = 3001) ∨ ∃ p, s = some p ∧ g 10 12 = p.1 ∧ (600 ≤ p.1 ∧ p.1 ≤ 10000) ∧ ∀ i, i < J → g 106 i = (dg H J p.2 i : Nat)
abbrev RXS : Reg := [(10, 13), (104, 0), (105, 0), (106, 0)]
theorem XJ.fr {g g' : AG} {mi : Nat → Int} {J : Nat} (h : XJ g mi J) (f : FR RXS g g') : XJ g' mi J := ⟨by rw [f 10 7 rfl]; exact h.1, fun j hj => by rw [f 103 j rfl]; exact h.2 j hj⟩
theorem X_share_t {mi : Nat → Int} {J H : Nat} (K : JbOk mi J) (hH : 1 ≤ H ∧ H ≤ 3) : ∀ (d f j n : Nat) (s : TB) (g : AG), j + d = J → d + 1 ≤ f → XJ g mi J → (∀ i, i < j → g 105 i = (dg H j n i : Nat)) → (∀ h, h < H → g 104 h = qe mi (dg H j n) j h) → XTB g H J s → ∃ g', Yard_shareNext f j H (leF (qe mi (dg H j n) j) H) g = some (0, g') ∧ FR RXS g g' ∧ (∀ i, i < j → g' 105 i = g 105 i) ∧ (∀ h, h < H → g' 104 h = g 104 h) ∧ XTB g' H J (tT H (tV mi H J) d n s) := by
  intro d
  induction d with
  | zero =>
    intro f j n s g h hf X hD hE B
    obtain ⟨f, rfl⟩ : ∃ f', f = f' + 1 := ⟨f - 1, by (try clear n0); (try clear n1); (try clear n2); (try clear n3); (try clear n4); (try clear take); (try clear n5); (try clear top); (try clear n6); (try clear fl); omega⟩
    have hJ := K.1
    have ej : j = J := by (try clear n0); (try clear n1); (try clear n2); (try clear n3); (try clear n4); (try clear take); (try clear n5); (try clear top); (try clear n6); (try clear fl); omega
    subst ej
    have r := qe_rng K (D := dg H j n) j (by (try clear n0); (try clear n1); (try clear n2); (try clear n3); (try clear n4); (try clear take); (try clear n5); (try clear top); (try clear n6); (try clear fl); omega)
    have lr := leF_rng (e := qe mi (dg H j n) j) (B := 600 + 300 * j) (by (try clear n0); (try clear n1); (try clear n2); (try clear n3); (try clear n4); (try clear take); (try clear n5); (try clear top); (try clear n6); (try clear fl); omega) H (fun x _ => (r x).2)
    have lv : leF (qe mi (dg H j n) j) H = tV mi H j n := rfl
    obtain ⟨v, hv⟩ : ∃ v, v = tV mi H j n := ⟨_, rfl⟩
    rw [lv, ← hv] at lr
    rw [lv, ← hv]
    have n0 : nw (g 10 7) = j := by rw [X.1, nwN _ (by (try clear n0); (try clear n1); (try clear n2); (try clear n3); (try clear n4); (try clear take); (try clear n5); (try clear top); (try clear n6); (try clear fl); omega)]
    have n1 : nw (j : Int) = j := nwN _ (by (try clear n0); (try clear n1); (try clear n2); (try clear n3); (try clear n4); (try clear take); (try clear n5); (try clear top); (try clear n6); (try clear fl); omega)
    have n2 : ix (g 10 7) = j := by rw [X.1, ixN _ (by (try clear n0); (try clear n1); (try clear n2); (try clear n3); (try clear n4); (try clear take); (try clear n5); (try clear top); (try clear n6); (try clear fl); omega)]
    have n3 : ix 0 = 0 := ixN 0 (by (try clear n0); (try clear n1); (try clear n2); (try clear n3); (try clear n4); (try clear take); (try clear n5); (try clear top); (try clear n6); (try clear fl); omega)
    have n4 : nw v = v := by clear n0 n1 n2 n3; exact nw_id (by (try clear n0); (try clear n1); (try clear n2); (try clear n3); (try clear n4); (try clear take); (try clear n5); (try clear top); (try clear n6); (try clear fl); omega) (by (try clear n0); (try clear n1); (try clear n2); (try clear n3); (try clear n4); (try clear take); (try clear n5); (try clear top); (try clear n6); (try clear fl); omega)
    have take : Yard_shareNext_s (Yard_shareNext f) j H v g = (if v < nw (g 10 12) then some (0, copyG (up g 10 12 v) 105 0 106 0 j) else some (0, g)) := by
      unfold Yard_shareNext_s
      have u : (up g 10 12 v) 10 7 = g 10 7 := by rw [up_at, if_neg (by (try clear n0); (try clear n1); (try clear n2); (try clear n3); (try clear n4); (try clear take); (try clear n5); (try clear top); (try clear n6); (try clear fl); omega)]
      rw [n4, n0, n1, if_neg (show ¬ (j : Int) < j from Int.lt_irrefl _), sb, u, n0, n2, n3, if_pos (show 0 ≤ 0 ∧ 0 ≤ 0 ∧ 0 ≤ (j : Int) ∧ 0 + (j : Int) ≤ 8 ∧ 0 + (j : Int) ≤ 8 by (try clear n0); (try clear n1); (try clear n2); (try clear n3); (try clear n4); (try clear take); (try clear n5); (try clear top); (try clear n6); (try clear fl); omega), sb]
    clear n0 n1 n2 n3 n4
    have fr : FR RXS g (copyG (up g 10 12 v) 105 0 106 0 j) := by
      intro a b hab
      have z : ¬ (a = 106 ∧ 0 ≤ b ∧ b < 0 + j) := fun q => by rw [q.1] at hab; cases hab
      show (if a = 106 ∧ 0 ≤ b ∧ b < 0 + j then _ else _) = _
      rw [if_neg z, up_at, if_neg (fun q => by rw [q.1, q.2] at hab; cases hab)]
    have got : XTB (copyG (up g 10 12 v) 105 0 106 0 j) H j (some (v, n)) := by
      refine Or.inr ⟨_, rfl, ?_, ?_, fun i hi => ?_⟩
      · show (if 10 = 106 ∧ 0 ≤ 12 ∧ 12 < 0 + j then _ else _) = _
        rw [if_neg (by (try clear n0); (try clear n1); (try clear n2); (try clear n3); (try clear n4); (try clear take); (try clear n5); (try clear top); (try clear n6); (try clear fl); omega), up_at, if_pos ⟨rfl, rfl⟩]
      · dsimp only; (try clear n0); (try clear n1); (try clear n2); (try clear n3); (try clear n4); (try clear take); (try clear n5); (try clear top); (try clear n6); (try clear fl); omega
      · show (if 106 = 106 ∧ 0 ≤ i ∧ i < 0 + j then _ else _) = _
        rw [if_pos (by (try clear n0); (try clear n1); (try clear n2); (try clear n3); (try clear n4); (try clear take); (try clear n5); (try clear top); (try clear n6); (try clear fl); omega), up_at, if_neg (by (try clear n0); (try clear n1); (try clear n2); (try clear n3); (try clear n4); (try clear take); (try clear n5); (try clear top); (try clear n6); (try clear fl); omega), show 0 + (i - 0) = i by (try clear n0); (try clear n1); (try clear n2); (try clear n3); (try clear n4); (try clear take); (try clear n5); (try clear top); (try clear n6); (try clear fl); omega]
        exact hD i hi
    have k105 : ∀ i, i < j → (copyG (up g 10 12 v) 105 0 106 0 j) 105 i = g 105 i := fun i hi => by
      show (if 105 = 106 ∧ 0 ≤ i ∧ i < 0 + j then _ else _) = _
      rw [if_neg (by (try clear n0); (try clear n1); (try clear n2); (try clear n3); (try clear n4); (try clear take); (try clear n5); (try clear top); (try clear n6); (try clear fl); omega), up_at, if_neg (by (try clear n0); (try clear n1); (try clear n2); (try clear n3); (try clear n4); (try clear take); (try clear n5); (try clear top); (try clear n6); (try clear fl); omega)]
    have k104 : ∀ h, h < H → (copyG (up g 10 12 v) 105 0 106 0 j) 104 h = g 104 h := fun i hi => by
      show (if 104 = 106 ∧ 0 ≤ i ∧ i < 0 + j then _ else _) = _
      rw [if_neg (by (try clear n0); (try clear n1); (try clear n2); (try clear n3); (try clear n4); (try clear take); (try clear n5); (try clear top); (try clear n6); (try clear fl); omega), up_at, if_neg (by (try clear n0); (try clear n1); (try clear n2); (try clear n3); (try clear n4); (try clear take); (try clear n5); (try clear top); (try clear n6); (try clear fl); omega)]
    have top : Yard_shareNext (f + 1) j H v g = Yard_shareNext_s (Yard_shareNext f) j H v g := rfl
    unfold tT tU
    rcases B with ⟨e1, e2⟩ | ⟨p, e1, e2, e3, e4⟩
    · subst e1
      have n5 : nw (3001 : Int) = 3001 := nw_id (by decide) (by decide)
      dsimp only
      rw [← hv]
      exact ⟨_, by rw [top, take, e2, n5, if_pos (by (try clear n0); (try clear n1); (try clear n2); (try clear n3); (try clear n4); (try clear take); (try clear n5); (try clear top); (try clear n6); (try clear fl); omega)], fr, k105, k104, got⟩
    · subst e1
      have n5 : nw p.1 = p.1 := nw_id (by (try clear n0); (try clear n1); (try clear n2); (try clear n3); (try clear n4); (try clear take); (try clear n5); (try clear top); (try clear n6); (try clear fl); omega) (by (try clear n0); (try clear n1); (try clear n2); (try clear n3); (try clear n4); (try clear take); (try clear n5); (try clear top); (try clear n6); (try clear fl); omega)
      dsimp only
      rw [← hv]
      by_cases z : v < p.1
      · rw [if_pos z]
        exact ⟨_, by rw [top, take, e2, n5, if_pos z], fr, k105, k104, got⟩
      · rw [if_neg z]
        exact ⟨g, by rw [top, take, e2, n5, if_neg z], Fr.rf, fun i _ => rfl, fun i _ => rfl, Or.inr ⟨p, rfl, e2, e3, e4⟩⟩
  | succ d ih =>
    intro f j n s g h hf X hD hE B
    obtain ⟨f, rfl⟩ : ∃ f', f = f' + 1 := ⟨f - 1, by (try clear n0); (try clear n1); (try clear n2); (try clear n3); (try clear n4); (try clear take); (try clear n5); (try clear top); (try clear n6); (try clear fl); omega⟩
    have hJ := K.1
    have m := K.2 j (by (try clear n0); (try clear n1); (try clear n2); (try clear n3); (try clear n4); (try clear take); (try clear n5); (try clear top); (try clear n6); (try clear fl); omega)
    have r := qe_rng K (D := dg H j n) j (by (try clear n0); (try clear n1); (try clear n2); (try clear n3); (try clear n4); (try clear take); (try clear n5); (try clear top); (try clear n6); (try clear fl); omega)
    have lr := leF_rng (e := qe mi (dg H j n) j) (B := 600 + 300 * j) (by (try clear n0); (try clear n1); (try clear n2); (try clear n3); (try clear n4); (try clear take); (try clear n5); (try clear top); (try clear n6); (try clear fl); omega) H (fun x _ => (r x).2)
    obtain ⟨v, hv⟩ : ∃ v, v = leF (qe mi (dg H j n) j) H := ⟨_, rfl⟩
    rw [← hv] at lr
    rw [← hv]
    have n0 : nw (g 10 7) = J := by rw [X.1, nwN _ (by (try clear n0); (try clear n1); (try clear n2); (try clear n3); (try clear n4); (try clear take); (try clear n5); (try clear top); (try clear n6); (try clear fl); omega)]
    have n1 : nw (j : Int) = j := nwN _ (by (try clear n0); (try clear n1); (try clear n2); (try clear n3); (try clear n4); (try clear take); (try clear n5); (try clear top); (try clear n6); (try clear fl); omega)
    have n2 : ix (j : Int) = j := ixN _ (by (try clear n0); (try clear n1); (try clear n2); (try clear n3); (try clear n4); (try clear take); (try clear n5); (try clear top); (try clear n6); (try clear fl); omega)
    have n3 : nw (H : Int) = H := nwN _ (by (try clear n0); (try clear n1); (try clear n2); (try clear n3); (try clear n4); (try clear take); (try clear n5); (try clear top); (try clear n6); (try clear fl); omega)
    have n4 : nw v = v := by clear n0 n1 n2 n3; exact nw_id (by (try clear n0); (try clear n1); (try clear n2); (try clear n3); (try clear n4); (try clear take); (try clear n5); (try clear top); (try clear n6); (try clear fl); omega) (by (try clear n0); (try clear n1); (try clear n2); (try clear n3); (try clear n4); (try clear take); (try clear n5); (try clear top); (try clear n6); (try clear fl); omega)
    have top : Yard_shareNext (f + 1) j H v g = (if v < nw (g 10 12) then Yard_shareNext_b (Yard_shareNext f) j H v 0 g else some (0, g)) := by
      show Yard_shareNext_s (Yard_shareNext f) j H v g = _
      unfold Yard_shareNext_s
      rw [n4, n0, n1, if_pos (show (j : Int) < J by (try clear n0); (try clear n1); (try clear n2); (try clear n3); (try clear n4); (try clear take); (try clear n5); (try clear top); (try clear n6); (try clear fl); omega)]
    have loop : ∀ (k h : Nat) (s : TB) (g1 : AG), h + k = H → XJ g1 mi J → (∀ i, i < j → g1 105 i = (dg H j n i : Nat)) → (∀ h, h < H → g1 104 h = qe mi (dg H j n) j h) → XTB g1 H J s → ∃ g', Yard_shareNext_b (Yard_shareNext f) j H v h g1 = some (0, g') ∧ FR RXS g1 g' ∧ (∀ i, i < j → g' 105 i = g1 105 i) ∧ (∀ h, h < H → g' 104 h = g1 104 h) ∧ XTB g' H J (tR (fun h s => tT H (tV mi H J) d (n * H + h) s) k h s) := by
      intro k
      induction k with
      | zero =>
        intro h s g1 hk X1 hD1 hE1 B1
        refine ⟨g1, ?_, Fr.rf, fun i _ => rfl, fun i _ => rfl, B1⟩
        have n5 : nw (h : Int) = h := nwN _ (by (try clear n0); (try clear n1); (try clear n2); (try clear n3); (try clear n4); (try clear take); (try clear n5); (try clear top); (try clear n6); (try clear fl); omega)
        rw [Yard_shareNext_b, n3, n5, if_pos (by (try clear n0); (try clear n1); (try clear n2); (try clear n3); (try clear n4); (try clear take); (try clear n5); (try clear top); (try clear n6); (try clear fl); omega)]
      | succ k ihk =>
        intro h s g1 hk X1 hD1 hE1 B1
        have hh : h < H := by (try clear n0); (try clear n1); (try clear n2); (try clear n3); (try clear n4); (try clear take); (try clear n5); (try clear top); (try clear n6); (try clear fl); omega
        have rh := r h
        have lc := le_child (n := n) K (show j < J by (try clear n0); (try clear n1); (try clear n2); (try clear n3); (try clear n4); (try clear take); (try clear n5); (try clear top); (try clear n6); (try clear fl); omega) hh
        rw [← hv] at lc
        obtain ⟨g6, hg6⟩ : ∃ g6 : AG, g6 = up (up g1 105 j h) 104 h (qe mi (dg H j n) j h + mi j) := ⟨_, rfl⟩
        have f6 : FR RXS g1 g6 := by rw [hg6]; exact Fr.up (Fr.up Fr.rf rfl) rfl
        have n5 : nw (h : Int) = h := nwN _ (by (try clear n0); (try clear n1); (try clear n2); (try clear n3); (try clear n4); (try clear take); (try clear n5); (try clear top); (try clear n6); (try clear fl); omega)
        have n6 : ix (h : Int) = h := ixN _ (by (try clear n0); (try clear n1); (try clear n2); (try clear n3); (try clear n4); (try clear take); (try clear n5); (try clear top); (try clear n6); (try clear fl); omega)
        have v6 : g6 104 h = qe mi (dg H j n) j h + mi j := by rw [hg6, up_at, if_pos ⟨rfl, rfl⟩]
        have mx : mxI v (g6 104 h) = leF (qe mi (dg H (j + 1) (n * H + h)) (j + 1)) H := by
          rw [v6, lc]
          clear n0 n1 n2 n3 n4 n5 n6
          exact mxI_s (by (try clear n0); (try clear n1); (try clear n2); (try clear n3); (try clear n4); (try clear take); (try clear n5); (try clear top); (try clear n6); (try clear fl); omega) (by (try clear n0); (try clear n1); (try clear n2); (try clear n3); (try clear n4); (try clear take); (try clear n5); (try clear top); (try clear n6); (try clear fl); omega) (by (try clear n0); (try clear n1); (try clear n2); (try clear n3); (try clear n4); (try clear take); (try clear n5); (try clear top); (try clear n6); (try clear fl); omega) (by (try clear n0); (try clear n1); (try clear n2); (try clear n3); (try clear n4); (try clear take); (try clear n5); (try clear top); (try clear n6); (try clear fl); omega)
        obtain ⟨g8, e8, f8, p8, q8, B8⟩ := ih f (j + 1) (n * H + h) s g6 (by (try clear n0); (try clear n1); (try clear n2); (try clear n3); (try clear n4); (try clear take); (try clear n5); (try clear top); (try clear n6); (try clear fl); omega) (by (try clear n0); (try clear n1); (try clear n2); (try clear n3); (try clear n4); (try clear take); (try clear n5); (try clear top); (try clear n6); (try clear fl); omega) (X1.fr f6) (fun i hi => by
          rw [dg_child hh, hg6, up_at, if_neg (by (try clear n0); (try clear n1); (try clear n2); (try clear n3); (try clear n4); (try clear take); (try clear n5); (try clear top); (try clear n6); (try clear fl); omega), up_at]
          by_cases z : i = j
          · rw [if_pos ⟨rfl, z⟩, if_pos z]
          · rw [if_neg (fun q => z q.2), if_neg z]; exact hD1 i (by (try clear n0); (try clear n1); (try clear n2); (try clear n3); (try clear n4); (try clear take); (try clear n5); (try clear top); (try clear n6); (try clear fl); omega)) (fun x hx => by
          rw [qe_child hh, hg6, up_at]
          dsimp only
          by_cases z : x = h
          · rw [if_pos ⟨rfl, z⟩, if_pos z, z]
          · rw [if_neg (fun q => z q.2), if_neg z, up_at, if_neg (by (try clear n0); (try clear n1); (try clear n2); (try clear n3); (try clear n4); (try clear take); (try clear n5); (try clear top); (try clear n6); (try clear fl); omega)]; exact hE1 x hx) (by
          rcases B1 with ⟨b1, b2⟩ | ⟨p, b1, b2, b3, b4⟩
          · exact Or.inl ⟨b1, by rw [hg6, up_at, if_neg (by (try clear n0); (try clear n1); (try clear n2); (try clear n3); (try clear n4); (try clear take); (try clear n5); (try clear top); (try clear n6); (try clear fl); omega), up_at, if_neg (by (try clear n0); (try clear n1); (try clear n2); (try clear n3); (try clear n4); (try clear take); (try clear n5); (try clear top); (try clear n6); (try clear fl); omega)]; exact b2⟩
          · exact Or.inr ⟨p, b1, by rw [hg6, up_at, if_neg (by (try clear n0); (try clear n1); (try clear n2); (try clear n3); (try clear n4); (try clear take); (try clear n5); (try clear top); (try clear n6); (try clear fl); omega), up_at, if_neg (by (try clear n0); (try clear n1); (try clear n2); (try clear n3); (try clear n4); (try clear take); (try clear n5); (try clear top); (try clear n6); (try clear fl); omega)]; exact b2, b3, fun i hi => by rw [hg6, up_at, if_neg (by (try clear n0); (try clear n1); (try clear n2); (try clear n3); (try clear n4); (try clear take); (try clear n5); (try clear top); (try clear n6); (try clear fl); omega), up_at, if_neg (by (try clear n0); (try clear n1); (try clear n2); (try clear n3); (try clear n4); (try clear take); (try clear n5); (try clear top); (try clear n6); (try clear fl); omega)]; exact b4 i hi⟩)
        have f68 := f6.tr f8
        have m8 : g8 103 j = mi j := by rw [f68 103 j rfl]; exact X1.2 j (by (try clear n0); (try clear n1); (try clear n2); (try clear n3); (try clear n4); (try clear take); (try clear n5); (try clear top); (try clear n6); (try clear fl); omega)
        obtain ⟨g10, hg10⟩ : ∃ g10 : AG, g10 = up g8 104 h (g8 104 h - g8 103 j) := ⟨_, rfl⟩
        have f10 : FR RXS g1 g10 := by rw [hg10]; exact Fr.up f68 rfl
        have k104 : ∀ x, x < H → g10 104 x = g1 104 x := fun x hx => by
          rw [hg10, up_at]
          by_cases z : x = h
          · rw [if_pos ⟨rfl, z⟩, m8, q8 h hh, v6, z, hE1 h hh]
            clear n0 n1 n2 n3 n4 n5 n6
            omega
          · rw [if_neg (fun q => z q.2), q8 x hx, hg6, up_at, if_neg (fun q => z q.2), up_at, if_neg (by (try clear n0); (try clear n1); (try clear n2); (try clear n3); (try clear n4); (try clear take); (try clear n5); (try clear top); (try clear n6); (try clear fl); omega)]
        have k105 : ∀ i, i < j → g10 105 i = g1 105 i := fun i hi => by
          rw [hg10, up_at, if_neg (by (try clear n0); (try clear n1); (try clear n2); (try clear n3); (try clear n4); (try clear take); (try clear n5); (try clear top); (try clear n6); (try clear fl); omega), p8 i (by (try clear n0); (try clear n1); (try clear n2); (try clear n3); (try clear n4); (try clear take); (try clear n5); (try clear top); (try clear n6); (try clear fl); omega), hg6, up_at, if_neg (by (try clear n0); (try clear n1); (try clear n2); (try clear n3); (try clear n4); (try clear take); (try clear n5); (try clear top); (try clear n6); (try clear fl); omega), up_at, if_neg (by (try clear n0); (try clear n1); (try clear n2); (try clear n3); (try clear n4); (try clear take); (try clear n5); (try clear top); (try clear n6); (try clear fl); omega)]
        obtain ⟨g', e', f', p', q', B'⟩ := ihk (h + 1) _ g10 (by (try clear n0); (try clear n1); (try clear n2); (try clear n3); (try clear n4); (try clear take); (try clear n5); (try clear top); (try clear n6); (try clear fl); omega) (X1.fr f10) (fun i hi => by rw [k105 i hi]; exact hD1 i hi) (fun x hx => by rw [k104 x hx]; exact hE1 x hx) (by
          rcases B8 with ⟨b1, b2⟩ | ⟨p, b1, b2, b3, b4⟩
          · exact Or.inl ⟨b1, by rw [hg10, up_at, if_neg (by (try clear n0); (try clear n1); (try clear n2); (try clear n3); (try clear n4); (try clear take); (try clear n5); (try clear top); (try clear n6); (try clear fl); omega)]; exact b2⟩
          · exact Or.inr ⟨p, b1, by rw [hg10, up_at, if_neg (by (try clear n0); (try clear n1); (try clear n2); (try clear n3); (try clear n4); (try clear take); (try clear n5); (try clear top); (try clear n6); (try clear fl); omega)]; exact b2, b3, fun i hi => by rw [hg10, up_at, if_neg (by (try clear n0); (try clear n1); (try clear n2); (try clear n3); (try clear n4); (try clear take); (try clear n5); (try clear top); (try clear n6); (try clear fl); omega)]; exact b4 i hi⟩)
        refine ⟨g', ?_, f10.tr f', fun i hi => by rw [p' i hi, k105 i hi], fun x hx => by rw [q' x hx, k104 x hx], B'⟩
        rw [Yard_shareNext_b, n3, n5, n1, n2, n6, if_neg (by (try clear n0); (try clear n1); (try clear n2); (try clear n3); (try clear n4); (try clear take); (try clear n5); (try clear top); (try clear n6); (try clear fl); omega), if_pos (by (try clear n0); (try clear n1); (try clear n2); (try clear n3); (try clear n4); (try clear take); (try clear n5); (try clear top); (try clear n6); (try clear fl); omega), sb, if_pos (by (try clear n0); (try clear n1); (try clear n2); (try clear n3); (try clear n4); (try clear take); (try clear n5); (try clear top); (try clear n6); (try clear fl); omega)]
        have u1 : (up g1 105 j h) 104 h = qe mi (dg H j n) j h := by rw [up_at, if_neg (by (try clear n0); (try clear n1); (try clear n2); (try clear n3); (try clear n4); (try clear take); (try clear n5); (try clear top); (try clear n6); (try clear fl); omega)]; exact hE1 h hh
        have u2 : (up g1 105 j h) 103 j = mi j := by rw [up_at, if_neg (by (try clear n0); (try clear n1); (try clear n2); (try clear n3); (try clear n4); (try clear take); (try clear n5); (try clear top); (try clear n6); (try clear fl); omega)]; exact X1.2 j (by (try clear n0); (try clear n1); (try clear n2); (try clear n3); (try clear n4); (try clear take); (try clear n5); (try clear top); (try clear n6); (try clear fl); omega)
        rw [u1, u2, sb, ← hg6, mx]
        rw [show ((j + 1 : Nat) : Int) = (j : Int) + 1 from rfl] at e8
        rw [e8, sb, sb]
        dsimp only
        rw [← hg10]
        exact e'
    have fl : v < nw (g 10 12) → ∃ g', Yard_shareNext (f + 1) j H v g = some (0, g') ∧ FR RXS g g' ∧ (∀ i, i < j → g' 105 i = g 105 i) ∧ (∀ h, h < H → g' 104 h = g 104 h) ∧ XTB g' H J (tT H (tV mi H J) (d + 1) n s) := by
      intro z
      obtain ⟨g', e', R⟩ := loop H 0 s g (by (try clear n0); (try clear n1); (try clear n2); (try clear n3); (try clear n4); (try clear take); (try clear n5); (try clear top); (try clear n6); (try clear fl); omega) X hD hE B
      refine ⟨g', ?_, R⟩
      rw [top, if_pos z]
      exact e'
    clear n0 n1 n2 n3 n4
    by_cases z : v < nw (g 10 12)
    · exact fl z
    · rcases B with ⟨b1, b2⟩ | ⟨p, b1, b2, b3, b4⟩
      · have n5 : nw (3001 : Int) = 3001 := nw_id (by decide) (by decide)
        rw [b2, n5] at z
        exact absurd (show v < 3001 by (try clear n0); (try clear n1); (try clear n2); (try clear n3); (try clear n4); (try clear take); (try clear n5); (try clear top); (try clear n6); (try clear fl); omega) z
      · have n5 : nw p.1 = p.1 := nw_id (by (try clear n0); (try clear n1); (try clear n2); (try clear n3); (try clear n4); (try clear take); (try clear n5); (try clear top); (try clear n6); (try clear fl); omega) (by (try clear n0); (try clear n1); (try clear n2); (try clear n3); (try clear n4); (try clear take); (try clear n5); (try clear top); (try clear n6); (try clear fl); omega)
        refine ⟨g, by rw [top, if_neg z], Fr.rf, fun i _ => rfl, fun i _ => rfl, ?_⟩
        rw [b2, n5] at z
        clear n5
        rw [b1, tT_prune K (d + 1) j n p h (by rw [← hv]; omega)]
        exact Or.inr ⟨p, rfl, b2, b3, b4⟩
end
section
/-! plain programs: turning round, the reference, both sides -/
theorem pow_le {H k J : Nat} (hH : 1 ≤ H ∧ H ≤ 3) (hk : k ≤ J) (hJ : J ≤ 8) : 1 ≤ H ^ k ∧ H ^ k ≤ H ^ J ∧ H ^ J ≤ 6561 := by
  refine ⟨Nat.one_le_pow _ _ (by omega), Nat.pow_le_pow_right (by omega) hk, ?_⟩
  exact Nat.le_trans (Nat.pow_le_pow_left hH.2 J) (Nat.pow_le_pow_right (n := 3) (by omega) hJ)
theorem M_hand_s {H i : Nat} (hH : 1 ≤ H ∧ H ≤ 3) {g : AG} : ∀ (j n : Nat), i < j → j ≤ 8 → n ≤ 10000 → M_handOf_b i H g n ((j : Int) - 1) = some ((dg H j n i : Nat) : Int)
  | 0, n, h, _, _ => by (try clear n0); (try clear n1); (try clear n2); (try clear n3); omega
  | j + 1, n, h, hj, hn => by
    have n0 : nw (((j + 1 : Nat) : Int) - 1) = j := by rw [show ((j + 1 : Nat) : Int) - 1 = (j : Int) by (try clear n0); (try clear n1); (try clear n2); (try clear n3); omega]; exact nwN _ (by (try clear n0); (try clear n1); (try clear n2); (try clear n3); omega)
    have n1 : nw (i : Int) = i := nwN _ (by (try clear n0); (try clear n1); (try clear n2); (try clear n3); omega)
    have n2 : nw (H : Int) = H := nwN _ (by (try clear n0); (try clear n1); (try clear n2); (try clear n3); omega)
    have n3 : nw (n : Int) = n := nwN _ (by (try clear n0); (try clear n1); (try clear n2); (try clear n3); omega)
    rw [M_handOf_b, n0, n1, n2, n3]
    clear n0 n1 n2 n3
    unfold dg
    by_cases z : i = j
    · rw [if_pos (by (try clear n0); (try clear n1); (try clear n2); (try clear n3); omega), if_pos (by (try clear n0); (try clear n1); (try clear n2); (try clear n3); omega), if_pos z, tmE (by (try clear n0); (try clear n1); (try clear n2); (try clear n3); omega)]
      rfl
    · have hd : n / H ≤ n := Nat.div_le_self n H
      have e := M_hand_s (H := H) (i := i) hH (g := g) j (n / H) (by (try clear n0); (try clear n1); (try clear n2); (try clear n3); omega) (by (try clear n0); (try clear n1); (try clear n2); (try clear n3); omega) (by (try clear n0); (try clear n1); (try clear n2); (try clear n3); omega)
      rw [if_neg (by (try clear n0); (try clear n1); (try clear n2); (try clear n3); omega), if_pos (by (try clear n0); (try clear n1); (try clear n2); (try clear n3); omega), if_neg z, tdE (by (try clear n0); (try clear n1); (try clear n2); (try clear n3); omega), show ((j + 1 : Nat) : Int) - 1 + -1 = (j : Int) - 1 by (try clear n0); (try clear n1); (try clear n2); (try clear n3); omega]
      exact e
theorem M_handOf_s {H J i n : Nat} (hH : 1 ≤ H ∧ H ≤ 3) {g : AG} (hJ : g 117 87 = J) (hJ8 : J ≤ 8) (hi : i < J) (hn : n ≤ 10000) : M_handOf n i H g = some ((dg H J n i : Nat) : Int) := by
  unfold M_handOf
  rw [hJ]
  exact M_hand_s hH J n hi hJ8 hn
theorem dg_lt {H : Nat} (hH : 1 ≤ H) : ∀ (j n i : Nat), dg H j n i < H
  | 0, _, _ => hH
  | j + 1, n, i => by
    unfold dg
    split
    · exact Nat.mod_lt _ (by omega)
    · exact dg_lt hH j _ i
def MTB (H J : Nat) (s : TB) (l f : Int) : Prop := (s = none ∧ l = -1 ∧ f = 0) ∨ ∃ p, s = some p ∧ l = p.1 ∧ f = (p.2 : Nat) ∧ (600 ≤ p.1 ∧ p.1 ≤ 10000) ∧ p.2 < H ^ J
theorem M_ways5_s {H : Nat} (hH : 1 ≤ H ∧ H ≤ 3) {x2 a b c d e : Int} : ∀ (n k : Nat) (g : AG), k + n = H → (∀ h, h < k → g 179 h = 600) → ∃ g', M_turned_b H x2 5 (a, b, c, d, e, k) g = M_turned_b H x2 6 (a, b, c, d, e, 0) g' ∧ FR [(179, 0)] g g' ∧ ∀ h, h < H → g' 179 h = 600 := by
  intro n
  induction n with
  | zero =>
    intro k g h q
    refine ⟨g, ?_, Fr.rf, fun h hh => q h (by (try clear n0); (try clear n1); (try clear n2); omega)⟩
    rw [M_turned_b.eq_1 _ _ 5]
    dsimp only
    rw [if_neg (by decide), if_neg (by decide), if_neg (by decide), if_neg (by decide), if_pos rfl, if_pos (by rw [nwN _ (by (try clear n0); (try clear n1); (try clear n2); omega), nwN _ (by (try clear n0); (try clear n1); (try clear n2); omega)]; omega)]
  | succ n ih =>
    intro k g h q
    obtain ⟨g', e', f, r⟩ := ih (k + 1) (up g 179 k 600) (by (try clear n0); (try clear n1); (try clear n2); omega) (fun h hh => by
      rw [up_at]
      by_cases z : h = k
      · rw [if_pos ⟨rfl, z⟩]
      · rw [if_neg (by (try clear n0); (try clear n1); (try clear n2); omega)]; exact q h (by (try clear n0); (try clear n1); (try clear n2); omega))
    refine ⟨g', ?_, (Fr.up Fr.rf rfl).tr f, r⟩
    have n0 : nw (H : Int) = H := nwN _ (by (try clear n0); (try clear n1); (try clear n2); omega)
    have n1 : nw (k : Int) = k := nwN _ (by (try clear n0); (try clear n1); (try clear n2); omega)
    have n2 : ix (k : Int) = k := ixN _ (by (try clear n0); (try clear n1); (try clear n2); omega)
    rw [M_turned_b.eq_1 _ _ 5]
    dsimp only
    rw [n0, n1, n2]
    clear n0 n1 n2
    rw [if_neg (by decide), if_neg (by decide), if_neg (by decide), if_neg (by decide), if_pos rfl, if_neg (by (try clear n0); (try clear n1); (try clear n2); omega), if_pos (by (try clear n0); (try clear n1); (try clear n2); omega), sb]
    exact e'
theorem M_ways6_s {H J : Nat} {mi : Nat → Int} (K : JbOk mi J) (hH : 1 ≤ H ∧ H ≤ 3) {x2 a b c d : Int} {w : Nat} (hw : w ≤ 10000) : ∀ (n j : Nat) (g : AG), j + n = J → MJ g mi J → (∀ h, h < H → g 179 h = qe mi (dg H J w) j h) → ∃ g', M_turned_b H x2 6 (a, b, c, d, w, j) g = M_turned_b H x2 6 (a, b, c, d, w, J) g' ∧ FR [(179, 0)] g g' ∧ ∀ h, h < H → g' 179 h = qe mi (dg H J w) J h := by
  intro n
  induction n with
  | zero =>
    intro j g h X q
    refine ⟨g, by rw [show j = J by (try clear n0); (try clear n1); (try clear n2); (try clear n3); (try clear n4); omega], Fr.rf, fun h hh => by rw [← show j = J by (try clear n0); (try clear n1); (try clear n2); (try clear n3); (try clear n4); omega]; exact (show j = J by (try clear n0); (try clear n1); (try clear n2); (try clear n3); (try clear n4); omega) ▸ q h hh⟩
  | succ n ih =>
    intro j g h X q
    have hJ := K.1
    have hd := dg_lt (H := H) (by (try clear n0); (try clear n1); (try clear n2); (try clear n3); (try clear n4); omega) J w j
    have ho := M_handOf_s (i := j) (n := w) hH X.1 hJ (by (try clear n0); (try clear n1); (try clear n2); (try clear n3); (try clear n4); omega) hw
    obtain ⟨D, hD⟩ : ∃ D, D = dg H J w j := ⟨_, rfl⟩
    rw [← hD] at ho hd
    obtain ⟨g', e', f, r⟩ := ih (j + 1) (up g 179 D (qe mi (dg H J w) j D + mi j)) (by (try clear n0); (try clear n1); (try clear n2); (try clear n3); (try clear n4); omega) ⟨by rw [up_at, if_neg (by (try clear n0); (try clear n1); (try clear n2); (try clear n3); (try clear n4); omega)]; exact X.1, fun i hi => by rw [up_at, if_neg (by (try clear n0); (try clear n1); (try clear n2); (try clear n3); (try clear n4); omega)]; exact X.2 i hi⟩ (fun h hh => by
      rw [up_at]
      conv => rhs; unfold qe
      rw [← hD]
      by_cases z : h = D
      · rw [if_pos ⟨rfl, z⟩, if_pos z, z]
      · rw [if_neg (fun q => z q.2), if_neg z]; exact q h hh)
    refine ⟨g', ?_, (Fr.up Fr.rf rfl).tr f, r⟩
    have n0 : nw (g 117 87) = J := by rw [X.1, nwN _ (by (try clear n0); (try clear n1); (try clear n2); (try clear n3); (try clear n4); omega)]
    have n1 : nw (j : Int) = j := nwN _ (by (try clear n0); (try clear n1); (try clear n2); (try clear n3); (try clear n4); omega)
    have n2 : ix (j : Int) = j := ixN _ (by (try clear n0); (try clear n1); (try clear n2); (try clear n3); (try clear n4); omega)
    have n3 : nw (D : Int) = D := nwN _ (by (try clear n0); (try clear n1); (try clear n2); (try clear n3); (try clear n4); omega)
    have n4 : ix (D : Int) = D := ixN _ (by (try clear n0); (try clear n1); (try clear n2); (try clear n3); (try clear n4); omega)
    rw [M_turned_b.eq_1 _ _ 6]
    dsimp only
    rw [n0, n1, n2]
    rw [if_neg (by decide), if_neg (by decide), if_neg (by decide), if_neg (by decide), if_neg (by decide), if_pos rfl, if_neg (by (try clear n0); (try clear n1); (try clear n2); (try clear n3); (try clear n4); omega), ho, sb, n3, n4, if_pos (by (try clear n0); (try clear n1); (try clear n2); (try clear n3); (try clear n4); omega), if_pos (by (try clear n0); (try clear n1); (try clear n2); (try clear n3); (try clear n4); omega), q D hd, X.2 j (by (try clear n0); (try clear n1); (try clear n2); (try clear n3); (try clear n4); omega), sb]
    exact e'
theorem M_ways_s {H J : Nat} {mi : Nat → Int} (K : JbOk mi J) (hH : 1 ≤ H ∧ H ≤ 3) {x2 a : Int} : ∀ (n w : Nat) (l f x : Int) (s : TB) (g : AG), w + n = H ^ J → MJ g mi J → MTB H J s l f → ∃ l' f' x' g', M_turned_b H x2 4 (a, (H ^ J : Nat), l, f, w, x) g = M_turned_b H x2 4 (a, (H ^ J : Nat), l', f', (H ^ J : Nat), x') g' ∧ FR [(179, 0)] g g' ∧ MTB H J (tF (tV mi H J) n w s) l' f' := by
  intro n
  induction n with
  | zero =>
    intro w l f x s g h X B
    exact ⟨l, f, x, g, by rw [show w = H ^ J by (try clear m1); (try clear m2); (try clear n0); (try clear n1); (try clear n2); (try clear n3); omega], Fr.rf, B⟩
  | succ n ih =>
    intro w l f x s g h X B
    have hJ := K.1
    have pw := pow_le (k := J) hH (Nat.le_refl J) hJ
    obtain ⟨P, hP⟩ : ∃ P, P = H ^ J := ⟨_, rfl⟩
    obtain ⟨g5, e5, f5, r5⟩ := M_ways5_s hH (x2 := x2) (a := a) (b := (P : Nat)) (c := l) (d := f) (e := w) H 0 g (by (try clear m1); (try clear m2); (try clear n0); (try clear n1); (try clear n2); (try clear n3); omega) (fun h hh => by (try clear m1); (try clear m2); (try clear n0); (try clear n1); (try clear n2); (try clear n3); omega)
    have X5 : MJ g5 mi J := ⟨by rw [f5 117 87 rfl]; exact X.1, fun i hi => by rw [f5 178 i rfl]; exact X.2 i hi⟩
    obtain ⟨g6, e6, f6, r6⟩ := M_ways6_s K hH (x2 := x2) (a := a) (b := (P : Nat)) (c := l) (d := f) (w := w) (by (try clear m1); (try clear m2); (try clear n0); (try clear n1); (try clear n2); (try clear n3); omega) J 0 g5 (by (try clear m1); (try clear m2); (try clear n0); (try clear n1); (try clear n2); (try clear n3); omega) X5 (fun h hh => by rw [r5 h hh]; rfl)
    have X6 : MJ g6 mi J := ⟨by rw [f6 117 87 rfl]; exact X5.1, fun i hi => by rw [f6 178 i rfl]; exact X5.2 i hi⟩
    have r := qe_rng K (D := dg H J w) J (by (try clear m1); (try clear m2); (try clear n0); (try clear n1); (try clear n2); (try clear n3); omega)
    have lr := leF_rng (e := qe mi (dg H J w) J) (B := 600 + 300 * J) (by (try clear m1); (try clear m2); (try clear n0); (try clear n1); (try clear n2); (try clear n3); omega) H (fun x _ => (r x).2)
    have ll : M_lastEnd H g6 = some (tV mi H J w) := M_last_s (e := qe mi (dg H J w) J) hH (fun h hh => ⟨r6 h hh, by have := r h; omega, by have := r h; omega⟩) H 0 (by (try clear m1); (try clear m2); (try clear n0); (try clear n1); (try clear n2); (try clear n3); omega)
    have lv : leF (qe mi (dg H J w) J) H = tV mi H J w := rfl
    rw [lv] at lr
    obtain ⟨l2, f2, hu, B2⟩ : ∃ l2 f2, (if nw l = -1 then some (tV mi H J w, (w : Int), g6) else if nw (tV mi H J w) < nw l then some (tV mi H J w, (w : Int), g6) else some (l, f, g6)) = some (l2, f2, g6) ∧ MTB H J (tU (tV mi H J) w s) l2 f2 := by
      unfold tU
      rcases B with ⟨b1, b2, b3⟩ | ⟨p, b1, b2, b3, b4, b5⟩
      · subst b1
        rw [b2, nw_m1, if_pos rfl]
        exact ⟨_, _, rfl, Or.inr ⟨_, rfl, rfl, rfl, by dsimp only; (try clear m1); (try clear m2); (try clear n0); (try clear n1); (try clear n2); (try clear n3); omega, by dsimp only; (try clear m1); (try clear m2); (try clear n0); (try clear n1); (try clear n2); (try clear n3); omega⟩⟩
      · subst b1
        have m1 : nw l = p.1 := by rw [b2]; exact nw_id (by (try clear m1); (try clear m2); (try clear n0); (try clear n1); (try clear n2); (try clear n3); omega) (by (try clear m1); (try clear m2); (try clear n0); (try clear n1); (try clear n2); (try clear n3); omega)
        have m2 : nw (tV mi H J w) = tV mi H J w := by clear m1; exact nw_id (by (try clear m1); (try clear m2); (try clear n0); (try clear n1); (try clear n2); (try clear n3); omega) (by (try clear m1); (try clear m2); (try clear n0); (try clear n1); (try clear n2); (try clear n3); omega)
        rw [m1, m2, if_neg (by (try clear m1); (try clear m2); (try clear n0); (try clear n1); (try clear n2); (try clear n3); omega)]
        clear m1 m2
        dsimp only
        by_cases z : tV mi H J w < p.1
        · rw [if_pos z, if_pos z]
          exact ⟨_, _, rfl, Or.inr ⟨_, rfl, rfl, rfl, by dsimp only; (try clear m1); (try clear m2); (try clear n0); (try clear n1); (try clear n2); (try clear n3); omega, by dsimp only; (try clear m1); (try clear m2); (try clear n0); (try clear n1); (try clear n2); (try clear n3); omega⟩⟩
        · rw [if_neg z, if_neg z]
          exact ⟨_, _, rfl, Or.inr ⟨p, rfl, b2, b3, b4, b5⟩⟩
    obtain ⟨l', f', x', g', e', ff, B'⟩ := ih (w + 1) l2 f2 J (tU (tV mi H J) w s) g6 (by (try clear m1); (try clear m2); (try clear n0); (try clear n1); (try clear n2); (try clear n3); omega) X6 B2
    refine ⟨l', f', x', g', ?_, f5.tr (f6.tr ff), B'⟩
    have n0 : nw (w : Int) = w := nwN _ (by (try clear m1); (try clear m2); (try clear n0); (try clear n1); (try clear n2); (try clear n3); omega)
    have n1 : nw (P : Int) = P := nwN _ (by (try clear m1); (try clear m2); (try clear n0); (try clear n1); (try clear n2); (try clear n3); omega)
    have n2 : nw (J : Int) = J := nwN _ (by (try clear m1); (try clear m2); (try clear n0); (try clear n1); (try clear n2); (try clear n3); omega)
    have n3 : nw (g6 117 87) = J := by rw [X6.1, n2]
    have e5' : M_turned_b H x2 5 (a, (P : Nat), l, f, w, 0) g = M_turned_b H x2 6 (a, (P : Nat), l, f, w, 0) g5 := e5
    have e6' : M_turned_b H x2 6 (a, (P : Nat), l, f, w, 0) g5 = M_turned_b H x2 6 (a, (P : Nat), l, f, w, J) g6 := e6
    rw [← hP] at e' ⊢
    rw [M_turned_b.eq_1 _ _ 4]
    dsimp only
    rw [n0, n1, if_neg (by decide), if_neg (by decide), if_neg (by decide), if_pos rfl, if_neg (by (try clear m1); (try clear m2); (try clear n0); (try clear n1); (try clear n2); (try clear n3); omega), e5', e6', M_turned_b.eq_1 _ _ 6]
    dsimp only
    rw [n2, n3, if_neg (by decide), if_neg (by decide), if_neg (by decide), if_neg (by decide), if_neg (by decide), if_pos rfl, if_pos (Int.le_refl _), ll, sb, hu, sb]
    exact e'
theorem M_ways3_s {H J : Nat} (hH : 1 ≤ H ∧ H ≤ 3) (hJ8 : J ≤ 8) {x2 a d e x : Int} {g : AG} (hJ : g 117 87 = J) : ∀ (n k : Nat), k + n = J → M_turned_b H x2 3 (a, (H ^ k : Nat), k, d, e, x) g = M_turned_b H x2 4 (a, (H ^ J : Nat), -1, 0, 0, x) g := by
  intro n
  induction n with
  | zero =>
    intro k h
    rw [M_turned_b.eq_1 _ _ 3]
    dsimp only
    rw [if_neg (by decide), if_neg (by decide), if_pos rfl, if_pos (by rw [hJ, nwN _ (by omega), nwN _ (by omega)]; omega), show k = J by omega]
  | succ n ih =>
    intro k h
    have e2 := ih (k + 1) (by omega)
    rw [M_turned_b.eq_1 _ _ 3]
    dsimp only
    rw [if_neg (by decide), if_neg (by decide), if_pos rfl, if_neg (by rw [hJ, nwN _ (by omega), nwN _ (by omega)]; omega)]
    rw [← e2, Nat.pow_succ, Int.natCast_mul]
    rfl
theorem tF_rel {mi : Nat → Int} {H J : Nat} : tF (tV mi H J) (H ^ J) 0 none = tT H (tV mi H J) J 0 none := by
  have := tF_tT (H := H) (v := tV mi H J) J 0 none
  rw [Nat.zero_mul] at this
  exact this
theorem sm_turned {x1 x2 : Int} {g : AG} (h1 : I32 x1) (h2 : I32 x2) (q : JJob g) :
    ∃ r1 r2, X_turned x1 x2 g = some r1 ∧ M_turned x1 x2 r1.2 = some r2 ∧ nw r1.1 = nw r2.1 ∧ FR [(10, 13), (10, 14), (10, 15), (104, 0), (105, 0), (106, 0), (117, 91), (179, 0)] g r2.2 := by
  unfold I32 at *
  obtain ⟨⟨q1, q2, q3⟩, q4⟩ := q
  obtain ⟨J, hJ⟩ := natOf q2
  have K : JbOk (g 103) J := ⟨by (try clear wX); (try clear wM); (try clear w0); (try clear w1); (try clear n2); (try clear m1); (try clear m2); omega, fun j hj => (q4 j (by (try clear wX); (try clear wM); (try clear w0); (try clear w1); (try clear n2); (try clear m1); (try clear m2); omega)).2⟩
  have wX : (nw (X_within x1 1 3) = 0) = (x1 < 1 ∨ 3 < x1) := within0 (by (try clear wX); (try clear wM); (try clear w0); (try clear w1); (try clear n2); (try clear m1); (try clear m2); omega) (by (try clear wX); (try clear wM); (try clear w0); (try clear w1); (try clear n2); (try clear m1); (try clear m2); omega) (by decide) (by decide) (by decide) (by decide)
  have wM : (nw (M_isIn x1 1 3) = 0) = (x1 < 1 ∨ 3 < x1) := isIn0 (by (try clear wX); (try clear wM); (try clear w0); (try clear w1); (try clear n2); (try clear m1); (try clear m2); omega) (by (try clear wX); (try clear wM); (try clear w0); (try clear w1); (try clear n2); (try clear m1); (try clear m2); omega) (by decide) (by decide) (by decide) (by decide)
  have w0 : (nw (M_isIn x2 0 2) = 0) = (x2 < 0 ∨ 2 < x2) := isIn0 (by (try clear wX); (try clear wM); (try clear w0); (try clear w1); (try clear n2); (try clear m1); (try clear m2); omega) (by (try clear wX); (try clear wM); (try clear w0); (try clear w1); (try clear n2); (try clear m1); (try clear m2); omega) (by decide) (by decide) (by decide) (by decide)
  have w1 : ∀ g' : AG, g' 117 87 = J → (nw (M_isIn x2 10 (9 + g' 117 87)) = 0) = (x2 < 10 ∨ 9 + (J : Int) < x2) := fun g' e => by
    rw [e]
    exact isIn0 (by (try clear wX); (try clear wM); (try clear w0); (try clear w1); (try clear n2); (try clear m1); (try clear m2); omega) (by (try clear wX); (try clear wM); (try clear w0); (try clear w1); (try clear n2); (try clear m1); (try clear m2); omega) (by decide) (by decide) (by (try clear wX); (try clear wM); (try clear w0); (try clear w1); (try clear n2); (try clear m1); (try clear m2); omega) (by (try clear wX); (try clear wM); (try clear w0); (try clear w1); (try clear n2); (try clear m1); (try clear m2); omega)
  have n2 : nw x2 = x2 := nw_id (by (try clear wX); (try clear wM); (try clear w0); (try clear w1); (try clear n2); (try clear m1); (try clear m2); omega) (by (try clear wX); (try clear wM); (try clear w0); (try clear w1); (try clear n2); (try clear m1); (try clear m2); omega)
  by_cases a : 1 ≤ x1 ∧ x1 ≤ 3
  · obtain ⟨H, rfl⟩ := natOf (show 0 ≤ x1 by (try clear wX); (try clear wM); (try clear w0); (try clear w1); (try clear n2); (try clear m1); (try clear m2); omega)
    have hH : 1 ≤ H ∧ H ≤ 3 := by (try clear wX); (try clear wM); (try clear w0); (try clear w1); (try clear n2); (try clear m1); (try clear m2); omega
    have XJ0 : XJ g (g 103) J := ⟨hJ, fun j _ => rfl⟩
    by_cases ok : (0 ≤ x2 ∧ x2 ≤ 2) ∨ (10 ≤ x2 ∧ x2 ≤ 9 + (J : Int))
    · -- the class first
      by_cases z : x2 = 0 ∨ x2 = 2
      · obtain ⟨gx, ex, fx, x13, x14⟩ := X_worked_s K hH XJ0
        obtain ⟨gm, em, fm, m90⟩ := M_worked_s (g := gx) K hH ⟨by rw [fx 117 87 rfl]; omega, fun j hj => by rw [fx 178 j rfl]; exact (q4 j (by (try clear wX); (try clear wM); (try clear w0); (try clear w1); (try clear n2); (try clear m1); (try clear m2); omega)).1⟩
        refine ⟨(if x2 = 0 then gx 10 13 else gx 10 14, gx), (if x2 = 0 then leF (wS H (g 103) J).1 H else gm 117 90, gm), ?_, ?_, ?_, ?_⟩
        · unfold X_turned
          rw [if_neg (by rw [wX]; clear wX wM w0 n2; omega), n2]
          have t : X_turned_b 1 H x2 g = some (if x2 = 0 then gx 10 13 else gx 10 14, gx) := by
            rw [X_turned_b.eq_1 1, if_pos rfl, ex, sb, n2, sb]
          rcases z with z | z
          · rw [if_pos z]; exact t
          · rw [if_neg (by (try clear wX); (try clear wM); (try clear w0); (try clear w1); (try clear n2); (try clear m1); (try clear m2); omega), if_pos z]; exact t
        · unfold M_turned
          dsimp only
          rw [if_neg (by rw [wM]; clear wX wM w0 n2; omega), if_neg (by rw [w0]; clear wX wM w0 n2; omega), M_turned_b.eq_1 _ _ 1, if_pos rfl, em, sb, n2]
          have t : ∀ b c d e f : Int, M_turned_b H x2 2 (leF (wS H (g 103) J).1 H, b, c, d, e, f) gm = some (if x2 = 0 then leF (wS H (g 103) J).1 H else gm 117 90, gm) := fun b c d e f => by
            rw [M_turned_b.eq_1 _ _ 2, if_neg (by decide), if_pos rfl, n2, sb]
          rcases z with z | z
          · rw [if_pos z]; exact t _ _ _ _ _
          · rw [if_neg (by (try clear wX); (try clear wM); (try clear w0); (try clear w1); (try clear n2); (try clear m1); (try clear m2); omega), if_pos z]; exact t _ _ _ _ _
        · dsimp only
          rw [x13, x14, m90]
        · exact (FR.mo fx rfl).tr (FR.mo fm rfl)
      · obtain ⟨g3, hg3⟩ : ∃ g3 : AG, g3 = up (fillG g 104 3 600) 10 12 3001 := ⟨_, rfl⟩
        have f3 : FR RXS g g3 := by rw [hg3]; exact Fr.up (Fr.fill Fr.rf (fun _ => rfl)) rfl
        have pw := pow_le (k := J) hH (Nat.le_refl J) K.1
        have l0 : leF (qe (g 103) (dg H 0 0) 0) H = 600 := by
          have := leF_rng (e := qe (g 103) (dg H 0 0) 0) (B := 600) (by (try clear wX); (try clear wM); (try clear w0); (try clear w1); (try clear n2); (try clear m1); (try clear m2); omega) H (fun x _ => Int.le_refl _)
          clear wX wM w0 n2
          omega
        obtain ⟨gx, ex, fx, _, _, Bx⟩ := X_share_t K hH J 10 0 0 none g3 (by (try clear wX); (try clear wM); (try clear w0); (try clear w1); (try clear n2); (try clear m1); (try clear m2); omega) (by have := K.1; clear wX wM w0 n2; omega) (XJ0.fr f3) (fun i hi => by (try clear wX); (try clear wM); (try clear w0); (try clear w1); (try clear n2); (try clear m1); (try clear m2); omega) (fun h hh => by
          rw [hg3, up_at, if_neg (by (try clear wX); (try clear wM); (try clear w0); (try clear w1); (try clear n2); (try clear m1); (try clear m2); omega), fill_at, if_pos ⟨rfl, by (try clear wX); (try clear wM); (try clear w0); (try clear w1); (try clear n2); (try clear m1); (try clear m2); omega⟩]; rfl) (Or.inl ⟨rfl, by rw [hg3, up_at, if_pos ⟨rfl, rfl⟩]⟩)
        rw [l0] at ex
        have ex' : Yard_shareNext 10 0 H 600 g3 = some (0, gx) := ex
        have f3x := f3.tr fx
        have MJx : MJ gx (g 103) J := ⟨by rw [f3x 117 87 rfl]; clear wX wM w0 n2; omega, fun j hj => by rw [f3x 178 j rfl]; exact (q4 j (by (try clear wX); (try clear wM); (try clear w0); (try clear w1); (try clear n2); (try clear m1); (try clear m2); omega)).1⟩
        obtain ⟨gm, em, fm, m90⟩ := M_worked_s (g := gx) K hH MJx
        have MJm : MJ gm (g 103) J := ⟨by rw [fm 117 87 rfl]; exact MJx.1, fun j hj => by rw [fm 178 j rfl]; exact MJx.2 j hj⟩
        obtain ⟨l', f', x', gw, ew, fw, Bw⟩ := M_ways_s K hH (x2 := x2) (a := 0) (H ^ J) 0 (-1) 0 0 none gm (by (try clear wX); (try clear wM); (try clear w0); (try clear w1); (try clear n2); (try clear m1); (try clear m2); omega) MJm (Or.inl ⟨rfl, rfl, rfl⟩)
        rw [tF_rel] at Bw
        have e3 := M_ways3_s hH K.1 (x2 := x2) (a := 0) (d := 0) (e := 0) (x := 0) MJm.1 J 0 (by (try clear wX); (try clear wM); (try clear w0); (try clear w1); (try clear n2); (try clear m1); (try clear m2); omega)
        rw [Nat.pow_zero] at e3
        -- one way was found
        have ⟨p, sp, bp⟩ : ∃ p, tT H (tV (g 103) H J) J 0 none = some p ∧ ((gx 10 12 = p.1 ∧ ∀ i, i < J → gx 106 i = (dg H J p.2 i : Nat)) ∧ l' = p.1 ∧ f' = (p.2 : Nat) ∧ p.2 < H ^ J) := by
          rcases Bw with ⟨b1, _⟩ | ⟨p, b1, b2, b3, b4, b5⟩
          · exfalso
            have : ∀ (d n : Nat) (s : TB), tT H (tV (g 103) H J) d n s ≠ none := by
              intro d
              induction d with
              | zero =>
                intro n s e
                unfold tT tU at e
                cases s with
                | none => cases e
                | some p => dsimp only at e; split at e <;> cases e
              | succ d ih =>
                intro n s e
                unfold tT at e
                obtain ⟨H', hH'⟩ : ∃ H', H = H' + 1 := ⟨H - 1, by (try clear wX); (try clear wM); (try clear w0); (try clear w1); (try clear n2); (try clear m1); (try clear m2); omega⟩
                have go : ∀ (k h : Nat) (s : TB), tR (fun h s => tT H (tV (g 103) H J) d (n * H + h) s) (k + 1) h s ≠ none := by
                  intro k
                  induction k with
                  | zero => intro h s; exact ih _ _
                  | succ k ihk => intro h s; exact ihk (h + 1) _
                have g2 := go H' 0 s
                rw [← hH'] at g2
                exact g2 e
            exact this J 0 none b1
          · refine ⟨p, b1, ?_, b2, b3, b5⟩
            rcases Bx with ⟨c1, _⟩ | ⟨p2, c1, c2, c3, c4⟩
            · rw [c1] at b1; cases b1
            · rw [c1] at b1
              have := Option.some.inj b1
              subst this
              exact ⟨c2, c4⟩
        obtain ⟨⟨b1, b2⟩, b3, b4, b5⟩ := bp
        obtain ⟨P, hP⟩ : ∃ P, P = H ^ J := ⟨_, rfl⟩
        have X2 : X_turned H x2 g = X_turned_b 2 H x2 g := by
          unfold X_turned
          rw [if_neg (by rw [wX]; clear wX wM w0 n2; omega), n2, if_neg (fun y => z (Or.inl y)), if_neg (fun y => z (Or.inr y))]
          by_cases y : x2 = 1
          · rw [if_pos y]
          · have m1 : nw (x2 - 10) = x2 - 10 := by clear wX wM w0 n2; exact nw_id (by (try clear wX); (try clear wM); (try clear w0); (try clear w1); (try clear n2); (try clear m1); (try clear m2); omega) (by (try clear wX); (try clear wM); (try clear w0); (try clear w1); (try clear n2); (try clear m1); (try clear m2); omega)
            have m2 : nw (g 10 7) = J := by rw [hJ, nwN _ (by (try clear wX); (try clear wM); (try clear w0); (try clear w1); (try clear n2); (try clear m1); (try clear m2); omega)]
            rw [if_neg y, if_neg (by (try clear wX); (try clear wM); (try clear w0); (try clear w1); (try clear n2); (try clear m1); (try clear m2); omega), m1, m2, if_pos (by (try clear wX); (try clear wM); (try clear w0); (try clear w1); (try clear n2); (try clear m1); (try clear m2); omega)]
        have S2 : Yard_shareBest H g = some (0, gx) := by
          unfold Yard_shareBest
          rw [sb, sb, ← hg3, ex', sb]
        have M2 : M_turned H x2 gx = M_turned_b H x2 4 (0, (P : Nat), l', f', (P : Nat), x') gw := by
          unfold M_turned
          have t : M_turned_b H x2 1 (0, 0, 0, 0, 0, 0) gx = M_turned_b H x2 4 (0, (P : Nat), l', f', (P : Nat), x') gw := by
            rw [M_turned_b.eq_1 _ _ 1, if_pos rfl, em, sb, n2, if_neg (fun y => z (Or.inl y)), if_neg (fun y => z (Or.inr y))]
            have e3' : M_turned_b H x2 3 (0, 1, 0, 0, 0, 0) gm = M_turned_b H x2 4 (0, ((H ^ J : Nat) : Int), -1, 0, 0, 0) gm := e3
            have ew' : M_turned_b H x2 4 (0, ((H ^ J : Nat) : Int), -1, 0, 0, 0) gm = M_turned_b H x2 4 (0, ((H ^ J : Nat) : Int), l', f', ((H ^ J : Nat) : Int), x') gw := ew
            dsimp only
            rw [hP, ← ew']
            exact e3'
          by_cases y : x2 = 1
          · rw [if_neg (by rw [wM]; clear wX wM w0 n2; omega), if_neg (by rw [w0]; clear wX wM w0 n2; omega)]
            exact t
          · rw [if_neg (by rw [wM]; clear wX wM w0 n2; omega), if_pos (by rw [w0]; clear wX wM w0 n2; omega), if_neg (by rw [w1 gx MJx.1]; clear wX wM w0 n2; omega)]
            exact t
        have fE : FR [(10, 13), (10, 14), (10, 15), (104, 0), (105, 0), (106, 0), (117, 91), (179, 0)] g gw := (FR.mo f3x rfl).tr ((FR.mo fm rfl).tr (FR.mo fw rfl))
        have gw87 : gw 117 87 = J := by rw [fw 117 87 rfl]; exact MJm.1
        by_cases y : x2 = 1
        · refine ⟨(p.1, gx), (p.1, gw), ?_, ?_, rfl, fE⟩
          · rw [X2, X_turned_b.eq_1 2, if_neg (by decide), if_pos rfl, S2, sb, n2, if_pos y, sb]
            dsimp only
            rw [b1]
          · rw [M2, M_turned_b.eq_1 _ _ 4]
            dsimp only
            rw [if_neg (by decide), if_neg (by decide), if_neg (by decide), if_pos rfl, if_pos (Int.le_refl _), n2, if_pos y, sb, b3]
        · obtain ⟨i, hi⟩ : ∃ i : Nat, x2 = 10 + i := ⟨(x2 - 10).toNat, by (try clear wX); (try clear wM); (try clear w0); (try clear w1); (try clear n2); (try clear m1); (try clear m2); omega⟩
          have iJ : i < J := by (try clear wX); (try clear wM); (try clear w0); (try clear w1); (try clear n2); (try clear m1); (try clear m2); omega
          have ei : x2 - 10 = (i : Int) := by (try clear wX); (try clear wM); (try clear w0); (try clear w1); (try clear n2); (try clear m1); (try clear m2); omega
          have ho := M_handOf_s (i := i) (n := p.2) hH gw87 K.1 iJ (by (try clear wX); (try clear wM); (try clear w0); (try clear w1); (try clear n2); (try clear m1); (try clear m2); omega)
          refine ⟨(((dg H J p.2 i : Nat) : Int), gx), (((dg H J p.2 i : Nat) : Int), gw), ?_, ?_, rfl, fE⟩
          · have m1 : nw (i : Int) = i := nwN _ (by have := K.1; clear wX wM w0 n2; omega)
            have m2 : ix (i : Int) = i := ixN _ (by have := K.1; clear wX wM w0 n2 m1; omega)
            rw [X2, X_turned_b.eq_1 2, if_neg (by decide), if_pos rfl, S2, sb, n2, if_neg y, ei, m1, m2, if_pos (by have := K.1; clear wX wM w0 n2 m1 m2; omega), sb]
            dsimp only
            rw [b2 i iJ]
          · rw [M2, M_turned_b.eq_1 _ _ 4]
            dsimp only
            rw [if_neg (by decide), if_neg (by decide), if_neg (by decide), if_pos rfl, if_pos (Int.le_refl _), n2, if_neg y, b4, ei, ho, sb, sb]
    · refine ⟨(-1, g), (-1, g), ?_, ?_, rfl, Fr.rf⟩
      · unfold X_turned
        rw [if_neg (by rw [wX]; clear wX wM w0 n2; omega), n2, if_neg (by (try clear wX); (try clear wM); (try clear w0); (try clear w1); (try clear n2); (try clear m1); (try clear m2); omega), if_neg (by (try clear wX); (try clear wM); (try clear w0); (try clear w1); (try clear n2); (try clear m1); (try clear m2); omega), if_neg (by (try clear wX); (try clear wM); (try clear w0); (try clear w1); (try clear n2); (try clear m1); (try clear m2); omega)]
        by_cases y : x2 < 10
        · rw [if_pos y]
        · have m1 : nw (x2 - 10) = x2 - 10 := by clear wX wM w0 n2; exact nw_id (by (try clear wX); (try clear wM); (try clear w0); (try clear w1); (try clear n2); (try clear m1); (try clear m2); omega) (by (try clear wX); (try clear wM); (try clear w0); (try clear w1); (try clear n2); (try clear m1); (try clear m2); omega)
          have m2 : nw (g 10 7) = J := by rw [hJ, nwN _ (by have := K.1; clear wX wM w0 n2 m1; omega)]
          rw [if_neg y, m1, m2, if_neg (by (try clear wX); (try clear wM); (try clear w0); (try clear w1); (try clear n2); (try clear m1); (try clear m2); omega)]
      · unfold M_turned
        dsimp only
        rw [if_neg (by rw [wM]; clear wX wM w0 n2; omega), if_pos (by rw [w0]; clear wX wM w0 n2; omega), if_pos (by rw [w1 g (by (try clear wX); (try clear wM); (try clear w0); (try clear w1); (try clear n2); (try clear m1); (try clear m2); omega)]; clear wX wM w0 n2; omega)]
  · refine ⟨(-1, g), (-1, g), ?_, ?_, rfl, Fr.rf⟩
    · unfold X_turned
      rw [if_pos (by rw [wX]; clear wX wM w0 n2; omega)]
    · unfold M_turned
      dsimp only
      rw [if_pos (by rw [wM]; clear wX wM w0 n2; omega)]
end
section
/-! plain programs: the dock, what is sought -/
theorem mk_or : ∀ m, m < 128 → ∀ i, i < 7 → orI (m : Nat) (shlI 1 (i : Nat)) = ((m ||| 2 ^ i : Nat) : Int) := by decide +kernel
theorem mk_tb : ∀ m, m < 128 → ∀ i, i < 7 → tb (m : Nat) i = m.testBit i := by decide +kernel
theorem mk_lt {c m i : Nat} (hm : m < 2 ^ c) (hi : i < c) : m ||| 2 ^ i < 2 ^ c := Nat.or_lt_two_pow hm (Nat.pow_lt_pow_right (by omega) hi)
theorem mk_bit {m i j : Nat} : (m ||| 2 ^ i).testBit j = (m.testBit j || decide (i = j)) := by rw [Nat.testBit_or, Nat.testBit_two_pow]
theorem mk_gt : ∀ m, m < 128 → ∀ i, i < 7 → m.testBit i = false → m < m ||| 2 ^ i := by decide +kernel
theorem mk_p2 : ∀ c, c < 8 → 1 ≤ 2 ^ c ∧ 2 ^ c ≤ 128 ∧ shlI 1 (c : Nat) = ((2 ^ c : Nat) : Int) := by decide +kernel
def mk_n (m : Nat) : Nat → Nat
  | 0 => 0
  | i + 1 => mk_n m i + (if m.testBit i = true then 1 else 0)
theorem mk_n_le (m : Nat) : ∀ c : Nat, mk_n m c ≤ c
  | 0 => Nat.le_refl 0
  | i + 1 => by have := mk_n_le m i; unfold mk_n; split <;> omega
theorem mk_n_or {m i : Nat} (h : m.testBit i = false) : ∀ c : Nat, mk_n (m ||| 2 ^ i) c = mk_n m c + (if i < c then 1 else 0)
  | 0 => by unfold mk_n; rfl
  | c + 1 => by
    unfold mk_n
    rw [mk_n_or h c, mk_bit]
    by_cases z : i = c
    · subst z
      rw [h]
      simp
    · by_cases y : i < c
      · rw [if_pos y, if_pos (show i < c + 1 by omega)]
        simp only [decide_eq_false z, Bool.or_false]
        omega
      · rw [if_neg y, if_neg (show ¬ i < c + 1 by omega)]
        simp only [decide_eq_false z, Bool.or_false]
        omega
theorem mk_n_all {m : Nat} : ∀ c : Nat, (∀ j, j < c → m.testBit j = true) → mk_n m c = c
  | 0, _ => rfl
  | c + 1, h => by unfold mk_n; rw [mk_n_all c (fun j hj => h j (by omega)), h c (by omega)]; rfl
theorem mk_full : ∀ c, c < 8 → ∀ m, m < 128 → m < 2 ^ c → mk_n m c = c → m = 2 ^ c - 1 := by decide +kernel
theorem mk_n_full : ∀ c, c < 8 → mk_n (2 ^ c - 1) c = c := by decide +kernel
def dkDay (dy : Nat → Int) (m : Nat) : Nat → Int
  | 0 => 0
  | i + 1 => dkDay dy m i + (if m.testBit i = true then dy i else 0)
theorem dkDay_or {dy : Nat → Int} {m i : Nat} (h : m.testBit i = false) : ∀ c : Nat, dkDay dy (m ||| 2 ^ i) c = dkDay dy m c + (if i < c then dy i else 0)
  | 0 => by unfold dkDay; rfl
  | c + 1 => by
    unfold dkDay
    rw [dkDay_or h c, mk_bit]
    by_cases z : i = c
    · subst z
      rw [h]
      simp
    · by_cases y : i < c
      · rw [if_pos y, if_pos (show i < c + 1 by omega)]
        simp only [decide_eq_false z, Bool.or_false]
        omega
      · rw [if_neg y, if_neg (show ¬ i < c + 1 by omega)]
        simp only [decide_eq_false z, Bool.or_false]
        omega
theorem dkDay_0 {dy : Nat → Int} : ∀ c : Nat, dkDay dy 0 c = 0
  | 0 => rfl
  | c + 1 => by unfold dkDay; rw [dkDay_0 c, Nat.zero_testBit]; rfl
def DkOk (dy dt : Nat → Int) (c : Nat) : Prop := c ≤ 7 ∧ ∀ i, i < c → (1 ≤ dy i ∧ dy i ≤ 60) ∧ (0 ≤ dt i ∧ dt i ≤ 999)
theorem dkDay_rng {dy dt : Nat → Int} {c m : Nat} (K : DkOk dy dt c) : ∀ i : Nat, i ≤ c → 0 ≤ dkDay dy m i ∧ dkDay dy m i ≤ 60 * i
  | 0, _ => by unfold dkDay; omega
  | i + 1, h => by
    have := dkDay_rng (m := m) K i (by omega)
    have := (K.2 i (by omega)).1
    unfold dkDay
    split <;> omega
/-- is (a, b) better than (c, d) -/
abbrev dkLt (a b c d : Int) : Prop := a < c ∨ (a = c ∧ b < d)
def dkStep (dy dt : Nat → Int) (T : Nat → Int × Int) (c m : Nat) : Nat → Option (Int × Int × Nat)
  | 0 => none
  | i + 1 => if m.testBit i = true then dkStep dy dt T c m i else
    match dkStep dy dt T c m i with
    | none => some ((T (m ||| 2 ^ i)).1 + (if dkDay dy m c + dy i ≤ dt i then 0 else 1), (T (m ||| 2 ^ i)).2 + (dkDay dy m c + dy i), i)
    | some p => if dkLt ((T (m ||| 2 ^ i)).1 + (if dkDay dy m c + dy i ≤ dt i then 0 else 1)) ((T (m ||| 2 ^ i)).2 + (dkDay dy m c + dy i)) p.1 p.2.1 then some ((T (m ||| 2 ^ i)).1 + (if dkDay dy m c + dy i ≤ dt i then 0 else 1), (T (m ||| 2 ^ i)).2 + (dkDay dy m c + dy i), i) else some p
theorem dkStep_cg {dy dt : Nat → Int} {T T' : Nat → Int × Int} {c m : Nat} (hc : c ≤ 7) (hm : m < 2 ^ c) (h : ∀ x, m < x → x < 2 ^ c → T x = T' x) : ∀ i : Nat, i ≤ c → dkStep dy dt T c m i = dkStep dy dt T' c m i
  | 0, _ => rfl
  | i + 1, hi => by
    have e := dkStep_cg (dy := dy) (dt := dt) hc hm h i (by omega)
    have p2 := mk_p2 c (by omega)
    unfold dkStep
    by_cases z : m.testBit i = true
    · rw [if_pos z, if_pos z]; exact e
    · have z' : m.testBit i = false := by cases y : m.testBit i with
        | true => exact absurd y z
        | false => rfl
      rw [if_neg z, if_neg z, e, h _ (mk_gt m (by omega) i (by omega) z') (mk_lt hm (by omega))]
theorem dkStep_none {dy dt : Nat → Int} {T : Nat → Int × Int} {c m : Nat} : ∀ i : Nat, dkStep dy dt T c m i = none → ∀ j, j < i → m.testBit j = true
  | 0, _, j, hj => by omega
  | i + 1, h, j, hj => by
    unfold dkStep at h
    by_cases z : m.testBit i = true
    · rw [if_pos z] at h
      by_cases y : j = i
      · rw [y]; exact z
      · exact dkStep_none i h j (by omega)
    · rw [if_neg z] at h
      generalize (if dkDay dy m c + dy i ≤ dt i then (0 : Int) else 1) = E at h
      cases q : dkStep dy dt T c m i with
      | none => rw [q] at h; cases h
      | some p => rw [q] at h; dsimp only at h; split at h <;> cases h
theorem dkStep_ok {dy dt : Nat → Int} {T : Nat → Int × Int} {c m : Nat} (K : DkOk dy dt c) (hm : m < 2 ^ c) (hT : ∀ x, m < x → x < 2 ^ c → (0 ≤ (T x).1 ∧ (T x).1 ≤ c - mk_n x c) ∧ (0 ≤ (T x).2 ∧ (T x).2 ≤ 420 * (c - mk_n x c))) : ∀ i : Nat, i ≤ c → ∀ p, dkStep dy dt T c m i = some p → ((0 ≤ p.1 ∧ p.1 ≤ c - mk_n m c) ∧ (0 ≤ p.2.1 ∧ p.2.1 ≤ 420 * (c - mk_n m c))) ∧ p.2.2 < i ∧ m.testBit p.2.2 = false
  | 0, _, p, h => by cases h
  | i + 1, hi, p, h => by
    have hc := K.1
    have p2 := mk_p2 c (by omega)
    have ih := dkStep_ok K hm hT i (by omega)
    have rD := dkDay_rng (m := m) K c (Nat.le_refl c)
    have ri := K.2 i (by omega)
    unfold dkStep at h
    by_cases z : m.testBit i = true
    · rw [if_pos z] at h
      have := ih p h
      exact ⟨this.1, by omega, this.2.2⟩
    · have z' : m.testBit i = false := by cases y : m.testBit i with
        | true => exact absurd y z
        | false => rfl
      rw [if_neg z] at h
      have t := hT _ (mk_gt m (by omega) i (by omega) z') (mk_lt hm (by omega))
      have nn := mk_n_or z' c
      rw [if_pos (show i < c by omega)] at nn
      have nl := mk_n_le (m ||| 2 ^ i) c
      rw [nn] at t nl
      have rD2 := dkDay_rng (m := m ||| 2 ^ i) K c (Nat.le_refl c)
      rw [dkDay_or z' c, if_pos (show i < c by omega)] at rD2
      obtain ⟨E, hE⟩ : ∃ E : Int, E = (if dkDay dy m c + dy i ≤ dt i then (0 : Int) else 1) := ⟨_, rfl⟩
      have rE : 0 ≤ E ∧ E ≤ 1 := by rw [hE]; split <;> omega
      rw [← hE] at h
      have new : ∀ q : Int × Int × Nat, q = ((T (m ||| 2 ^ i)).1 + E, (T (m ||| 2 ^ i)).2 + (dkDay dy m c + dy i), i) → ((0 ≤ q.1 ∧ q.1 ≤ c - mk_n m c) ∧ (0 ≤ q.2.1 ∧ q.2.1 ≤ 420 * (c - mk_n m c))) ∧ q.2.2 < i + 1 ∧ m.testBit q.2.2 = false := by
        intro q hq
        subst hq
        dsimp only
        exact ⟨⟨by omega, by omega⟩, by omega, z'⟩
      cases e : dkStep dy dt T c m i with
      | none =>
        rw [e] at h
        exact new p (Option.some.inj h).symm
      | some q =>
        rw [e] at h
        dsimp only at h
        split at h
        · exact new p (Option.some.inj h).symm
        · have hp := Option.some.inj h
          subst hp
          have := ih q e
          exact ⟨this.1, by omega, this.2.2⟩
/-- the boats that are told for the dock, in their order -/
def dkL (f : Nat → Int) : Nat → Nat × (Nat → Nat)
  | 0 => (0, fun _ => 0)
  | b + 1 => if 0 < f b then ((dkL f b).1 + 1, ud (dkL f b).2 (dkL f b).1 b) else dkL f b
theorem dkL_ok {f : Nat → Int} : ∀ b : Nat, (dkL f b).1 ≤ b ∧ ∀ i, i < (dkL f b).1 → (dkL f b).2 i < b ∧ 0 < f ((dkL f b).2 i)
  | 0 => ⟨Nat.le_refl 0, fun i hi => by unfold dkL at hi; omega⟩
  | b + 1 => by
    have ih := dkL_ok (f := f) b
    unfold dkL
    by_cases z : 0 < f b
    · rw [if_pos z]
      dsimp only
      refine ⟨by omega, fun i hi => ?_⟩
      by_cases y : i = (dkL f b).1
      · rw [y, ud_at]; exact ⟨by omega, z⟩
      · rw [ud_lt (by omega)]
        have := ih.2 i (by omega)
        exact ⟨by omega, this.2⟩
    · rw [if_neg z]
      refine ⟨by omega, fun i hi => ?_⟩
      have := ih.2 i hi
      exact ⟨by omega, this.2⟩
theorem dkL_sm {g : AG} : ∀ b : Nat, ((dkL (g 98) b).1 : Int) = sm (dkF g) b
  | 0 => rfl
  | b + 1 => by
    have ih := dkL_sm (g := g) b
    show _ = sm (dkF g) b + dkF g b
    rw [← ih]
    have e1 : dkL (g 98) (b + 1) = if 0 < g 98 b then ((dkL (g 98) b).1 + 1, ud (dkL (g 98) b).2 (dkL (g 98) b).1 b) else dkL (g 98) b := rfl
    have e2 : dkF g b = if 0 < g 98 b then 1 else 0 := rfl
    rw [e1, e2]
    by_cases z : 0 < g 98 b
    · rw [if_pos z, if_pos z]; rfl
    · rw [if_neg z, if_neg z]; omega
theorem dkL_end {f : Nat → Int} {N : Nat} : ∀ b : Nat, N ≤ b → (∀ x, N ≤ x → x < b → f x = 0) → dkL f b = dkL f N
  | 0, h, _ => by rw [show N = 0 by omega]
  | b + 1, h, q => by
    by_cases e : N = b + 1
    · rw [e]
    · have e1 : dkL f (b + 1) = dkL f b := by
        show (if 0 < f b then _ else dkL f b) = _
        rw [if_neg (by rw [q b (by omega) (by omega)]; decide)]
      rw [e1]
      exact dkL_end (f := f) (N := N) b (by omega) (fun x h1 h2 => q x h1 (by omega))
end
section
/-! plain programs: the dock, the class -/
def XD (g : AG) (dy dt : Nat → Int) (bl : Nat → Nat) (c : Nat) : Prop := g 10 2 = c ∧ ∀ i, i < c → g 99 i = bl i ∧ bl i < 10 ∧ g 98 (bl i) = dy i ∧ g 97 (bl i) = dt i
abbrev RXD : Reg := [(100, 0), (101, 0), (102, 0)]
theorem XD.fr {g g' : AG} {dy dt : Nat → Int} {bl : Nat → Nat} {c : Nat} (h : XD g dy dt bl c) (f : FR RXD g g') : XD g' dy dt bl c := ⟨by rw [f 10 2 rfl]; exact h.1, fun i hi => by rw [f 99 i rfl, f 98 _ rfl, f 97 _ rfl]; exact h.2 i hi⟩
theorem X_day_s {dy dt : Nat → Int} {bl : Nat → Nat} {c : Nat} (K : DkOk dy dt c) {g : AG} (X : XD g dy dt bl c) {m : Nat} (hm : m < 2 ^ c) : ∀ (n i : Nat), i + n = c → Yard_chooseNext_b m 1 (dkDay dy m i) i g = Yard_chooseNext_b m 1 (dkDay dy m c) c g := by
  intro n
  induction n with
  | zero => intro i h; rw [show i = c by (try clear n0); (try clear n1); (try clear n2); (try clear n3); (try clear n4); (try clear hb); omega]
  | succ n ih =>
    intro i h
    have hc := K.1
    have p2 := mk_p2 c (by (try clear n0); (try clear n1); (try clear n2); (try clear n3); (try clear n4); (try clear hb); omega)
    have x := X.2 i (by (try clear n0); (try clear n1); (try clear n2); (try clear n3); (try clear n4); (try clear hb); omega)
    have e2 := ih (i + 1) (by (try clear n0); (try clear n1); (try clear n2); (try clear n3); (try clear n4); (try clear hb); omega)
    have n0 : nw (g 10 2) = c := by rw [X.1, nwN _ (by (try clear n0); (try clear n1); (try clear n2); (try clear n3); (try clear n4); (try clear hb); omega)]
    have n1 : nw (i : Int) = i := nwN _ (by (try clear n0); (try clear n1); (try clear n2); (try clear n3); (try clear n4); (try clear hb); omega)
    have n2 : ix (i : Int) = i := ixN _ (by (try clear n0); (try clear n1); (try clear n2); (try clear n3); (try clear n4); (try clear hb); omega)
    have n3 : nw ((bl i : Nat) : Int) = (bl i : Nat) := nwN _ (by (try clear n0); (try clear n1); (try clear n2); (try clear n3); (try clear n4); (try clear hb); omega)
    have n4 : ix ((bl i : Nat) : Int) = bl i := ixN _ (by (try clear n0); (try clear n1); (try clear n2); (try clear n3); (try clear n4); (try clear hb); omega)
    have hb := bit_q m i (by (try clear n0); (try clear n1); (try clear n2); (try clear n3); (try clear n4); (try clear hb); omega)
    rw [mk_tb m (by (try clear n0); (try clear n1); (try clear n2); (try clear n3); (try clear n4); (try clear hb); omega) i (by (try clear n0); (try clear n1); (try clear n2); (try clear n3); (try clear n4); (try clear hb); omega)] at hb
    rw [← e2, Yard_chooseNext_b.eq_1 _ 1, n0, n1, n2, hb, x.1, n3, n4, x.2.2.1]
    clear n0 n1 n2 n3 n4 hb
    rw [if_pos rfl, if_neg (by (try clear n0); (try clear n1); (try clear n2); (try clear n3); (try clear n4); (try clear hb); omega)]
    show _ = Yard_chooseNext_b m 1 (dkDay dy m i + (if m.testBit i = true then dy i else 0)) ((i : Int) + 1) g
    by_cases z : m.testBit i = true
    · rw [if_pos z, if_pos z, if_neg (by decide), if_pos (by (try clear n0); (try clear n1); (try clear n2); (try clear n3); (try clear n4); (try clear hb); omega), if_pos (by (try clear n0); (try clear n1); (try clear n2); (try clear n3); (try clear n4); (try clear hb); omega), sb]
    · rw [if_neg z, if_neg z, if_pos rfl, sb]
/-- what is told of the best way on from a set, as it stands in the rows -/
def XN (g : AG) (m : Nat) (s : Option (Int × Int × Nat)) : Prop := (s = none ∧ g 102 m = -1) ∨ ∃ p, s = some p ∧ g 100 m = p.1 ∧ g 101 m = p.2.1 ∧ g 102 m = (p.2.2 : Nat)
def ATM (m : Nat) (g g' : AG) : Prop := ∀ k i, ¬ ((k = 100 ∨ k = 101 ∨ k = 102) ∧ i = m) → g' k i = g k i
theorem ATM.fr {m : Nat} {g g' : AG} (h : ATM m g g') : FR RXD g g' := fun k i q => h k i (fun z => by
  rcases z.1 with e | e | e <;> rw [e] at q <;> cases q)
theorem ATM.tr {m : Nat} {g g' g'' : AG} (h : ATM m g g') (h2 : ATM m g' g'') : ATM m g g'' := fun k i q => (h2 k i q).trans (h k i q)
theorem ATM.up {m k : Nat} {g g' : AG} {v : Int} (h : ATM m g g') (hk : k = 100 ∨ k = 101 ∨ k = 102) : ATM m g (up g' k m v) := fun a i q => by
  rw [up_at, if_neg (fun z => q ⟨by rw [z.1]; exact hk, z.2⟩)]
  exact h a i q
theorem X_choose_s {dy dt : Nat → Int} {bl : Nat → Nat} {c : Nat} (K : DkOk dy dt c) {T : Nat → Int × Int} {m : Nat} (hm : m < 2 ^ c) (hT : ∀ x, m < x → x < 2 ^ c → (0 ≤ (T x).1 ∧ (T x).1 ≤ c - mk_n x c) ∧ (0 ≤ (T x).2 ∧ (T x).2 ≤ 420 * (c - mk_n x c))) : ∀ (n i : Nat) (g : AG), i + n = c → XD g dy dt bl c → (∀ x, m < x → x < 2 ^ c → g 100 x = (T x).1 ∧ g 101 x = (T x).2) → XN g m (dkStep dy dt T c m i) → ∃ g', Yard_chooseNext_b m 2 (dkDay dy m c) i g = some (0, g') ∧ ATM m g g' ∧ XN g' m (dkStep dy dt T c m c) := by
  intro n
  induction n with
  | zero =>
    intro i g h X hg hN
    have hc := K.1
    refine ⟨g, ?_, fun _ _ _ => rfl, by rw [← show i = c by (try clear n0); (try clear n1); (try clear n2); (try clear n3); (try clear n4); (try clear n5); (try clear n6); (try clear n7); (try clear n8); (try clear n9); (try clear n10); (try clear n11); (try clear n12); (try clear m1); (try clear m2); (try clear m3); (try clear body); (try clear hb); (try clear hor); omega]; rw [← show i = c by (try clear n0); (try clear n1); (try clear n2); (try clear n3); (try clear n4); (try clear n5); (try clear n6); (try clear n7); (try clear n8); (try clear n9); (try clear n10); (try clear n11); (try clear n12); (try clear m1); (try clear m2); (try clear m3); (try clear body); (try clear hb); (try clear hor); omega] at hN; exact (show i = c by (try clear n0); (try clear n1); (try clear n2); (try clear n3); (try clear n4); (try clear n5); (try clear n6); (try clear n7); (try clear n8); (try clear n9); (try clear n10); (try clear n11); (try clear n12); (try clear m1); (try clear m2); (try clear m3); (try clear body); (try clear hb); (try clear hor); omega) ▸ hN⟩
    rw [Yard_chooseNext_b.eq_1 _ 2, if_neg (by decide), if_pos rfl, if_pos (by rw [X.1, nwN _ (by (try clear n0); (try clear n1); (try clear n2); (try clear n3); (try clear n4); (try clear n5); (try clear n6); (try clear n7); (try clear n8); (try clear n9); (try clear n10); (try clear n11); (try clear n12); (try clear m1); (try clear m2); (try clear m3); (try clear body); (try clear hb); (try clear hor); omega), nwN _ (by (try clear n0); (try clear n1); (try clear n2); (try clear n3); (try clear n4); (try clear n5); (try clear n6); (try clear n7); (try clear n8); (try clear n9); (try clear n10); (try clear n11); (try clear n12); (try clear m1); (try clear m2); (try clear m3); (try clear body); (try clear hb); (try clear hor); omega)]; omega)]
  | succ n ih =>
    intro i g h X hg hN
    have hc := K.1
    have p2 := mk_p2 c (by (try clear n0); (try clear n1); (try clear n2); (try clear n3); (try clear n4); (try clear n5); (try clear n6); (try clear n7); (try clear n8); (try clear n9); (try clear n10); (try clear n11); (try clear n12); (try clear m1); (try clear m2); (try clear m3); (try clear body); (try clear hb); (try clear hor); omega)
    have x := X.2 i (by (try clear n0); (try clear n1); (try clear n2); (try clear n3); (try clear n4); (try clear n5); (try clear n6); (try clear n7); (try clear n8); (try clear n9); (try clear n10); (try clear n11); (try clear n12); (try clear m1); (try clear m2); (try clear m3); (try clear body); (try clear hb); (try clear hor); omega)
    have ki := K.2 i (by (try clear n0); (try clear n1); (try clear n2); (try clear n3); (try clear n4); (try clear n5); (try clear n6); (try clear n7); (try clear n8); (try clear n9); (try clear n10); (try clear n11); (try clear n12); (try clear m1); (try clear m2); (try clear m3); (try clear body); (try clear hb); (try clear hor); omega)
    have rD := dkDay_rng (m := m) K c (Nat.le_refl c)
    have n0 : nw (g 10 2) = c := by rw [X.1, nwN _ (by (try clear n0); (try clear n1); (try clear n2); (try clear n3); (try clear n4); (try clear n5); (try clear n6); (try clear n7); (try clear n8); (try clear n9); (try clear n10); (try clear n11); (try clear n12); (try clear m1); (try clear m2); (try clear m3); (try clear body); (try clear hb); (try clear hor); omega)]
    have n1 : nw (i : Int) = i := nwN _ (by (try clear n0); (try clear n1); (try clear n2); (try clear n3); (try clear n4); (try clear n5); (try clear n6); (try clear n7); (try clear n8); (try clear n9); (try clear n10); (try clear n11); (try clear n12); (try clear m1); (try clear m2); (try clear m3); (try clear body); (try clear hb); (try clear hor); omega)
    have n2 : ix (i : Int) = i := ixN _ (by (try clear n0); (try clear n1); (try clear n2); (try clear n3); (try clear n4); (try clear n5); (try clear n6); (try clear n7); (try clear n8); (try clear n9); (try clear n10); (try clear n11); (try clear n12); (try clear m1); (try clear m2); (try clear m3); (try clear body); (try clear hb); (try clear hor); omega)
    have n3 : nw ((bl i : Nat) : Int) = (bl i : Nat) := nwN _ (by (try clear n0); (try clear n1); (try clear n2); (try clear n3); (try clear n4); (try clear n5); (try clear n6); (try clear n7); (try clear n8); (try clear n9); (try clear n10); (try clear n11); (try clear n12); (try clear m1); (try clear m2); (try clear m3); (try clear body); (try clear hb); (try clear hor); omega)
    have n4 : ix ((bl i : Nat) : Int) = bl i := ixN _ (by (try clear n0); (try clear n1); (try clear n2); (try clear n3); (try clear n4); (try clear n5); (try clear n6); (try clear n7); (try clear n8); (try clear n9); (try clear n10); (try clear n11); (try clear n12); (try clear m1); (try clear m2); (try clear m3); (try clear body); (try clear hb); (try clear hor); omega)
    have n5 : nw (m : Int) = m := nwN _ (by (try clear n0); (try clear n1); (try clear n2); (try clear n3); (try clear n4); (try clear n5); (try clear n6); (try clear n7); (try clear n8); (try clear n9); (try clear n10); (try clear n11); (try clear n12); (try clear m1); (try clear m2); (try clear m3); (try clear body); (try clear hb); (try clear hor); omega)
    have n6 : ix (m : Int) = m := ixN _ (by (try clear n0); (try clear n1); (try clear n2); (try clear n3); (try clear n4); (try clear n5); (try clear n6); (try clear n7); (try clear n8); (try clear n9); (try clear n10); (try clear n11); (try clear n12); (try clear m1); (try clear m2); (try clear m3); (try clear body); (try clear hb); (try clear hor); omega)
    have hb := bit_q m i (by (try clear n0); (try clear n1); (try clear n2); (try clear n3); (try clear n4); (try clear n5); (try clear n6); (try clear n7); (try clear n8); (try clear n9); (try clear n10); (try clear n11); (try clear n12); (try clear m1); (try clear m2); (try clear m3); (try clear body); (try clear hb); (try clear hor); omega)
    rw [mk_tb m (by (try clear n0); (try clear n1); (try clear n2); (try clear n3); (try clear n4); (try clear n5); (try clear n6); (try clear n7); (try clear n8); (try clear n9); (try clear n10); (try clear n11); (try clear n12); (try clear m1); (try clear m2); (try clear m3); (try clear body); (try clear hb); (try clear hor); omega) i (by (try clear n0); (try clear n1); (try clear n2); (try clear n3); (try clear n4); (try clear n5); (try clear n6); (try clear n7); (try clear n8); (try clear n9); (try clear n10); (try clear n11); (try clear n12); (try clear m1); (try clear m2); (try clear m3); (try clear body); (try clear hb); (try clear hor); omega)] at hb
    by_cases z : m.testBit i = true
    · have es : dkStep dy dt T c m (i + 1) = dkStep dy dt T c m i := by
        show (if m.testBit i = true then dkStep dy dt T c m i else _) = _
        rw [if_pos z]
      obtain ⟨g', e, f, r⟩ := ih (i + 1) g (by (try clear n0); (try clear n1); (try clear n2); (try clear n3); (try clear n4); (try clear n5); (try clear n6); (try clear n7); (try clear n8); (try clear n9); (try clear n10); (try clear n11); (try clear n12); (try clear m1); (try clear m2); (try clear m3); (try clear body); (try clear hb); (try clear hor); omega) X hg (by rw [es]; exact hN)
      refine ⟨g', ?_, f, r⟩
      rw [Yard_chooseNext_b.eq_1 _ 2, n0, n1, hb, if_neg (by decide), if_pos rfl, if_neg (by (try clear n0); (try clear n1); (try clear n2); (try clear n3); (try clear n4); (try clear n5); (try clear n6); (try clear n7); (try clear n8); (try clear n9); (try clear n10); (try clear n11); (try clear n12); (try clear m1); (try clear m2); (try clear m3); (try clear body); (try clear hb); (try clear hor); omega), if_pos z, if_neg (by decide), sb]
      exact e
    · have z' : m.testBit i = false := by cases y : m.testBit i with
        | true => exact absurd y z
        | false => rfl
      have hgt := mk_gt m (by (try clear n0); (try clear n1); (try clear n2); (try clear n3); (try clear n4); (try clear n5); (try clear n6); (try clear n7); (try clear n8); (try clear n9); (try clear n10); (try clear n11); (try clear n12); (try clear m1); (try clear m2); (try clear m3); (try clear body); (try clear hb); (try clear hor); omega) i (by (try clear n0); (try clear n1); (try clear n2); (try clear n3); (try clear n4); (try clear n5); (try clear n6); (try clear n7); (try clear n8); (try clear n9); (try clear n10); (try clear n11); (try clear n12); (try clear m1); (try clear m2); (try clear m3); (try clear body); (try clear hb); (try clear hor); omega) z'
      have hlt := mk_lt hm (show i < c by (try clear n0); (try clear n1); (try clear n2); (try clear n3); (try clear n4); (try clear n5); (try clear n6); (try clear n7); (try clear n8); (try clear n9); (try clear n10); (try clear n11); (try clear n12); (try clear m1); (try clear m2); (try clear m3); (try clear body); (try clear hb); (try clear hor); omega)
      have hor := mk_or m (by (try clear n0); (try clear n1); (try clear n2); (try clear n3); (try clear n4); (try clear n5); (try clear n6); (try clear n7); (try clear n8); (try clear n9); (try clear n10); (try clear n11); (try clear n12); (try clear m1); (try clear m2); (try clear m3); (try clear body); (try clear hb); (try clear hor); omega) i (by (try clear n0); (try clear n1); (try clear n2); (try clear n3); (try clear n4); (try clear n5); (try clear n6); (try clear n7); (try clear n8); (try clear n9); (try clear n10); (try clear n11); (try clear n12); (try clear m1); (try clear m2); (try clear m3); (try clear body); (try clear hb); (try clear hor); omega)
      have t := hT _ hgt hlt
      have tg := hg _ hgt hlt
      obtain ⟨M, hM⟩ : ∃ M, M = m ||| 2 ^ i := ⟨_, rfl⟩
      rw [← hM] at hor t tg hgt hlt
      have n7 : nw (M : Int) = M := nwN _ (by (try clear n0); (try clear n1); (try clear n2); (try clear n3); (try clear n4); (try clear n5); (try clear n6); (try clear n7); (try clear n8); (try clear n9); (try clear n10); (try clear n11); (try clear n12); (try clear m1); (try clear m2); (try clear m3); (try clear body); (try clear hb); (try clear hor); omega)
      have n8 : ix (M : Int) = M := ixN _ (by (try clear n0); (try clear n1); (try clear n2); (try clear n3); (try clear n4); (try clear n5); (try clear n6); (try clear n7); (try clear n8); (try clear n9); (try clear n10); (try clear n11); (try clear n12); (try clear m1); (try clear m2); (try clear m3); (try clear body); (try clear hb); (try clear hor); omega)
      have n9 : nw (dkDay dy m c + dy i) = dkDay dy m c + dy i := by
        clear n0 n1 n2 n3 n4 n5 n6 n7 n8 hb
        exact nw_id (by (try clear n0); (try clear n1); (try clear n2); (try clear n3); (try clear n4); (try clear n5); (try clear n6); (try clear n7); (try clear n8); (try clear n9); (try clear n10); (try clear n11); (try clear n12); (try clear m1); (try clear m2); (try clear m3); (try clear body); (try clear hb); (try clear hor); omega) (by (try clear n0); (try clear n1); (try clear n2); (try clear n3); (try clear n4); (try clear n5); (try clear n6); (try clear n7); (try clear n8); (try clear n9); (try clear n10); (try clear n11); (try clear n12); (try clear m1); (try clear m2); (try clear m3); (try clear body); (try clear hb); (try clear hor); omega)
      have n10 : nw (dt i) = dt i := by
        clear n0 n1 n2 n3 n4 n5 n6 n7 n8 n9 hb
        exact nw_id (by (try clear n0); (try clear n1); (try clear n2); (try clear n3); (try clear n4); (try clear n5); (try clear n6); (try clear n7); (try clear n8); (try clear n9); (try clear n10); (try clear n11); (try clear n12); (try clear m1); (try clear m2); (try clear m3); (try clear body); (try clear hb); (try clear hor); omega) (by (try clear n0); (try clear n1); (try clear n2); (try clear n3); (try clear n4); (try clear n5); (try clear n6); (try clear n7); (try clear n8); (try clear n9); (try clear n10); (try clear n11); (try clear n12); (try clear m1); (try clear m2); (try clear m3); (try clear body); (try clear hb); (try clear hor); omega)
      obtain ⟨A, hA⟩ : ∃ A, A = (T M).1 + (if dkDay dy m c + dy i ≤ dt i then 0 else 1) := ⟨_, rfl⟩
      obtain ⟨B, hB⟩ : ∃ B, B = (T M).2 + (dkDay dy m c + dy i) := ⟨_, rfl⟩
      have rA : 0 ≤ A ∧ A ≤ 100 := by
        rw [hA]
        clear n0 n1 n2 n3 n4 n5 n6 n7 n8 n9 n10 hb
        split <;> omega
      have rB : 0 ≤ B ∧ B ≤ 10000 := by
        rw [hB]
        clear n0 n1 n2 n3 n4 n5 n6 n7 n8 n9 n10 hb
        omega
      have n11 : nw A = A := by
        clear n0 n1 n2 n3 n4 n5 n6 n7 n8 n9 n10 hb
        exact nw_id (by (try clear n0); (try clear n1); (try clear n2); (try clear n3); (try clear n4); (try clear n5); (try clear n6); (try clear n7); (try clear n8); (try clear n9); (try clear n10); (try clear n11); (try clear n12); (try clear m1); (try clear m2); (try clear m3); (try clear body); (try clear hb); (try clear hor); omega) (by (try clear n0); (try clear n1); (try clear n2); (try clear n3); (try clear n4); (try clear n5); (try clear n6); (try clear n7); (try clear n8); (try clear n9); (try clear n10); (try clear n11); (try clear n12); (try clear m1); (try clear m2); (try clear m3); (try clear body); (try clear hb); (try clear hor); omega)
      have n12 : nw B = B := by
        clear n0 n1 n2 n3 n4 n5 n6 n7 n8 n9 n10 n11 hb
        exact nw_id (by (try clear n0); (try clear n1); (try clear n2); (try clear n3); (try clear n4); (try clear n5); (try clear n6); (try clear n7); (try clear n8); (try clear n9); (try clear n10); (try clear n11); (try clear n12); (try clear m1); (try clear m2); (try clear m3); (try clear body); (try clear hb); (try clear hor); omega) (by (try clear n0); (try clear n1); (try clear n2); (try clear n3); (try clear n4); (try clear n5); (try clear n6); (try clear n7); (try clear n8); (try clear n9); (try clear n10); (try clear n11); (try clear n12); (try clear m1); (try clear m2); (try clear m3); (try clear body); (try clear hb); (try clear hor); omega)
      have es : dkStep dy dt T c m (i + 1) = (match dkStep dy dt T c m i with | none => some (A, B, i) | some p => if dkLt A B p.1 p.2.1 then some (A, B, i) else some p) := by
        rw [hA, hB, hM]
        show (if m.testBit i = true then _ else _) = _
        rw [if_neg z]
        try rfl
      -- what isBetter says, and what is written
      obtain ⟨w, hw, hg2⟩ : ∃ w : Bool, Yard_isBetter m A B g = some (if w = true then 1 else 0) ∧ dkStep dy dt T c m (i + 1) = (if w = true then some (A, B, i) else dkStep dy dt T c m i) := by
        rw [es]
        unfold Yard_isBetter
        rw [n5, n6, n11, n12, if_pos (by (try clear n0); (try clear n1); (try clear n2); (try clear n3); (try clear n4); (try clear n5); (try clear n6); (try clear n7); (try clear n8); (try clear n9); (try clear n10); (try clear n11); (try clear n12); (try clear m1); (try clear m2); (try clear m3); (try clear body); (try clear hb); (try clear hor); omega)]
        rcases hN with ⟨e1, e2⟩ | ⟨p, e1, e2, e3, e4⟩
        · rw [e1, e2, nw_m1, if_pos rfl, sb]
          exact ⟨true, rfl, rfl⟩
        · have rp := dkStep_ok K hm hT i (by (try clear n0); (try clear n1); (try clear n2); (try clear n3); (try clear n4); (try clear n5); (try clear n6); (try clear n7); (try clear n8); (try clear n9); (try clear n10); (try clear n11); (try clear n12); (try clear m1); (try clear m2); (try clear m3); (try clear body); (try clear hb); (try clear hor); omega) p e1
          have m1 : nw ((p.2.2 : Nat) : Int) = (p.2.2 : Nat) := nwN _ (by (try clear n0); (try clear n1); (try clear n2); (try clear n3); (try clear n4); (try clear n5); (try clear n6); (try clear n7); (try clear n8); (try clear n9); (try clear n10); (try clear n11); (try clear n12); (try clear m1); (try clear m2); (try clear m3); (try clear body); (try clear hb); (try clear hor); omega)
          have m2 : nw p.1 = p.1 := by clear n0 n1 n2 n3 n4 n5 n6 n7 n8 n9 n10 n11 n12 hb m1; exact nw_id (by (try clear n0); (try clear n1); (try clear n2); (try clear n3); (try clear n4); (try clear n5); (try clear n6); (try clear n7); (try clear n8); (try clear n9); (try clear n10); (try clear n11); (try clear n12); (try clear m1); (try clear m2); (try clear m3); (try clear body); (try clear hb); (try clear hor); omega) (by (try clear n0); (try clear n1); (try clear n2); (try clear n3); (try clear n4); (try clear n5); (try clear n6); (try clear n7); (try clear n8); (try clear n9); (try clear n10); (try clear n11); (try clear n12); (try clear m1); (try clear m2); (try clear m3); (try clear body); (try clear hb); (try clear hor); omega)
          have m3 : nw p.2.1 = p.2.1 := by clear n0 n1 n2 n3 n4 n5 n6 n7 n8 n9 n10 n11 n12 hb m1 m2; exact nw_id (by (try clear n0); (try clear n1); (try clear n2); (try clear n3); (try clear n4); (try clear n5); (try clear n6); (try clear n7); (try clear n8); (try clear n9); (try clear n10); (try clear n11); (try clear n12); (try clear m1); (try clear m2); (try clear m3); (try clear body); (try clear hb); (try clear hor); omega) (by (try clear n0); (try clear n1); (try clear n2); (try clear n3); (try clear n4); (try clear n5); (try clear n6); (try clear n7); (try clear n8); (try clear n9); (try clear n10); (try clear n11); (try clear n12); (try clear m1); (try clear m2); (try clear m3); (try clear body); (try clear hb); (try clear hor); omega)
          rw [e1, e2, e3, e4, m1, m2, m3, if_neg (by (try clear n0); (try clear n1); (try clear n2); (try clear n3); (try clear n4); (try clear n5); (try clear n6); (try clear n7); (try clear n8); (try clear n9); (try clear n10); (try clear n11); (try clear n12); (try clear m1); (try clear m2); (try clear m3); (try clear body); (try clear hb); (try clear hor); omega)]
          clear n0 n1 n2 n3 n4 n5 n6 n7 n8 n9 n10 n11 n12 hb m1 m2 m3
          dsimp only
          by_cases y1 : A < p.1
          · rw [if_pos y1, sb, if_pos (Or.inr rfl), if_pos (Or.inl y1)]
            exact ⟨true, rfl, rfl⟩
          · rw [if_neg y1]
            by_cases y2 : A = p.1
            · rw [if_pos y2, sb]
              by_cases y3 : B < p.2.1
              · rw [if_neg (by (try clear n0); (try clear n1); (try clear n2); (try clear n3); (try clear n4); (try clear n5); (try clear n6); (try clear n7); (try clear n8); (try clear n9); (try clear n10); (try clear n11); (try clear n12); (try clear m1); (try clear m2); (try clear m3); (try clear body); (try clear hb); (try clear hor); omega), sb, if_pos (Or.inr rfl), if_pos (Or.inr ⟨y2, y3⟩)]
                exact ⟨true, rfl, rfl⟩
              · rw [if_pos (show p.2.1 ≤ B by (try clear n0); (try clear n1); (try clear n2); (try clear n3); (try clear n4); (try clear n5); (try clear n6); (try clear n7); (try clear n8); (try clear n9); (try clear n10); (try clear n11); (try clear n12); (try clear m1); (try clear m2); (try clear m3); (try clear body); (try clear hb); (try clear hor); omega), sb, if_pos (Or.inl rfl), if_neg (show ¬ dkLt A B p.1 p.2.1 by (try clear n0); (try clear n1); (try clear n2); (try clear n3); (try clear n4); (try clear n5); (try clear n6); (try clear n7); (try clear n8); (try clear n9); (try clear n10); (try clear n11); (try clear n12); (try clear m1); (try clear m2); (try clear m3); (try clear body); (try clear hb); (try clear hor); omega)]
                exact ⟨false, rfl, rfl⟩
            · rw [if_neg y2, sb, if_pos (Or.inl rfl), if_neg (show ¬ dkLt A B p.1 p.2.1 by (try clear n0); (try clear n1); (try clear n2); (try clear n3); (try clear n4); (try clear n5); (try clear n6); (try clear n7); (try clear n8); (try clear n9); (try clear n10); (try clear n11); (try clear n12); (try clear m1); (try clear m2); (try clear m3); (try clear body); (try clear hb); (try clear hor); omega)]
              exact ⟨false, rfl, rfl⟩
      have body : ∀ R : AG → Option (Int × AG), (∀ g1 : AG, (w = true → g1 = up (up (up g 100 m A) 101 m B) 102 m i) → (w = false → g1 = g) → ∃ g', R g1 = some (0, g') ∧ ATM m g g' ∧ XN g' m (dkStep dy dt T c m c)) → ∃ g', (((some B >>= fun t8 => (Yard_isBetter m A t8 g >>= fun r10 => (if nw r10 = 0 then some g else if 0 ≤ nw (m : Int) ∧ nw (m : Int) < 128 then (some (up g 100 (ix (m : Int)) A) >>= fun g14 => (some (up g14 101 (ix (m : Int)) t8) >>= fun g16 => (some (up g16 102 (ix (m : Int)) i) >>= fun g18 => some g18))) else none))) : Option AG) >>= R) = some (0, g') ∧ ATM m g g' ∧ XN g' m (dkStep dy dt T c m c) := by
        intro R hR
        rw [sb, hw, sb, n5, n6]
        cases w with
        | true =>
          rw [if_pos rfl, nw_1, if_neg (show ¬ (1 : Int) = 0 by decide), if_pos (by (try clear n0); (try clear n1); (try clear n2); (try clear n3); (try clear n4); (try clear n5); (try clear n6); (try clear n7); (try clear n8); (try clear n9); (try clear n10); (try clear n11); (try clear n12); (try clear m1); (try clear m2); (try clear m3); (try clear body); (try clear hb); (try clear hor); omega), sb, sb, sb, sb]
          exact hR _ (fun _ => rfl) (fun e => by cases e)
        | false =>
          rw [if_neg (show ¬ false = true by decide), nw_0, if_pos rfl, sb]
          exact hR _ (fun e => by cases e) (fun _ => rfl)
      have next : ∀ g1 : AG, (w = true → g1 = up (up (up g 100 m A) 101 m B) 102 m i) → (w = false → g1 = g) → ∃ g', Yard_chooseNext_b m 2 (dkDay dy m c) ((i : Int) + 1) g1 = some (0, g') ∧ ATM m g g' ∧ XN g' m (dkStep dy dt T c m c) := by
        intro g1 h1 h2
        have a1 : ATM m g g1 := by
          cases w with
          | true => rw [h1 rfl]; exact ATM.up (ATM.up (ATM.up (fun _ _ _ => rfl) (Or.inl rfl)) (Or.inr (Or.inl rfl))) (Or.inr (Or.inr rfl))
          | false => rw [h2 rfl]; exact fun _ _ _ => rfl
        obtain ⟨g', e, f, r⟩ := ih (i + 1) g1 (by (try clear n0); (try clear n1); (try clear n2); (try clear n3); (try clear n4); (try clear n5); (try clear n6); (try clear n7); (try clear n8); (try clear n9); (try clear n10); (try clear n11); (try clear n12); (try clear m1); (try clear m2); (try clear m3); (try clear body); (try clear hb); (try clear hor); omega) (X.fr a1.fr) (fun x h1 h2 => by
          rw [a1 100 x (fun q => absurd q.2 (by (try clear n0); (try clear n1); (try clear n2); (try clear n3); (try clear n4); (try clear n5); (try clear n6); (try clear n7); (try clear n8); (try clear n9); (try clear n10); (try clear n11); (try clear n12); (try clear m1); (try clear m2); (try clear m3); (try clear body); (try clear hb); (try clear hor); omega)), a1 101 x (fun q => absurd q.2 (by (try clear n0); (try clear n1); (try clear n2); (try clear n3); (try clear n4); (try clear n5); (try clear n6); (try clear n7); (try clear n8); (try clear n9); (try clear n10); (try clear n11); (try clear n12); (try clear m1); (try clear m2); (try clear m3); (try clear body); (try clear hb); (try clear hor); omega))]
          exact hg x h1 h2) (by
          rw [hg2]
          cases w with
          | true =>
            rw [h1 rfl, if_pos rfl]
            refine Or.inr ⟨_, rfl, ?_, ?_, ?_⟩
            · rw [up_at, if_neg (fun q => absurd q.1 (by decide)), up_at, if_neg (fun q => absurd q.1 (by decide)), up_at, if_pos ⟨rfl, rfl⟩]
            · rw [up_at, if_neg (fun q => absurd q.1 (by decide)), up_at, if_pos ⟨rfl, rfl⟩]
            · rw [up_at, if_pos ⟨rfl, rfl⟩]
          | false =>
            rw [h2 rfl, if_neg (by decide)]
            exact hN)
        exact ⟨g', e, a1.tr f, r⟩
      rw [Yard_chooseNext_b.eq_1 _ 2, n0, n1, hb, n2, x.1, n3, n4, x.2.2.1, x.2.2.2, hor, n7, n8, n9, n10, tg.1, tg.2, if_neg (by decide), if_pos rfl, if_neg (by (try clear n0); (try clear n1); (try clear n2); (try clear n3); (try clear n4); (try clear n5); (try clear n6); (try clear n7); (try clear n8); (try clear n9); (try clear n10); (try clear n11); (try clear n12); (try clear m1); (try clear m2); (try clear m3); (try clear body); (try clear hb); (try clear hor); omega), if_neg z, if_pos rfl]
      rw [if_pos (by (try clear n0); (try clear n1); (try clear n2); (try clear n3); (try clear n4); (try clear n5); (try clear n6); (try clear n7); (try clear n8); (try clear n9); (try clear n10); (try clear n11); (try clear n12); (try clear m1); (try clear m2); (try clear m3); (try clear body); (try clear hb); (try clear hor); omega), if_pos (by (try clear n0); (try clear n1); (try clear n2); (try clear n3); (try clear n4); (try clear n5); (try clear n6); (try clear n7); (try clear n8); (try clear n9); (try clear n10); (try clear n11); (try clear n12); (try clear m1); (try clear m2); (try clear m3); (try clear body); (try clear hb); (try clear hor); omega), if_pos (by (try clear n0); (try clear n1); (try clear n2); (try clear n3); (try clear n4); (try clear n5); (try clear n6); (try clear n7); (try clear n8); (try clear n9); (try clear n10); (try clear n11); (try clear n12); (try clear m1); (try clear m2); (try clear m3); (try clear body); (try clear hb); (try clear hor); omega), sb, ← hA, ← hB]
      exact body _ next
theorem X_chooseNext_s {dy dt : Nat → Int} {bl : Nat → Nat} {c : Nat} (K : DkOk dy dt c) {T : Nat → Int × Int} {m : Nat} (hm : m < 2 ^ c - 1) (hT : ∀ x, m < x → x < 2 ^ c → (0 ≤ (T x).1 ∧ (T x).1 ≤ c - mk_n x c) ∧ (0 ≤ (T x).2 ∧ (T x).2 ≤ 420 * (c - mk_n x c))) {g : AG} (X : XD g dy dt bl c) (hg : ∀ x, m < x → x < 2 ^ c → g 100 x = (T x).1 ∧ g 101 x = (T x).2) : ∃ g' p, Yard_chooseNext m g = some (0, g') ∧ ATM m g g' ∧ dkStep dy dt T c m c = some p ∧ g' 100 m = p.1 ∧ g' 101 m = p.2.1 ∧ g' 102 m = (p.2.2 : Nat) := by
  have hc := K.1
  have p2 := mk_p2 c (by (try clear n5); (try clear n6); omega)
  have a1 : ATM m g (up g 102 m (-1)) := ATM.up (fun _ _ _ => rfl) (Or.inr (Or.inr rfl))
  obtain ⟨g', e, f, r⟩ := X_choose_s (bl := bl) K (by (try clear n5); (try clear n6); omega) hT c 0 (up g 102 m (-1)) (by (try clear n5); (try clear n6); omega) (X.fr a1.fr) (fun x h1 h2 => by
    rw [a1 100 x (fun q => absurd q.2 (by (try clear n5); (try clear n6); omega)), a1 101 x (fun q => absurd q.2 (by (try clear n5); (try clear n6); omega))]
    exact hg x h1 h2) (Or.inl ⟨rfl, by rw [up_at, if_pos ⟨rfl, rfl⟩]⟩)
  have e1 := X_day_s K X (m := m) (by (try clear n5); (try clear n6); omega) c 0 (by (try clear n5); (try clear n6); omega)
  have e1' : Yard_chooseNext m g = Yard_chooseNext_b m 1 (dkDay dy m c) c g := e1
  have top : Yard_chooseNext m g = some (0, g') := by
    have n5 : nw (m : Int) = m := nwN _ (by (try clear n5); (try clear n6); omega)
    have n6 : ix (m : Int) = m := ixN _ (by (try clear n5); (try clear n6); omega)
    rw [e1', Yard_chooseNext_b.eq_1 _ 1, if_pos rfl, n5, n6, if_pos (by rw [X.1]; exact Int.le_refl _), if_pos (by (try clear n5); (try clear n6); omega), sb]
    exact e
  rcases r with ⟨r1, _⟩ | ⟨p, r1, r2, r3, r4⟩
  · exfalso
    have al := dkStep_none c r1
    have := mk_full c (by (try clear n5); (try clear n6); omega) m (by (try clear n5); (try clear n6); omega) (by (try clear n5); (try clear n6); omega) (mk_n_all c al)
    omega
  · exact ⟨g', p, top, a1.tr f, r1, r2, r3, r4⟩
/-- the rows hold the best way on from each set -/
def DkTab (dy dt : Nat → Int) (c : Nat) (g : AG) : Prop := (∀ x, x < 2 ^ c → (0 ≤ g 100 x ∧ g 100 x ≤ c - mk_n x c) ∧ (0 ≤ g 101 x ∧ g 101 x ≤ 420 * (c - mk_n x c))) ∧ g 100 (2 ^ c - 1) = 0 ∧ g 101 (2 ^ c - 1) = 0 ∧ ∀ m, m < 2 ^ c - 1 → ∃ p, dkStep dy dt (fun x => (g 100 x, g 101 x)) c m c = some p ∧ g 100 m = p.1 ∧ g 101 m = p.2.1 ∧ g 102 m = (p.2.2 : Nat)
theorem X_order2_s {dy dt : Nat → Int} {bl : Nat → Nat} {c : Nat} (K : DkOk dy dt c) {x1 : Int} : ∀ (m : Nat) (g : AG), m < 2 ^ c → XD g dy dt bl c → (∀ x, m ≤ x → x < 2 ^ c → (0 ≤ g 100 x ∧ g 100 x ≤ c - mk_n x c) ∧ (0 ≤ g 101 x ∧ g 101 x ≤ 420 * (c - mk_n x c))) → g 100 (2 ^ c - 1) = 0 → g 101 (2 ^ c - 1) = 0 → (∀ y, m ≤ y → y < 2 ^ c - 1 → ∃ p, dkStep dy dt (fun x => (g 100 x, g 101 x)) c y c = some p ∧ g 100 y = p.1 ∧ g 101 y = p.2.1 ∧ g 102 y = (p.2.2 : Nat)) → ∃ g', Yard_orderDock_b 2 x1 ((m : Int) - 1) g = some (0, g') ∧ FR RXD g g' ∧ DkTab dy dt c g' := by
  intro m
  induction m with
  | zero =>
    intro g hm X h1 h2 h3 h4
    refine ⟨g, ?_, Fr.rf, fun x hx => h1 x (by (try clear n5); omega) hx, h2, h3, fun y hy => h4 y (by (try clear n5); omega) hy⟩
    rw [Yard_orderDock_b.eq_1 2, if_neg (by decide), if_pos rfl, show ((0 : Nat) : Int) - 1 = -1 from rfl, nw_m1, if_pos (by decide)]
  | succ m ih =>
    intro g hm X h1 h2 h3 h4
    have hc := K.1
    have p2 := mk_p2 c (by (try clear n5); omega)
    obtain ⟨g1, p, e1, a1, s1, s2, s3, s4⟩ := X_chooseNext_s K (T := fun x => (g 100 x, g 101 x)) (m := m) (by (try clear n5); omega) (fun x q1 q2 => h1 x (by (try clear n5); omega) q2) X (fun x _ _ => ⟨rfl, rfl⟩)
    have rp := dkStep_ok K (m := m) (by (try clear n5); omega) (T := fun x => (g 100 x, g 101 x)) (fun x q1 q2 => h1 x (by (try clear n5); omega) q2) c (Nat.le_refl c) p s1
    have k100 : ∀ x, m < x → g1 100 x = g 100 x := fun x hx => a1 100 x (fun q => absurd q.2 (by (try clear n5); omega))
    have k101 : ∀ x, m < x → g1 101 x = g 101 x := fun x hx => a1 101 x (fun q => absurd q.2 (by (try clear n5); omega))
    have k102 : ∀ x, m < x → g1 102 x = g 102 x := fun x hx => a1 102 x (fun q => absurd q.2 (by (try clear n5); omega))
    have cg : ∀ y, m ≤ y → y < 2 ^ c - 1 → dkStep dy dt (fun x => (g1 100 x, g1 101 x)) c y c = dkStep dy dt (fun x => (g 100 x, g 101 x)) c y c := fun y q1 q2 => dkStep_cg hc (by (try clear n5); omega) (fun x r1 r2 => by rw [k100 x (by (try clear n5); omega), k101 x (by (try clear n5); omega)]) c (Nat.le_refl c)
    obtain ⟨g', e', f', r'⟩ := ih g1 (by (try clear n5); omega) (X.fr a1.fr) (fun x q1 q2 => by
      by_cases y : x = m
      · subst y
        rw [s2, s3]
        exact rp.1
      · rw [k100 x (by (try clear n5); omega), k101 x (by (try clear n5); omega)]
        exact h1 x (by (try clear n5); omega) q2) (by rw [k100 _ (by (try clear n5); omega)]; exact h2) (by rw [k101 _ (by (try clear n5); omega)]; exact h3) (fun y q1 q2 => by
      rw [cg y q1 q2]
      by_cases z : y = m
      · subst z
        exact ⟨p, s1, s2, s3, s4⟩
      · rw [k100 y (by (try clear n5); omega), k101 y (by (try clear n5); omega), k102 y (by (try clear n5); omega)]
        exact h4 y (by (try clear n5); omega) q2)
    refine ⟨g', ?_, a1.fr.tr f', r'⟩
    have em : ((m + 1 : Nat) : Int) - 1 = m := by (try clear n5); omega
    rw [em]
    have n5 : nw (m : Int) = m := nwN _ (by (try clear n5); omega)
    rw [Yard_orderDock_b.eq_1 2, n5, if_neg (by decide), if_pos rfl, if_neg (by (try clear n5); omega), e1, sb]
    exact e'
theorem X_order1_s {f : Nat → Int} {g0 : AG} (hf : ∀ b, b < 10 → g0 98 b = f b ∧ 0 ≤ f b ∧ f b ≤ 60) (h7 : ∀ b, b ≤ 10 → (dkL f b).1 ≤ 7) {x2 : Int} : ∀ (n b : Nat) (g : AG), b + n = 10 → FR [(10, 3), (99, 0)] g0 g → g 10 2 = (dkL f b).1 → (∀ i, i < (dkL f b).1 → g 99 i = (dkL f b).2 i) → ∃ g', Yard_orderDock_b 1 b x2 g = Yard_orderDock_b 1 10 x2 g' ∧ FR [(10, 3), (99, 0)] g0 g' ∧ g' 10 2 = (dkL f 10).1 ∧ ∀ i, i < (dkL f 10).1 → g' 99 i = (dkL f 10).2 i := by
  intro n
  induction n with
  | zero =>
    intro b g h F h1 h2
    have e : b = 10 := by (try clear n0); (try clear n1); (try clear n2); (try clear n3); (try clear n4); omega
    subst e
    exact ⟨g, rfl, F, h1, h2⟩
  | succ n ih =>
    intro b g h F h1 h2
    have fb := hf b (by (try clear n0); (try clear n1); (try clear n2); (try clear n3); (try clear n4); omega)
    have l7 := h7 (b + 1) (by (try clear n0); (try clear n1); (try clear n2); (try clear n3); (try clear n4); omega)
    have l7' := h7 b (by (try clear n0); (try clear n1); (try clear n2); (try clear n3); (try clear n4); omega)
    have v98 : g 98 b = f b := by rw [F 98 b rfl]; exact fb.1
    have n0 : nw (b : Int) = b := nwN _ (by (try clear n0); (try clear n1); (try clear n2); (try clear n3); (try clear n4); omega)
    have n1 : ix (b : Int) = b := ixN _ (by (try clear n0); (try clear n1); (try clear n2); (try clear n3); (try clear n4); omega)
    have n2 : nw (f b) = f b := by clear n0 n1; exact nw_id (by (try clear n0); (try clear n1); (try clear n2); (try clear n3); (try clear n4); omega) (by (try clear n0); (try clear n1); (try clear n2); (try clear n3); (try clear n4); omega)
    have n3 : nw (((dkL f b).1 : Nat) : Int) = ((dkL f b).1 : Nat) := nwN _ (by (try clear n0); (try clear n1); (try clear n2); (try clear n3); (try clear n4); omega)
    have n4 : ix (((dkL f b).1 : Nat) : Int) = (dkL f b).1 := ixN _ (by (try clear n0); (try clear n1); (try clear n2); (try clear n3); (try clear n4); omega)
    have e1 : dkL f (b + 1) = if 0 < f b then ((dkL f b).1 + 1, ud (dkL f b).2 (dkL f b).1 b) else dkL f b := rfl
    by_cases z : 0 < f b
    · rw [if_pos z] at e1
      have c7 : (dkL f b).1 < 7 := by rw [e1] at l7; clear n0 n1 n2 n3 n4; dsimp only at l7; omega
      obtain ⟨g', e, r⟩ := ih (b + 1) (up (up g 99 (dkL f b).1 b) 10 2 ((dkL f b).1 + 1)) (by (try clear n0); (try clear n1); (try clear n2); (try clear n3); (try clear n4); omega) (Fr.up (Fr.up F rfl) rfl) (by rw [e1, up_at, if_pos ⟨rfl, rfl⟩]; rfl) (fun i hi => by
        rw [e1] at hi ⊢
        dsimp only at hi ⊢
        rw [up_at, if_neg (by (try clear n0); (try clear n1); (try clear n2); (try clear n3); (try clear n4); omega), up_at]
        by_cases y : i = (dkL f b).1
        · rw [if_pos ⟨rfl, y⟩, y, ud_at]
        · rw [if_neg (fun q => y q.2), ud_lt (by (try clear n0); (try clear n1); (try clear n2); (try clear n3); (try clear n4); omega)]
          exact h2 i (by (try clear n0); (try clear n1); (try clear n2); (try clear n3); (try clear n4); omega))
      refine ⟨g', ?_, r⟩
      have u : (up g 99 (dkL f b).1 b) 10 2 = (dkL f b).1 := by rw [up_at, if_neg (by (try clear n0); (try clear n1); (try clear n2); (try clear n3); (try clear n4); omega)]; exact h1
      rw [Yard_orderDock_b.eq_1 1, n0, n1, v98, n2, h1, n3, n4, if_pos rfl, if_neg (by (try clear n0); (try clear n1); (try clear n2); (try clear n3); (try clear n4); omega), if_pos (by (try clear n0); (try clear n1); (try clear n2); (try clear n3); (try clear n4); omega), if_neg (by (try clear n0); (try clear n1); (try clear n2); (try clear n3); (try clear n4); omega), if_neg (by (try clear n0); (try clear n1); (try clear n2); (try clear n3); (try clear n4); omega), if_pos (by (try clear n0); (try clear n1); (try clear n2); (try clear n3); (try clear n4); omega), sb, u, sb, sb]
      exact e
    · rw [if_neg z] at e1
      obtain ⟨g', e, r⟩ := ih (b + 1) g (by (try clear n0); (try clear n1); (try clear n2); (try clear n3); (try clear n4); omega) F (by rw [e1]; exact h1) (fun i hi => by rw [e1] at hi ⊢; exact h2 i hi)
      refine ⟨g', ?_, r⟩
      rw [Yard_orderDock_b.eq_1 1, n0, n1, v98, n2, if_pos rfl, if_neg (by (try clear n0); (try clear n1); (try clear n2); (try clear n3); (try clear n4); omega), if_pos (by (try clear n0); (try clear n1); (try clear n2); (try clear n3); (try clear n4); omega), if_pos (by (try clear n0); (try clear n1); (try clear n2); (try clear n3); (try clear n4); omega), sb]
      exact e
end
section
/-! plain programs: the dock, the reference -/
abbrev DS : Type := Option (Int × Int × (Nat → Nat))
def dU (s : DS) (p : Int × Int × (Nat → Nat)) : DS :=
  match s with
  | none => some p
  | some q => if dkLt p.1 p.2.1 q.1 q.2.1 then some p else some q
theorem dU_dU (s : DS) (p q : Int × Int × (Nat → Nat)) : dU (dU s p) q = dU s (if dkLt q.1 q.2.1 p.1 p.2.1 then q else p) := by
  cases s with
  | none =>
    show dU (some p) q = some _
    unfold dU
    dsimp only
    by_cases z : dkLt q.1 q.2.1 p.1 p.2.1
    · rw [if_pos z, if_pos z]
    · rw [if_neg z, if_neg z]
  | some r =>
    have e : ∀ x, dU (some r) x = if dkLt x.1 x.2.1 r.1 r.2.1 then some x else some r := fun _ => rfl
    rw [e, e]
    by_cases a : dkLt p.1 p.2.1 r.1 r.2.1
    · rw [if_pos a]
      have e2 : ∀ x, dU (some p) x = if dkLt x.1 x.2.1 p.1 p.2.1 then some x else some p := fun _ => rfl
      rw [e2]
      by_cases b : dkLt q.1 q.2.1 p.1 p.2.1
      · rw [if_pos b, if_pos b, if_pos (by omega)]
      · rw [if_neg b, if_neg b, if_pos a]
    · rw [if_neg a, e]
      by_cases b : dkLt q.1 q.2.1 p.1 p.2.1
      · rw [if_pos b]
      · rw [if_neg b, if_neg (by omega), if_neg a]
/-- who goes t places on behind a set -/
def fol (N : Nat → Nat) : Nat → Nat → Nat
  | 0, m => N m
  | t + 1, m => fol N t (m ||| 2 ^ N m)
def dkO (N : Nat → Nat) (m k : Nat) (o : Nat → Nat) : Nat → Nat := fun j => if j < k then o j else fol N (j - k) m
theorem dkO_step {N : Nat → Nat} {m k : Nat} {o : Nat → Nat} : dkO N (m ||| 2 ^ N m) (k + 1) (ud o k (N m)) = dkO N m k o := by
  funext j
  unfold dkO
  by_cases a : j < k
  · rw [if_pos a, if_pos (by omega), ud_lt a]
  · rw [if_neg a]
    by_cases b : j = k
    · subst b
      rw [if_pos (by omega), ud_at, show j - j = 0 by omega]
      rfl
    · rw [if_neg (by omega), show j - k = (j - (k + 1)) + 1 by omega]
      rfl
def MD (g : AG) (dy dt : Nat → Int) (bl : Nat → Nat) (c : Nat) : Prop := g 117 84 = c ∧ ∀ i, i < c → g 175 i = bl i ∧ bl i < 10 ∧ g 174 (bl i) = dy i ∧ g 173 (bl i) = dt i
abbrev RMD : Reg := [(117, 86), (117, 87), (176, 0), (177, 0)]
theorem MD.fr {g g' : AG} {dy dt : Nat → Int} {bl : Nat → Nat} {c : Nat} (h : MD g dy dt bl c) (f : FR RMD g g') : MD g' dy dt bl c := ⟨by rw [f 117 84 rfl]; exact h.1, fun i hi => by rw [f 175 i rfl, f 174 _ rfl, f 173 _ rfl]; exact h.2 i hi⟩
def MDB (g : AG) (bl : Nat → Nat) (c : Nat) (s : DS) : Prop := (s = none ∧ g 117 85 = -1) ∨ ∃ p, s = some p ∧ g 117 85 = p.1 ∧ g 117 86 = p.2.1 ∧ (0 ≤ p.1 ∧ p.1 ≤ 100) ∧ (0 ≤ p.2.1 ∧ p.2.1 ≤ 100000) ∧ ∀ j, j < c → g 177 j = (bl (p.2.2 j) : Nat)
theorem M_dcopy_s {c : Nat} (hc : c ≤ 7) {rec : Int → Int → Int → Int → Int → AG → Option (Int × AG)} {a b d v w : Int} : ∀ (n k : Nat) (g : AG), k + n = c → g 117 84 = c → ∃ g', M_docksOn_b rec a b d v w 2 k g = some (0, g') ∧ FR [(177, 0)] g g' ∧ (∀ j, k ≤ j → j < c → g' 177 j = g 176 j) ∧ ∀ j, j < k → g' 177 j = g 177 j := by
  intro n
  induction n with
  | zero =>
    intro k g h hg
    refine ⟨g, ?_, Fr.rf, fun j h1 h2 => by (try clear n0); (try clear n1); (try clear n2); omega, fun j _ => rfl⟩
    rw [M_docksOn_b.eq_1 _ _ _ _ _ _ 2, if_neg (by decide), if_pos rfl, if_pos (by rw [hg, nwN _ (by (try clear n0); (try clear n1); (try clear n2); omega), nwN _ (by (try clear n0); (try clear n1); (try clear n2); omega)]; omega)]
  | succ n ih =>
    intro k g h hg
    obtain ⟨g', e, f, p1, p2⟩ := ih (k + 1) (up g 177 k (g 176 k)) (by (try clear n0); (try clear n1); (try clear n2); omega) (by rw [up_at, if_neg (by (try clear n0); (try clear n1); (try clear n2); omega)]; exact hg)
    refine ⟨g', ?_, (Fr.up Fr.rf rfl).tr f, ?_, ?_⟩
    · have n0 : nw (g 117 84) = c := by rw [hg, nwN _ (by (try clear n0); (try clear n1); (try clear n2); omega)]
      have n1 : nw (k : Int) = k := nwN _ (by (try clear n0); (try clear n1); (try clear n2); omega)
      have n2 : ix (k : Int) = k := ixN _ (by (try clear n0); (try clear n1); (try clear n2); omega)
      rw [M_docksOn_b.eq_1 _ _ _ _ _ _ 2, n0, n1, n2]
      rw [if_neg (by decide), if_pos rfl, if_neg (by (try clear n0); (try clear n1); (try clear n2); omega), if_pos (by (try clear n0); (try clear n1); (try clear n2); omega), sb]
      exact e
    · intro j h1 h2
      by_cases z : j = k
      · subst z; rw [p2 j (by (try clear n0); (try clear n1); (try clear n2); omega), up_at, if_pos ⟨rfl, rfl⟩]
      · rw [p1 j (by (try clear n0); (try clear n1); (try clear n2); omega) h2, up_at, if_neg (by (try clear n0); (try clear n1); (try clear n2); omega)]
    · intro j hj
      rw [p2 j (by (try clear n0); (try clear n1); (try clear n2); omega), up_at, if_neg (by (try clear n0); (try clear n1); (try clear n2); omega)]
def DkT (dy dt : Nat → Int) (c : Nat) (T : Nat → Int × Int) (N : Nat → Nat) : Prop := (∀ x, x < 2 ^ c → (0 ≤ (T x).1 ∧ (T x).1 ≤ c - mk_n x c) ∧ (0 ≤ (T x).2 ∧ (T x).2 ≤ 420 * (c - mk_n x c))) ∧ T (2 ^ c - 1) = (0, 0) ∧ ∀ m, m < 2 ^ c - 1 → dkStep dy dt T c m c = some ((T m).1, (T m).2, N m)
theorem M_docks_t {dy dt : Nat → Int} {bl : Nat → Nat} {c : Nat} (K : DkOk dy dt c) {T : Nat → Int × Int} {N : Nat → Nat} (TT : DkT dy dt c T N) : ∀ (n f k m : Nat) (o : Nat → Nat) (late sum : Int) (s : DS) (g : AG), k + n = c → n + 1 ≤ f → m < 2 ^ c → mk_n m c = k → (0 ≤ late ∧ late ≤ k) → (0 ≤ sum ∧ sum ≤ 420 * k) → MD g dy dt bl c → (∀ j, j < k → g 176 j = (bl (o j) : Nat)) → MDB g bl c s → ∃ g', M_docksOn f k m (dkDay dy m c) late sum g = some (0, g') ∧ FR RMD g g' ∧ (∀ j, j < k → g' 176 j = g 176 j) ∧ MDB g' bl c (dU s (late + (T m).1, sum + (T m).2, dkO N m k o)) := by
  intro n
  induction n with
  | zero =>
    intro f k m o late sum s g h hf hm hk hl hs D ho B
    obtain ⟨f, rfl⟩ : ∃ f', f = f' + 1 := ⟨f - 1, by (try clear n0); (try clear n1); (try clear n2); (try clear n3); (try clear top); (try clear n4); (try clear n5); (try clear n6); (try clear n7); (try clear n8); (try clear n9); (try clear hb); (try clear hor); omega⟩
    have hc := K.1
    have p2 := mk_p2 c (by (try clear n0); (try clear n1); (try clear n2); (try clear n3); (try clear top); (try clear n4); (try clear n5); (try clear n6); (try clear n7); (try clear n8); (try clear n9); (try clear hb); (try clear hor); omega)
    have ek : k = c := by (try clear n0); (try clear n1); (try clear n2); (try clear n3); (try clear top); (try clear n4); (try clear n5); (try clear n6); (try clear n7); (try clear n8); (try clear n9); (try clear hb); (try clear hor); omega
    subst ek
    have em := mk_full k (by (try clear n0); (try clear n1); (try clear n2); (try clear n3); (try clear top); (try clear n4); (try clear n5); (try clear n6); (try clear n7); (try clear n8); (try clear n9); (try clear hb); (try clear hor); omega) m (by (try clear n0); (try clear n1); (try clear n2); (try clear n3); (try clear top); (try clear n4); (try clear n5); (try clear n6); (try clear n7); (try clear n8); (try clear n9); (try clear hb); (try clear hor); omega) hm hk
    have tm : T m = (0, 0) := by rw [em]; exact TT.2.1
    have n0 : nw (g 117 84) = k := by rw [D.1, nwN _ (by (try clear n0); (try clear n1); (try clear n2); (try clear n3); (try clear top); (try clear n4); (try clear n5); (try clear n6); (try clear n7); (try clear n8); (try clear n9); (try clear hb); (try clear hor); omega)]
    have n1 : nw (k : Int) = k := nwN _ (by (try clear n0); (try clear n1); (try clear n2); (try clear n3); (try clear top); (try clear n4); (try clear n5); (try clear n6); (try clear n7); (try clear n8); (try clear n9); (try clear hb); (try clear hor); omega)
    have n2 : nw late = late := nw_id (by (try clear n0); (try clear n1); (try clear n2); (try clear n3); (try clear top); (try clear n4); (try clear n5); (try clear n6); (try clear n7); (try clear n8); (try clear n9); (try clear hb); (try clear hor); omega) (by (try clear n0); (try clear n1); (try clear n2); (try clear n3); (try clear top); (try clear n4); (try clear n5); (try clear n6); (try clear n7); (try clear n8); (try clear n9); (try clear hb); (try clear hor); omega)
    have n3 : nw sum = sum := nw_id (by (try clear n0); (try clear n1); (try clear n2); (try clear n3); (try clear top); (try clear n4); (try clear n5); (try clear n6); (try clear n7); (try clear n8); (try clear n9); (try clear hb); (try clear hor); omega) (by (try clear n0); (try clear n1); (try clear n2); (try clear n3); (try clear top); (try clear n4); (try clear n5); (try clear n6); (try clear n7); (try clear n8); (try clear n9); (try clear hb); (try clear hor); omega)
    have take : ∃ g', M_docksOn_b (M_docksOn f) 0 0 0 late sum 1 0 g = some (0, g') ∧ FR RMD g g' ∧ (∀ j, j < k → g' 176 j = g 176 j) ∧ MDB g' bl k (some (late + (T m).1, sum + (T m).2, dkO N m k o)) := by
      obtain ⟨g', e, ff, p1, _⟩ := M_dcopy_s (c := k) hc (rec := M_docksOn f) (a := 0) (b := 0) (d := 0) (v := late) (w := sum) k 0 (up (up g 117 85 late) 117 86 sum) (by (try clear n0); (try clear n1); (try clear n2); (try clear n3); (try clear top); (try clear n4); (try clear n5); (try clear n6); (try clear n7); (try clear n8); (try clear n9); (try clear hb); (try clear hor); omega) (by rw [up_at, if_neg (by (try clear n0); (try clear n1); (try clear n2); (try clear n3); (try clear top); (try clear n4); (try clear n5); (try clear n6); (try clear n7); (try clear n8); (try clear n9); (try clear hb); (try clear hor); omega), up_at, if_neg (by (try clear n0); (try clear n1); (try clear n2); (try clear n3); (try clear top); (try clear n4); (try clear n5); (try clear n6); (try clear n7); (try clear n8); (try clear n9); (try clear hb); (try clear hor); omega)]; exact D.1)
      refine ⟨g', ?_, (Fr.up (W := inR RMD) (Fr.up (W := inR RMD) Fr.rf rfl) rfl).tr (FR.mo ff rfl), fun j hj => ?_, Or.inr ⟨_, rfl, ?_, ?_, ?_, ?_, fun j hj => ?_⟩⟩
      · rw [M_docksOn_b.eq_1 _ _ _ _ _ _ 1, if_pos rfl, sb, sb]
        exact e
      · rw [ff 176 j rfl, up_at, if_neg (by (try clear n0); (try clear n1); (try clear n2); (try clear n3); (try clear top); (try clear n4); (try clear n5); (try clear n6); (try clear n7); (try clear n8); (try clear n9); (try clear hb); (try clear hor); omega), up_at, if_neg (by (try clear n0); (try clear n1); (try clear n2); (try clear n3); (try clear top); (try clear n4); (try clear n5); (try clear n6); (try clear n7); (try clear n8); (try clear n9); (try clear hb); (try clear hor); omega)]
      · rw [ff 117 85 rfl, up_at, if_neg (by (try clear n0); (try clear n1); (try clear n2); (try clear n3); (try clear top); (try clear n4); (try clear n5); (try clear n6); (try clear n7); (try clear n8); (try clear n9); (try clear hb); (try clear hor); omega), up_at, if_pos ⟨rfl, rfl⟩, tm]
        exact (Int.add_zero _).symm
      · rw [ff 117 86 rfl, up_at, if_pos ⟨rfl, rfl⟩, tm]
        exact (Int.add_zero _).symm
      · rw [tm]; dsimp only; (try clear n0); (try clear n1); (try clear n2); (try clear n3); (try clear top); (try clear n4); (try clear n5); (try clear n6); (try clear n7); (try clear n8); (try clear n9); (try clear hb); (try clear hor); omega
      · rw [tm]; dsimp only; (try clear n0); (try clear n1); (try clear n2); (try clear n3); (try clear top); (try clear n4); (try clear n5); (try clear n6); (try clear n7); (try clear n8); (try clear n9); (try clear hb); (try clear hor); omega
      · rw [p1 j (by (try clear n0); (try clear n1); (try clear n2); (try clear n3); (try clear top); (try clear n4); (try clear n5); (try clear n6); (try clear n7); (try clear n8); (try clear n9); (try clear hb); (try clear hor); omega) hj, up_at, if_neg (by (try clear n0); (try clear n1); (try clear n2); (try clear n3); (try clear top); (try clear n4); (try clear n5); (try clear n6); (try clear n7); (try clear n8); (try clear n9); (try clear hb); (try clear hor); omega), up_at, if_neg (by (try clear n0); (try clear n1); (try clear n2); (try clear n3); (try clear top); (try clear n4); (try clear n5); (try clear n6); (try clear n7); (try clear n8); (try clear n9); (try clear hb); (try clear hor); omega)]
        show _ = ((bl (if j < k then o j else _) : Nat) : Int)
        rw [if_pos hj]
        exact ho j hj
    have top : M_docksOn (f + 1) k m (dkDay dy m k) late sum g = (if nw (g 117 85) = -1 then M_docksOn_b (M_docksOn f) 0 0 0 late sum 1 0 g else if nw (g 117 85) < late then some (0, g) else if late = nw (g 117 85) then (if sum < nw (g 117 86) then M_docksOn_b (M_docksOn f) 0 0 0 late sum 1 0 g else some (0, g)) else M_docksOn_b (M_docksOn f) 0 0 0 late sum 1 0 g) := by
      show M_docksOn_s (M_docksOn f) k m _ late sum g = _
      unfold M_docksOn_s
      rw [n0, n1, if_pos rfl, n2, n3]
    rw [top]
    rcases B with ⟨e1, e2⟩ | ⟨p, e1, e2, e3, e4, e5, e6⟩
    · subst e1
      rw [e2, nw_m1, if_pos rfl]
      exact take
    · subst e1
      have n4 : nw p.1 = p.1 := nw_id (by (try clear n0); (try clear n1); (try clear n2); (try clear n3); (try clear top); (try clear n4); (try clear n5); (try clear n6); (try clear n7); (try clear n8); (try clear n9); (try clear hb); (try clear hor); omega) (by (try clear n0); (try clear n1); (try clear n2); (try clear n3); (try clear top); (try clear n4); (try clear n5); (try clear n6); (try clear n7); (try clear n8); (try clear n9); (try clear hb); (try clear hor); omega)
      have n5 : nw p.2.1 = p.2.1 := nw_id (by (try clear n0); (try clear n1); (try clear n2); (try clear n3); (try clear top); (try clear n4); (try clear n5); (try clear n6); (try clear n7); (try clear n8); (try clear n9); (try clear hb); (try clear hor); omega) (by (try clear n0); (try clear n1); (try clear n2); (try clear n3); (try clear top); (try clear n4); (try clear n5); (try clear n6); (try clear n7); (try clear n8); (try clear n9); (try clear hb); (try clear hor); omega)
      have z0 : late + (T m).1 = late := by rw [tm]; exact Int.add_zero _
      have z1 : sum + (T m).2 = sum := by rw [tm]; exact Int.add_zero _
      rw [e2, e3, n4, n5, if_neg (by (try clear n0); (try clear n1); (try clear n2); (try clear n3); (try clear top); (try clear n4); (try clear n5); (try clear n6); (try clear n7); (try clear n8); (try clear n9); (try clear hb); (try clear hor); omega)]
      rw [z0, z1] at take ⊢
      have du : dU (some p) (late, sum, dkO N m k o) = if dkLt late sum p.1 p.2.1 then some (late, sum, dkO N m k o) else some p := rfl
      rw [du]
      by_cases y : dkLt late sum p.1 p.2.1
      · rw [if_pos y, if_neg (by (try clear n0); (try clear n1); (try clear n2); (try clear n3); (try clear top); (try clear n4); (try clear n5); (try clear n6); (try clear n7); (try clear n8); (try clear n9); (try clear hb); (try clear hor); omega)]
        by_cases x : late = p.1
        · rw [if_pos x, if_pos (by (try clear n0); (try clear n1); (try clear n2); (try clear n3); (try clear top); (try clear n4); (try clear n5); (try clear n6); (try clear n7); (try clear n8); (try clear n9); (try clear hb); (try clear hor); omega)]
          exact take
        · rw [if_neg x]
          exact take
      · rw [if_neg y]
        have stay : ∃ g', some ((0 : Int), g) = some (0, g') ∧ FR RMD g g' ∧ (∀ j, j < k → g' 176 j = g 176 j) ∧ MDB g' bl k (some p) := ⟨g, rfl, Fr.rf, fun _ _ => rfl, Or.inr ⟨p, rfl, e2, e3, e4, e5, e6⟩⟩
        by_cases x : p.1 < late
        · rw [if_pos x]
          exact stay
        · rw [if_neg x, if_pos (by (try clear n0); (try clear n1); (try clear n2); (try clear n3); (try clear top); (try clear n4); (try clear n5); (try clear n6); (try clear n7); (try clear n8); (try clear n9); (try clear hb); (try clear hor); omega), if_neg (by (try clear n0); (try clear n1); (try clear n2); (try clear n3); (try clear top); (try clear n4); (try clear n5); (try clear n6); (try clear n7); (try clear n8); (try clear n9); (try clear hb); (try clear hor); omega)]
          exact stay
  | succ n ih =>
    intro f k m o late sum s g h hf hm hk hl hs D ho B
    obtain ⟨f, rfl⟩ : ∃ f', f = f' + 1 := ⟨f - 1, by (try clear n0); (try clear n1); (try clear n2); (try clear n3); (try clear top); (try clear n4); (try clear n5); (try clear n6); (try clear n7); (try clear n8); (try clear n9); (try clear hb); (try clear hor); omega⟩
    have hc := K.1
    have p2 := mk_p2 c (by (try clear n0); (try clear n1); (try clear n2); (try clear n3); (try clear top); (try clear n4); (try clear n5); (try clear n6); (try clear n7); (try clear n8); (try clear n9); (try clear hb); (try clear hor); omega)
    have rD := dkDay_rng (m := m) K c (Nat.le_refl c)
    have mf : m < 2 ^ c - 1 := by
      have := mk_n_full c (by (try clear n0); (try clear n1); (try clear n2); (try clear n3); (try clear top); (try clear n4); (try clear n5); (try clear n6); (try clear n7); (try clear n8); (try clear n9); (try clear hb); (try clear hor); omega)
      have ne : m ≠ 2 ^ c - 1 := fun e => by rw [e] at hk; omega
      omega
    have st := TT.2.2 m mf
    have n0 : nw (g 117 84) = c := by rw [D.1, nwN _ (by (try clear n0); (try clear n1); (try clear n2); (try clear n3); (try clear top); (try clear n4); (try clear n5); (try clear n6); (try clear n7); (try clear n8); (try clear n9); (try clear hb); (try clear hor); omega)]
    have n1 : nw (k : Int) = k := nwN _ (by (try clear n0); (try clear n1); (try clear n2); (try clear n3); (try clear top); (try clear n4); (try clear n5); (try clear n6); (try clear n7); (try clear n8); (try clear n9); (try clear hb); (try clear hor); omega)
    have n2 : ix (k : Int) = k := ixN _ (by (try clear n0); (try clear n1); (try clear n2); (try clear n3); (try clear top); (try clear n4); (try clear n5); (try clear n6); (try clear n7); (try clear n8); (try clear n9); (try clear hb); (try clear hor); omega)
    have top : M_docksOn (f + 1) k m (dkDay dy m c) late sum g = M_docksOn_b (M_docksOn f) k m (dkDay dy m c) late sum 3 0 g := by
      show M_docksOn_s (M_docksOn f) k m _ late sum g = _
      unfold M_docksOn_s
      rw [n0, n1, if_neg (by (try clear n0); (try clear n1); (try clear n2); (try clear n3); (try clear top); (try clear n4); (try clear n5); (try clear n6); (try clear n7); (try clear n8); (try clear n9); (try clear hb); (try clear hor); omega)]
    rw [top]
    -- what stands behind i of the boats
    have loop : ∀ (q i : Nat) (g1 : AG), i + q = c → MD g1 dy dt bl c → (∀ j, j < k → g1 176 j = (bl (o j) : Nat)) → MDB g1 bl c (match dkStep dy dt T c m i with | none => s | some p => dU s (late + p.1, sum + p.2.1, dkO N (m ||| 2 ^ p.2.2) (k + 1) (ud o k p.2.2))) → ∃ g', M_docksOn_b (M_docksOn f) k m (dkDay dy m c) late sum 3 i g1 = some (0, g') ∧ FR RMD g1 g' ∧ (∀ j, j < k → g' 176 j = g1 176 j) ∧ MDB g' bl c (match dkStep dy dt T c m c with | none => s | some p => dU s (late + p.1, sum + p.2.1, dkO N (m ||| 2 ^ p.2.2) (k + 1) (ud o k p.2.2))) := by
      intro q
      induction q with
      | zero =>
        intro i g1 hi D1 h1 B1
        have ei : i = c := by (try clear n0); (try clear n1); (try clear n2); (try clear n3); (try clear top); (try clear n4); (try clear n5); (try clear n6); (try clear n7); (try clear n8); (try clear n9); (try clear hb); (try clear hor); omega
        subst ei
        refine ⟨g1, ?_, Fr.rf, fun j _ => rfl, B1⟩
        have n3 : nw (g1 117 84) = i := by rw [D1.1, nwN _ (by (try clear n0); (try clear n1); (try clear n2); (try clear n3); (try clear top); (try clear n4); (try clear n5); (try clear n6); (try clear n7); (try clear n8); (try clear n9); (try clear hb); (try clear hor); omega)]
        have n4 : nw (i : Int) = i := nwN _ (by (try clear n0); (try clear n1); (try clear n2); (try clear n3); (try clear top); (try clear n4); (try clear n5); (try clear n6); (try clear n7); (try clear n8); (try clear n9); (try clear hb); (try clear hor); omega)
        rw [M_docksOn_b.eq_1 _ _ _ _ _ _ 3, n3, n4, if_neg (by decide), if_neg (by decide), if_pos rfl, if_pos (Int.le_refl _)]
      | succ q ihq =>
        intro i g1 hi D1 h1 B1
        have d := D1.2 i (by (try clear n0); (try clear n1); (try clear n2); (try clear n3); (try clear top); (try clear n4); (try clear n5); (try clear n6); (try clear n7); (try clear n8); (try clear n9); (try clear hb); (try clear hor); omega)
        have ki := K.2 i (by (try clear n0); (try clear n1); (try clear n2); (try clear n3); (try clear top); (try clear n4); (try clear n5); (try clear n6); (try clear n7); (try clear n8); (try clear n9); (try clear hb); (try clear hor); omega)
        have n3 : nw (g1 117 84) = c := by rw [D1.1, nwN _ (by (try clear n0); (try clear n1); (try clear n2); (try clear n3); (try clear top); (try clear n4); (try clear n5); (try clear n6); (try clear n7); (try clear n8); (try clear n9); (try clear hb); (try clear hor); omega)]
        have n4 : nw (i : Int) = i := nwN _ (by (try clear n0); (try clear n1); (try clear n2); (try clear n3); (try clear top); (try clear n4); (try clear n5); (try clear n6); (try clear n7); (try clear n8); (try clear n9); (try clear hb); (try clear hor); omega)
        have n5 : ix (i : Int) = i := ixN _ (by (try clear n0); (try clear n1); (try clear n2); (try clear n3); (try clear top); (try clear n4); (try clear n5); (try clear n6); (try clear n7); (try clear n8); (try clear n9); (try clear hb); (try clear hor); omega)
        have n6 : nw ((bl i : Nat) : Int) = (bl i : Nat) := nwN _ (by (try clear n0); (try clear n1); (try clear n2); (try clear n3); (try clear top); (try clear n4); (try clear n5); (try clear n6); (try clear n7); (try clear n8); (try clear n9); (try clear hb); (try clear hor); omega)
        have n7 : ix ((bl i : Nat) : Int) = bl i := ixN _ (by (try clear n0); (try clear n1); (try clear n2); (try clear n3); (try clear top); (try clear n4); (try clear n5); (try clear n6); (try clear n7); (try clear n8); (try clear n9); (try clear hb); (try clear hor); omega)
        have hb := bit_q m i (by (try clear n0); (try clear n1); (try clear n2); (try clear n3); (try clear top); (try clear n4); (try clear n5); (try clear n6); (try clear n7); (try clear n8); (try clear n9); (try clear hb); (try clear hor); omega)
        have ht := mk_tb m (by (try clear n0); (try clear n1); (try clear n2); (try clear n3); (try clear top); (try clear n4); (try clear n5); (try clear n6); (try clear n7); (try clear n8); (try clear n9); (try clear hb); (try clear hor); omega) i (by (try clear n0); (try clear n1); (try clear n2); (try clear n3); (try clear top); (try clear n4); (try clear n5); (try clear n6); (try clear n7); (try clear n8); (try clear n9); (try clear hb); (try clear hor); omega)
        rw [ht] at hb
        by_cases z : m.testBit i = true
        · have es : dkStep dy dt T c m (i + 1) = dkStep dy dt T c m i := by
            show (if m.testBit i = true then dkStep dy dt T c m i else _) = _
            rw [if_pos z]
          obtain ⟨g', e, ff, p, r⟩ := ihq (i + 1) g1 (by (try clear n0); (try clear n1); (try clear n2); (try clear n3); (try clear top); (try clear n4); (try clear n5); (try clear n6); (try clear n7); (try clear n8); (try clear n9); (try clear hb); (try clear hor); omega) D1 h1 (by rw [es]; exact B1)
          refine ⟨g', ?_, ff, p, r⟩
          rw [M_docksOn_b.eq_1 _ _ _ _ _ _ 3, n3, n4, hb, if_neg (by decide), if_neg (by decide), if_pos rfl, if_neg (by (try clear n0); (try clear n1); (try clear n2); (try clear n3); (try clear top); (try clear n4); (try clear n5); (try clear n6); (try clear n7); (try clear n8); (try clear n9); (try clear hb); (try clear hor); omega), if_pos z, if_pos rfl, sb]
          exact e
        · have z' : m.testBit i = false := by cases y : m.testBit i with
            | true => exact absurd y z
            | false => rfl
          have hgt := mk_gt m (by (try clear n0); (try clear n1); (try clear n2); (try clear n3); (try clear top); (try clear n4); (try clear n5); (try clear n6); (try clear n7); (try clear n8); (try clear n9); (try clear hb); (try clear hor); omega) i (by (try clear n0); (try clear n1); (try clear n2); (try clear n3); (try clear top); (try clear n4); (try clear n5); (try clear n6); (try clear n7); (try clear n8); (try clear n9); (try clear hb); (try clear hor); omega) z'
          have hlt := mk_lt hm (show i < c by (try clear n0); (try clear n1); (try clear n2); (try clear n3); (try clear top); (try clear n4); (try clear n5); (try clear n6); (try clear n7); (try clear n8); (try clear n9); (try clear hb); (try clear hor); omega)
          have hor := mk_or m (by (try clear n0); (try clear n1); (try clear n2); (try clear n3); (try clear top); (try clear n4); (try clear n5); (try clear n6); (try clear n7); (try clear n8); (try clear n9); (try clear hb); (try clear hor); omega) i (by (try clear n0); (try clear n1); (try clear n2); (try clear n3); (try clear top); (try clear n4); (try clear n5); (try clear n6); (try clear n7); (try clear n8); (try clear n9); (try clear hb); (try clear hor); omega)
          have nn := mk_n_or z' c
          rw [if_pos (show i < c by (try clear n0); (try clear n1); (try clear n2); (try clear n3); (try clear top); (try clear n4); (try clear n5); (try clear n6); (try clear n7); (try clear n8); (try clear n9); (try clear hb); (try clear hor); omega)] at nn
          have dd := dkDay_or (dy := dy) z' c
          rw [if_pos (show i < c by (try clear n0); (try clear n1); (try clear n2); (try clear n3); (try clear top); (try clear n4); (try clear n5); (try clear n6); (try clear n7); (try clear n8); (try clear n9); (try clear hb); (try clear hor); omega)] at dd
          have tr := TT.1 _ hlt
          obtain ⟨M, hM⟩ : ∃ M, M = m ||| 2 ^ i := ⟨_, rfl⟩
          rw [← hM] at hor hgt hlt nn dd tr
          have rDM := dkDay_rng (m := M) K c (Nat.le_refl c)
          obtain ⟨E, hE⟩ : ∃ E : Int, E = (if dkDay dy m c + dy i ≤ dt i then (0 : Int) else 1) := ⟨_, rfl⟩
          have rE : 0 ≤ E ∧ E ≤ 1 := by rw [hE]; split <;> omega
          have n8 : nw (dkDay dy m c + dy i) = dkDay dy m c + dy i := nw_id (by (try clear n0); (try clear n1); (try clear n2); (try clear n3); (try clear top); (try clear n4); (try clear n5); (try clear n6); (try clear n7); (try clear n8); (try clear n9); (try clear hb); (try clear hor); omega) (by (try clear n0); (try clear n1); (try clear n2); (try clear n3); (try clear top); (try clear n4); (try clear n5); (try clear n6); (try clear n7); (try clear n8); (try clear n9); (try clear hb); (try clear hor); omega)
          have n9 : nw (dt i) = dt i := nw_id (by (try clear n0); (try clear n1); (try clear n2); (try clear n3); (try clear top); (try clear n4); (try clear n5); (try clear n6); (try clear n7); (try clear n8); (try clear n9); (try clear hb); (try clear hor); omega) (by (try clear n0); (try clear n1); (try clear n2); (try clear n3); (try clear top); (try clear n4); (try clear n5); (try clear n6); (try clear n7); (try clear n8); (try clear n9); (try clear hb); (try clear hor); omega)
          have f1 : FR RMD g1 (up g1 176 k (bl i)) := Fr.up Fr.rf rfl
          obtain ⟨g2, e2, f2, p2', B2⟩ := ih f (k + 1) M (ud o k i) (late + E) (sum + (dkDay dy m c + dy i)) (match dkStep dy dt T c m i with | none => s | some p => dU s (late + p.1, sum + p.2.1, dkO N (m ||| 2 ^ p.2.2) (k + 1) (ud o k p.2.2))) (up g1 176 k (bl i)) (by (try clear n0); (try clear n1); (try clear n2); (try clear n3); (try clear top); (try clear n4); (try clear n5); (try clear n6); (try clear n7); (try clear n8); (try clear n9); (try clear hb); (try clear hor); omega) (by (try clear n0); (try clear n1); (try clear n2); (try clear n3); (try clear top); (try clear n4); (try clear n5); (try clear n6); (try clear n7); (try clear n8); (try clear n9); (try clear hb); (try clear hor); omega) hlt (by (try clear n0); (try clear n1); (try clear n2); (try clear n3); (try clear top); (try clear n4); (try clear n5); (try clear n6); (try clear n7); (try clear n8); (try clear n9); (try clear hb); (try clear hor); omega) (by (try clear n0); (try clear n1); (try clear n2); (try clear n3); (try clear top); (try clear n4); (try clear n5); (try clear n6); (try clear n7); (try clear n8); (try clear n9); (try clear hb); (try clear hor); omega) (by (try clear n0); (try clear n1); (try clear n2); (try clear n3); (try clear top); (try clear n4); (try clear n5); (try clear n6); (try clear n7); (try clear n8); (try clear n9); (try clear hb); (try clear hor); omega) (D1.fr f1) (fun j hj => by
            rw [up_at]
            by_cases y : j = k
            · subst y; rw [if_pos ⟨rfl, rfl⟩, ud_at]
            · rw [if_neg (by (try clear n0); (try clear n1); (try clear n2); (try clear n3); (try clear top); (try clear n4); (try clear n5); (try clear n6); (try clear n7); (try clear n8); (try clear n9); (try clear hb); (try clear hor); omega), ud_lt (by (try clear n0); (try clear n1); (try clear n2); (try clear n3); (try clear top); (try clear n4); (try clear n5); (try clear n6); (try clear n7); (try clear n8); (try clear n9); (try clear hb); (try clear hor); omega)]; exact h1 j (by (try clear n0); (try clear n1); (try clear n2); (try clear n3); (try clear top); (try clear n4); (try clear n5); (try clear n6); (try clear n7); (try clear n8); (try clear n9); (try clear hb); (try clear hor); omega)) (by
            rcases B1 with ⟨b1, b2⟩ | ⟨p, b1, b2, b3, b4, b5, b6⟩
            · exact Or.inl ⟨b1, by rw [up_at, if_neg (by (try clear n0); (try clear n1); (try clear n2); (try clear n3); (try clear top); (try clear n4); (try clear n5); (try clear n6); (try clear n7); (try clear n8); (try clear n9); (try clear hb); (try clear hor); omega)]; exact b2⟩
            · exact Or.inr ⟨p, b1, by rw [up_at, if_neg (by (try clear n0); (try clear n1); (try clear n2); (try clear n3); (try clear top); (try clear n4); (try clear n5); (try clear n6); (try clear n7); (try clear n8); (try clear n9); (try clear hb); (try clear hor); omega)]; exact b2, by rw [up_at, if_neg (by (try clear n0); (try clear n1); (try clear n2); (try clear n3); (try clear top); (try clear n4); (try clear n5); (try clear n6); (try clear n7); (try clear n8); (try clear n9); (try clear hb); (try clear hor); omega)]; exact b3, b4, b5, fun j hj => by rw [up_at, if_neg (by (try clear n0); (try clear n1); (try clear n2); (try clear n3); (try clear top); (try clear n4); (try clear n5); (try clear n6); (try clear n7); (try clear n8); (try clear n9); (try clear hb); (try clear hor); omega)]; exact b6 j hj⟩)
          have f12 := f1.tr f2
          have k12 : ∀ j, j < k → g2 176 j = g1 176 j := fun j hj => by
            rw [p2' j (by (try clear n0); (try clear n1); (try clear n2); (try clear n3); (try clear top); (try clear n4); (try clear n5); (try clear n6); (try clear n7); (try clear n8); (try clear n9); (try clear hb); (try clear hor); omega), up_at, if_neg (by (try clear n0); (try clear n1); (try clear n2); (try clear n3); (try clear top); (try clear n4); (try clear n5); (try clear n6); (try clear n7); (try clear n8); (try clear n9); (try clear hb); (try clear hor); omega)]
          have es : dkStep dy dt T c m (i + 1) = (match dkStep dy dt T c m i with | none => some ((T M).1 + E, (T M).2 + (dkDay dy m c + dy i), i) | some p => if dkLt ((T M).1 + E) ((T M).2 + (dkDay dy m c + dy i)) p.1 p.2.1 then some ((T M).1 + E, (T M).2 + (dkDay dy m c + dy i), i) else some p) := by
            rw [hE, hM]
            show (if m.testBit i = true then _ else _) = _
            rw [if_neg z]
            try rfl
          have join : dU (match dkStep dy dt T c m i with | none => s | some p => dU s (late + p.1, sum + p.2.1, dkO N (m ||| 2 ^ p.2.2) (k + 1) (ud o k p.2.2))) (late + E + (T M).1, sum + (dkDay dy m c + dy i) + (T M).2, dkO N M (k + 1) (ud o k i)) = (match dkStep dy dt T c m (i + 1) with | none => s | some p => dU s (late + p.1, sum + p.2.1, dkO N (m ||| 2 ^ p.2.2) (k + 1) (ud o k p.2.2))) := by
            rw [es]
            have c1 : late + E + (T M).1 = late + ((T M).1 + E) := by (try clear n0); (try clear n1); (try clear n2); (try clear n3); (try clear top); (try clear n4); (try clear n5); (try clear n6); (try clear n7); (try clear n8); (try clear n9); (try clear hb); (try clear hor); omega
            have c2 : sum + (dkDay dy m c + dy i) + (T M).2 = sum + ((T M).2 + (dkDay dy m c + dy i)) := by (try clear n0); (try clear n1); (try clear n2); (try clear n3); (try clear top); (try clear n4); (try clear n5); (try clear n6); (try clear n7); (try clear n8); (try clear n9); (try clear hb); (try clear hor); omega
            rw [c1, c2]
            cases dkStep dy dt T c m i with
            | none =>
              dsimp only
              rw [← hM]
            | some p =>
              dsimp only
              rw [dU_dU]
              dsimp only
              by_cases y : dkLt ((T M).1 + E) ((T M).2 + (dkDay dy m c + dy i)) p.1 p.2.1
              · rw [if_pos y, if_pos (show dkLt (late + ((T M).1 + E)) (sum + ((T M).2 + (dkDay dy m c + dy i))) (late + p.1) (sum + p.2.1) by (try clear n0); (try clear n1); (try clear n2); (try clear n3); (try clear top); (try clear n4); (try clear n5); (try clear n6); (try clear n7); (try clear n8); (try clear n9); (try clear hb); (try clear hor); omega)]
                dsimp only
                rw [← hM]
              · rw [if_neg y, if_neg (show ¬ dkLt (late + ((T M).1 + E)) (sum + ((T M).2 + (dkDay dy m c + dy i))) (late + p.1) (sum + p.2.1) by (try clear n0); (try clear n1); (try clear n2); (try clear n3); (try clear top); (try clear n4); (try clear n5); (try clear n6); (try clear n7); (try clear n8); (try clear n9); (try clear hb); (try clear hor); omega)]
          rw [join] at B2
          obtain ⟨g3, e3, f3, p3, B3⟩ := ihq (i + 1) g2 (by (try clear n0); (try clear n1); (try clear n2); (try clear n3); (try clear top); (try clear n4); (try clear n5); (try clear n6); (try clear n7); (try clear n8); (try clear n9); (try clear hb); (try clear hor); omega) (D1.fr f12) (fun j hj => by rw [k12 j hj]; exact h1 j hj) B2
          refine ⟨g3, ?_, f12.tr f3, fun j hj => by rw [p3 j hj, k12 j hj], B3⟩
          have u1 : (up g1 176 k (bl i)) 173 (bl i) = dt i := by rw [up_at, if_neg (by (try clear n0); (try clear n1); (try clear n2); (try clear n3); (try clear top); (try clear n4); (try clear n5); (try clear n6); (try clear n7); (try clear n8); (try clear n9); (try clear hb); (try clear hor); omega)]; exact d.2.2.2
          rw [M_docksOn_b.eq_1 _ _ _ _ _ _ 3, n3, n4, hb, n5, d.1, n6, n7, n1, n2, d.2.2.1, n8, hor, if_neg (by decide), if_neg (by decide), if_pos rfl, if_neg (by (try clear n0); (try clear n1); (try clear n2); (try clear n3); (try clear top); (try clear n4); (try clear n5); (try clear n6); (try clear n7); (try clear n8); (try clear n9); (try clear hb); (try clear hor); omega), if_neg z, if_neg (by decide), if_pos (by (try clear n0); (try clear n1); (try clear n2); (try clear n3); (try clear top); (try clear n4); (try clear n5); (try clear n6); (try clear n7); (try clear n8); (try clear n9); (try clear hb); (try clear hor); omega), if_pos (by (try clear n0); (try clear n1); (try clear n2); (try clear n3); (try clear top); (try clear n4); (try clear n5); (try clear n6); (try clear n7); (try clear n8); (try clear n9); (try clear hb); (try clear hor); omega), if_pos (by (try clear n0); (try clear n1); (try clear n2); (try clear n3); (try clear top); (try clear n4); (try clear n5); (try clear n6); (try clear n7); (try clear n8); (try clear n9); (try clear hb); (try clear hor); omega), sb, u1, n9, sb, ← hE]
          rw [dd] at e2
          rw [show ((k + 1 : Nat) : Int) = (k : Int) + 1 from rfl] at e2
          rw [e2, sb, sb]
          exact e3
    obtain ⟨g', e, ff, p, r⟩ := loop c 0 g (by (try clear n0); (try clear n1); (try clear n2); (try clear n3); (try clear top); (try clear n4); (try clear n5); (try clear n6); (try clear n7); (try clear n8); (try clear n9); (try clear hb); (try clear hor); omega) D ho B
    rw [st] at r
    dsimp only at r
    rw [dkO_step] at r
    exact ⟨g', e, ff, p, r⟩
end
