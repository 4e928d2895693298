/-! plain programs: turning round, the best way; the class -/
def dg (H : Nat) : Nat → Nat → Nat → Nat
  | 0, _, _ => 0
  | j + 1, n, i => if i = j then n % H else dg H j (n / H) i
theorem dg_child {H j n h i : Nat} (hh : h < H) : dg H (j + 1) (n * H + h) i = if i = j then h else dg H j n i := by
  have e1 : (n * H + h) % H = h := by rw [Nat.mul_comm, Nat.mul_add_mod]; exact Nat.mod_eq_of_lt hh
  have e2 : (n * H + h) / H = n := by rw [Nat.mul_comm n H, Nat.mul_add_div (by omega), Nat.div_eq_of_lt hh]; rfl
  conv => lhs; unfold dg
  rw [e1, e2]
def qe (mi : Nat → Int) (D : Nat → Nat) : Nat → Nat → Int
  | 0, _ => 600
  | j + 1, h => if h = D j then qe mi D j h + mi j else qe mi D j h
theorem qe_cg {mi : Nat → Int} {D D' : Nat → Nat} : ∀ j : Nat, (∀ i, i < j → D i = D' i) → ∀ h, qe mi D j h = qe mi D' j h
  | 0, _, _ => rfl
  | j + 1, q, h => by
    unfold qe
    rw [qe_cg (mi := mi) j (fun i hi => q i (by omega)) h, q j (by omega)]
theorem qe_rng {mi : Nat → Int} {J : Nat} (K : JbOk mi J) {D : Nat → Nat} : ∀ j : Nat, j ≤ J → ∀ h, 600 ≤ qe mi D j h ∧ qe mi D j h ≤ 600 + 300 * j
  | 0, _, _ => by unfold qe; omega
  | j + 1, q, h => by
    have := qe_rng K (D := D) j (by omega) h
    have := K.2 j (by omega)
    unfold qe
    split <;> omega
theorem qe_child {mi : Nat → Int} {H j n h : Nat} (hh : h < H) : qe mi (dg H (j + 1) (n * H + h)) (j + 1) = fun x => if x = h then qe mi (dg H j n) j x + mi j else qe mi (dg H j n) j x := by
  funext x
  have e : ∀ x, qe mi (dg H (j + 1) (n * H + h)) j x = qe mi (dg H j n) j x := qe_cg j (fun i hi => by rw [dg_child hh, if_neg (by omega)])
  conv => lhs; unfold qe
  rw [e, dg_child hh, if_pos rfl]
abbrev TB : Type := Option (Int × Nat)
def tU (v : Nat → Int) (w : Nat) (s : TB) : TB :=
  match s with
  | none => some (v w, w)
  | some p => if v w < p.1 then some (v w, w) else some p
def tR {S : Type} (rec : Nat → S → S) : Nat → Nat → S → S
  | 0, _, s => s
  | k + 1, h, s => tR rec k (h + 1) (rec h s)
def tT (H : Nat) (v : Nat → Int) : Nat → Nat → TB → TB
  | 0, n, s => tU v n s
  | d + 1, n, s => tR (fun h s => tT H v d (n * H + h) s) H 0 s
def tF (v : Nat → Int) : Nat → Nat → TB → TB
  | 0, _, s => s
  | n + 1, lo, s => tF v n (lo + 1) (tU v lo s)
theorem tF_add {v : Nat → Int} : ∀ (a b lo : Nat) (s : TB), tF v (a + b) lo s = tF v b (lo + a) (tF v a lo s)
  | 0, b, lo, s => by rw [show 0 + b = b by omega]; rfl
  | a + 1, b, lo, s => by
    rw [show a + 1 + b = (a + b) + 1 by omega]
    show tF v (a + b) (lo + 1) (tU v lo s) = tF v b (lo + (a + 1)) (tF v a (lo + 1) (tU v lo s))
    rw [tF_add a b (lo + 1), show lo + 1 + a = lo + (a + 1) by omega]
theorem tF_tT {H : Nat} {v : Nat → Int} : ∀ (d n : Nat) (s : TB), tF v (H ^ d) (n * H ^ d) s = tT H v d n s
  | 0, n, s => by
    show tF v 1 (n * 1) s = tU v n s
    rw [Nat.mul_one]
    rfl
  | d + 1, n, s => by
    have ch : ∀ (k h : Nat) (s : TB), tF v (k * H ^ d) ((n * H + h) * H ^ d) s = tR (fun h s => tT H v d (n * H + h) s) k h s := by
      intro k
      induction k with
      | zero => intro h s; rw [Nat.zero_mul]; rfl
      | succ k ih =>
        intro h s
        rw [show (k + 1) * H ^ d = H ^ d + k * H ^ d by rw [Nat.succ_mul, Nat.add_comm], tF_add, tF_tT d (n * H + h)]
        have := ih (h + 1) (tT H v d (n * H + h) s)
        rw [show (n * H + (h + 1)) * H ^ d = (n * H + h) * H ^ d + H ^ d by rw [← Nat.add_assoc, Nat.succ_mul]] at this
        exact this
    have := ch H 0 s
    rw [show (n * H + 0) * H ^ d = n * H ^ (d + 1) by rw [Nat.add_zero, Nat.mul_assoc, Nat.pow_succ, Nat.mul_comm H], show H * H ^ d = H ^ (d + 1) by rw [Nat.pow_succ, Nat.mul_comm]] at this
    exact this
def tV (mi : Nat → Int) (H J : Nat) (w : Nat) : Int := leF (qe mi (dg H J w) J) H
theorem le_child {mi : Nat → Int} {J H j n h : Nat} (K : JbOk mi J) (hj : j < J) (hh : h < H) : leF (qe mi (dg H (j + 1) (n * H + h)) (j + 1)) H = max (leF (qe mi (dg H j n) j) H) (qe mi (dg H j n) j h + mi j) := by
  have := K.2 j hj
  rw [qe_child hh, leF_up (by omega) H hh]
theorem tR_same {S : Type} {rec : Nat → S → S} {s : S} {H : Nat} (q : ∀ h, h < H → rec h s = s) : ∀ k h : Nat, h + k ≤ H → tR rec k h s = s
  | 0, _, _ => rfl
  | k + 1, h, y => by
    unfold tR
    rw [q h (by omega)]
    exact tR_same q k (h + 1) (by omega)
theorem tT_prune {mi : Nat → Int} {J H : Nat} (K : JbOk mi J) : ∀ (d j n : Nat) (p : Int × Nat), j + d = J → p.1 ≤ leF (qe mi (dg H j n) j) H → tT H (tV mi H J) d n (some p) = some p
  | 0, j, n, p, h, hp => by
    unfold tT tU tV
    dsimp only
    rw [show J = j by omega, if_neg (by omega)]
  | d + 1, j, n, p, h, hp => by
    unfold tT
    refine tR_same (H := H) (fun h hh => ?_) H 0 (by omega)
    refine tT_prune K d (j + 1) (n * H + h) p (by omega) ?_
    rw [le_child K (by omega) hh]
    omega
def XTB (g : AG) (H J : Nat) (s : TB) : Prop := (s = none ∧ g 10 12 = 3001) ∨ ∃ p, s = some p ∧ g 10 12 = p.1 ∧ (600 ≤ p.1 ∧ p.1 ≤ 10000) ∧ ∀ i, i < J → g 106 i = (dg H J p.2 i : Nat)
abbrev RXS : Reg := [(10, 13), (104, 0), (105, 0), (106, 0)]
theorem XJ.fr {g g' : AG} {mi : Nat → Int} {J : Nat} (h : XJ g mi J) (f : FR RXS g g') : XJ g' mi J := ⟨by rw [f 10 7 rfl]; exact h.1, fun j hj => by rw [f 103 j rfl]; exact h.2 j hj⟩
theorem X_share_t {mi : Nat → Int} {J H : Nat} (K : JbOk mi J) (hH : 1 ≤ H ∧ H ≤ 3) : ∀ (d f j n : Nat) (s : TB) (g : AG), j + d = J → d + 1 ≤ f → XJ g mi J → (∀ i, i < j → g 105 i = (dg H j n i : Nat)) → (∀ h, h < H → g 104 h = qe mi (dg H j n) j h) → XTB g H J s → ∃ g', Yard_shareNext f j H (leF (qe mi (dg H j n) j) H) g = some (0, g') ∧ FR RXS g g' ∧ (∀ i, i < j → g' 105 i = g 105 i) ∧ (∀ h, h < H → g' 104 h = g 104 h) ∧ XTB g' H J (tT H (tV mi H J) d n s) := by
  intro d
  induction d with
  | zero =>
    intro f j n s g h hf X hD hE B
    obtain ⟨f, rfl⟩ : ∃ f', f = f' + 1 := ⟨f - 1, by (try clear n0); (try clear n1); (try clear n2); (try clear n3); (try clear n4); (try clear take); (try clear n5); (try clear top); (try clear n6); (try clear fl); omega⟩
    have hJ := K.1
    have ej : j = J := by (try clear n0); (try clear n1); (try clear n2); (try clear n3); (try clear n4); (try clear take); (try clear n5); (try clear top); (try clear n6); (try clear fl); omega
    subst ej
    have r := qe_rng K (D := dg H j n) j (by (try clear n0); (try clear n1); (try clear n2); (try clear n3); (try clear n4); (try clear take); (try clear n5); (try clear top); (try clear n6); (try clear fl); omega)
    have lr := leF_rng (e := qe mi (dg H j n) j) (B := 600 + 300 * j) (by (try clear n0); (try clear n1); (try clear n2); (try clear n3); (try clear n4); (try clear take); (try clear n5); (try clear top); (try clear n6); (try clear fl); omega) H (fun x _ => (r x).2)
    have lv : leF (qe mi (dg H j n) j) H = tV mi H j n := rfl
    obtain ⟨v, hv⟩ : ∃ v, v = tV mi H j n := ⟨_, rfl⟩
    rw [lv, ← hv] at lr
    rw [lv, ← hv]
    have n0 : nw (g 10 7) = j := by rw [X.1, nwN _ (by (try clear n0); (try clear n1); (try clear n2); (try clear n3); (try clear n4); (try clear take); (try clear n5); (try clear top); (try clear n6); (try clear fl); omega)]
    have n1 : nw (j : Int) = j := nwN _ (by (try clear n0); (try clear n1); (try clear n2); (try clear n3); (try clear n4); (try clear take); (try clear n5); (try clear top); (try clear n6); (try clear fl); omega)
    have n2 : ix (g 10 7) = j := by rw [X.1, ixN _ (by (try clear n0); (try clear n1); (try clear n2); (try clear n3); (try clear n4); (try clear take); (try clear n5); (try clear top); (try clear n6); (try clear fl); omega)]
    have n3 : ix 0 = 0 := ixN 0 (by (try clear n0); (try clear n1); (try clear n2); (try clear n3); (try clear n4); (try clear take); (try clear n5); (try clear top); (try clear n6); (try clear fl); omega)
    have n4 : nw v = v := by clear n0 n1 n2 n3; exact nw_id (by (try clear n0); (try clear n1); (try clear n2); (try clear n3); (try clear n4); (try clear take); (try clear n5); (try clear top); (try clear n6); (try clear fl); omega) (by (try clear n0); (try clear n1); (try clear n2); (try clear n3); (try clear n4); (try clear take); (try clear n5); (try clear top); (try clear n6); (try clear fl); omega)
    have take : Yard_shareNext_s (Yard_shareNext f) j H v g = (if v < nw (g 10 12) then some (0, copyG (up g 10 12 v) 105 0 106 0 j) else some (0, g)) := by
      unfold Yard_shareNext_s
      have u : (up g 10 12 v) 10 7 = g 10 7 := by rw [up_at, if_neg (by (try clear n0); (try clear n1); (try clear n2); (try clear n3); (try clear n4); (try clear take); (try clear n5); (try clear top); (try clear n6); (try clear fl); omega)]
      rw [n4, n0, n1, if_neg (show ¬ (j : Int) < j from Int.lt_irrefl _), sb, u, n0, n2, n3, if_pos (show 0 ≤ 0 ∧ 0 ≤ 0 ∧ 0 ≤ (j : Int) ∧ 0 + (j : Int) ≤ 8 ∧ 0 + (j : Int) ≤ 8 by (try clear n0); (try clear n1); (try clear n2); (try clear n3); (try clear n4); (try clear take); (try clear n5); (try clear top); (try clear n6); (try clear fl); omega), sb]
    clear n0 n1 n2 n3 n4
    have fr : FR RXS g (copyG (up g 10 12 v) 105 0 106 0 j) := by
      intro a b hab
      have z : ¬ (a = 106 ∧ 0 ≤ b ∧ b < 0 + j) := fun q => by rw [q.1] at hab; cases hab
      show (if a = 106 ∧ 0 ≤ b ∧ b < 0 + j then _ else _) = _
      rw [if_neg z, up_at, if_neg (fun q => by rw [q.1, q.2] at hab; cases hab)]
    have got : XTB (copyG (up g 10 12 v) 105 0 106 0 j) H j (some (v, n)) := by
      refine Or.inr ⟨_, rfl, ?_, ?_, fun i hi => ?_⟩
      · show (if 10 = 106 ∧ 0 ≤ 12 ∧ 12 < 0 + j then _ else _) = _
        rw [if_neg (by (try clear n0); (try clear n1); (try clear n2); (try clear n3); (try clear n4); (try clear take); (try clear n5); (try clear top); (try clear n6); (try clear fl); omega), up_at, if_pos ⟨rfl, rfl⟩]
      · dsimp only; (try clear n0); (try clear n1); (try clear n2); (try clear n3); (try clear n4); (try clear take); (try clear n5); (try clear top); (try clear n6); (try clear fl); omega
      · show (if 106 = 106 ∧ 0 ≤ i ∧ i < 0 + j then _ else _) = _
        rw [if_pos (by (try clear n0); (try clear n1); (try clear n2); (try clear n3); (try clear n4); (try clear take); (try clear n5); (try clear top); (try clear n6); (try clear fl); omega), up_at, if_neg (by (try clear n0); (try clear n1); (try clear n2); (try clear n3); (try clear n4); (try clear take); (try clear n5); (try clear top); (try clear n6); (try clear fl); omega), show 0 + (i - 0) = i by (try clear n0); (try clear n1); (try clear n2); (try clear n3); (try clear n4); (try clear take); (try clear n5); (try clear top); (try clear n6); (try clear fl); omega]
        exact hD i hi
    have k105 : ∀ i, i < j → (copyG (up g 10 12 v) 105 0 106 0 j) 105 i = g 105 i := fun i hi => by
      show (if 105 = 106 ∧ 0 ≤ i ∧ i < 0 + j then _ else _) = _
      rw [if_neg (by (try clear n0); (try clear n1); (try clear n2); (try clear n3); (try clear n4); (try clear take); (try clear n5); (try clear top); (try clear n6); (try clear fl); omega), up_at, if_neg (by (try clear n0); (try clear n1); (try clear n2); (try clear n3); (try clear n4); (try clear take); (try clear n5); (try clear top); (try clear n6); (try clear fl); omega)]
    have k104 : ∀ h, h < H → (copyG (up g 10 12 v) 105 0 106 0 j) 104 h = g 104 h := fun i hi => by
      show (if 104 = 106 ∧ 0 ≤ i ∧ i < 0 + j then _ else _) = _
      rw [if_neg (by (try clear n0); (try clear n1); (try clear n2); (try clear n3); (try clear n4); (try clear take); (try clear n5); (try clear top); (try clear n6); (try clear fl); omega), up_at, if_neg (by (try clear n0); (try clear n1); (try clear n2); (try clear n3); (try clear n4); (try clear take); (try clear n5); (try clear top); (try clear n6); (try clear fl); omega)]
    have top : Yard_shareNext (f + 1) j H v g = Yard_shareNext_s (Yard_shareNext f) j H v g := rfl
    unfold tT tU
    rcases B with ⟨e1, e2⟩ | ⟨p, e1, e2, e3, e4⟩
    · subst e1
      have n5 : nw (3001 : Int) = 3001 := nw_id (by decide) (by decide)
      dsimp only
      rw [← hv]
      exact ⟨_, by rw [top, take, e2, n5, if_pos (by (try clear n0); (try clear n1); (try clear n2); (try clear n3); (try clear n4); (try clear take); (try clear n5); (try clear top); (try clear n6); (try clear fl); omega)], fr, k105, k104, got⟩
    · subst e1
      have n5 : nw p.1 = p.1 := nw_id (by (try clear n0); (try clear n1); (try clear n2); (try clear n3); (try clear n4); (try clear take); (try clear n5); (try clear top); (try clear n6); (try clear fl); omega) (by (try clear n0); (try clear n1); (try clear n2); (try clear n3); (try clear n4); (try clear take); (try clear n5); (try clear top); (try clear n6); (try clear fl); omega)
      dsimp only
      rw [← hv]
      by_cases z : v < p.1
      · rw [if_pos z]
        exact ⟨_, by rw [top, take, e2, n5, if_pos z], fr, k105, k104, got⟩
      · rw [if_neg z]
        exact ⟨g, by rw [top, take, e2, n5, if_neg z], Fr.rf, fun i _ => rfl, fun i _ => rfl, Or.inr ⟨p, rfl, e2, e3, e4⟩⟩
  | succ d ih =>
    intro f j n s g h hf X hD hE B
    obtain ⟨f, rfl⟩ : ∃ f', f = f' + 1 := ⟨f - 1, by (try clear n0); (try clear n1); (try clear n2); (try clear n3); (try clear n4); (try clear take); (try clear n5); (try clear top); (try clear n6); (try clear fl); omega⟩
    have hJ := K.1
    have m := K.2 j (by (try clear n0); (try clear n1); (try clear n2); (try clear n3); (try clear n4); (try clear take); (try clear n5); (try clear top); (try clear n6); (try clear fl); omega)
    have r := qe_rng K (D := dg H j n) j (by (try clear n0); (try clear n1); (try clear n2); (try clear n3); (try clear n4); (try clear take); (try clear n5); (try clear top); (try clear n6); (try clear fl); omega)
    have lr := leF_rng (e := qe mi (dg H j n) j) (B := 600 + 300 * j) (by (try clear n0); (try clear n1); (try clear n2); (try clear n3); (try clear n4); (try clear take); (try clear n5); (try clear top); (try clear n6); (try clear fl); omega) H (fun x _ => (r x).2)
    obtain ⟨v, hv⟩ : ∃ v, v = leF (qe mi (dg H j n) j) H := ⟨_, rfl⟩
    rw [← hv] at lr
    rw [← hv]
    have n0 : nw (g 10 7) = J := by rw [X.1, nwN _ (by (try clear n0); (try clear n1); (try clear n2); (try clear n3); (try clear n4); (try clear take); (try clear n5); (try clear top); (try clear n6); (try clear fl); omega)]
    have n1 : nw (j : Int) = j := nwN _ (by (try clear n0); (try clear n1); (try clear n2); (try clear n3); (try clear n4); (try clear take); (try clear n5); (try clear top); (try clear n6); (try clear fl); omega)
    have n2 : ix (j : Int) = j := ixN _ (by (try clear n0); (try clear n1); (try clear n2); (try clear n3); (try clear n4); (try clear take); (try clear n5); (try clear top); (try clear n6); (try clear fl); omega)
    have n3 : nw (H : Int) = H := nwN _ (by (try clear n0); (try clear n1); (try clear n2); (try clear n3); (try clear n4); (try clear take); (try clear n5); (try clear top); (try clear n6); (try clear fl); omega)
    have n4 : nw v = v := by clear n0 n1 n2 n3; exact nw_id (by (try clear n0); (try clear n1); (try clear n2); (try clear n3); (try clear n4); (try clear take); (try clear n5); (try clear top); (try clear n6); (try clear fl); omega) (by (try clear n0); (try clear n1); (try clear n2); (try clear n3); (try clear n4); (try clear take); (try clear n5); (try clear top); (try clear n6); (try clear fl); omega)
    have top : Yard_shareNext (f + 1) j H v g = (if v < nw (g 10 12) then Yard_shareNext_b (Yard_shareNext f) j H v 0 g else some (0, g)) := by
      show Yard_shareNext_s (Yard_shareNext f) j H v g = _
      unfold Yard_shareNext_s
      rw [n4, n0, n1, if_pos (show (j : Int) < J by (try clear n0); (try clear n1); (try clear n2); (try clear n3); (try clear n4); (try clear take); (try clear n5); (try clear top); (try clear n6); (try clear fl); omega)]
    have loop : ∀ (k h : Nat) (s : TB) (g1 : AG), h + k = H → XJ g1 mi J → (∀ i, i < j → g1 105 i = (dg H j n i : Nat)) → (∀ h, h < H → g1 104 h = qe mi (dg H j n) j h) → XTB g1 H J s → ∃ g', Yard_shareNext_b (Yard_shareNext f) j H v h g1 = some (0, g') ∧ FR RXS g1 g' ∧ (∀ i, i < j → g' 105 i = g1 105 i) ∧ (∀ h, h < H → g' 104 h = g1 104 h) ∧ XTB g' H J (tR (fun h s => tT H (tV mi H J) d (n * H + h) s) k h s) := by
      intro k
      induction k with
      | zero =>
        intro h s g1 hk X1 hD1 hE1 B1
        refine ⟨g1, ?_, Fr.rf, fun i _ => rfl, fun i _ => rfl, B1⟩
        have n5 : nw (h : Int) = h := nwN _ (by (try clear n0); (try clear n1); (try clear n2); (try clear n3); (try clear n4); (try clear take); (try clear n5); (try clear top); (try clear n6); (try clear fl); omega)
        rw [Yard_shareNext_b, n3, n5, if_pos (by (try clear n0); (try clear n1); (try clear n2); (try clear n3); (try clear n4); (try clear take); (try clear n5); (try clear top); (try clear n6); (try clear fl); omega)]
      | succ k ihk =>
        intro h s g1 hk X1 hD1 hE1 B1
        have hh : h < H := by (try clear n0); (try clear n1); (try clear n2); (try clear n3); (try clear n4); (try clear take); (try clear n5); (try clear top); (try clear n6); (try clear fl); omega
        have rh := r h
        have lc := le_child (n := n) K (show j < J by (try clear n0); (try clear n1); (try clear n2); (try clear n3); (try clear n4); (try clear take); (try clear n5); (try clear top); (try clear n6); (try clear fl); omega) hh
        rw [← hv] at lc
        obtain ⟨g6, hg6⟩ : ∃ g6 : AG, g6 = up (up g1 105 j h) 104 h (qe mi (dg H j n) j h + mi j) := ⟨_, rfl⟩
        have f6 : FR RXS g1 g6 := by rw [hg6]; exact Fr.up (Fr.up Fr.rf rfl) rfl
        have n5 : nw (h : Int) = h := nwN _ (by (try clear n0); (try clear n1); (try clear n2); (try clear n3); (try clear n4); (try clear take); (try clear n5); (try clear top); (try clear n6); (try clear fl); omega)
        have n6 : ix (h : Int) = h := ixN _ (by (try clear n0); (try clear n1); (try clear n2); (try clear n3); (try clear n4); (try clear take); (try clear n5); (try clear top); (try clear n6); (try clear fl); omega)
        have v6 : g6 104 h = qe mi (dg H j n) j h + mi j := by rw [hg6, up_at, if_pos ⟨rfl, rfl⟩]
        have mx : mxI v (g6 104 h) = leF (qe mi (dg H (j + 1) (n * H + h)) (j + 1)) H := by
          rw [v6, lc]
          clear n0 n1 n2 n3 n4 n5 n6
          exact mxI_s (by (try clear n0); (try clear n1); (try clear n2); (try clear n3); (try clear n4); (try clear take); (try clear n5); (try clear top); (try clear n6); (try clear fl); omega) (by (try clear n0); (try clear n1); (try clear n2); (try clear n3); (try clear n4); (try clear take); (try clear n5); (try clear top); (try clear n6); (try clear fl); omega) (by (try clear n0); (try clear n1); (try clear n2); (try clear n3); (try clear n4); (try clear take); (try clear n5); (try clear top); (try clear n6); (try clear fl); omega) (by (try clear n0); (try clear n1); (try clear n2); (try clear n3); (try clear n4); (try clear take); (try clear n5); (try clear top); (try clear n6); (try clear fl); omega)
        obtain ⟨g8, e8, f8, p8, q8, B8⟩ := ih f (j + 1) (n * H + h) s g6 (by (try clear n0); (try clear n1); (try clear n2); (try clear n3); (try clear n4); (try clear take); (try clear n5); (try clear top); (try clear n6); (try clear fl); omega) (by (try clear n0); (try clear n1); (try clear n2); (try clear n3); (try clear n4); (try clear take); (try clear n5); (try clear top); (try clear n6); (try clear fl); omega) (X1.fr f6) (fun i hi => by
          rw [dg_child hh, hg6, up_at, if_neg (by (try clear n0); (try clear n1); (try clear n2); (try clear n3); (try clear n4); (try clear take); (try clear n5); (try clear top); (try clear n6); (try clear fl); omega), up_at]
          by_cases z : i = j
          · rw [if_pos ⟨rfl, z⟩, if_pos z]
          · rw [if_neg (fun q => z q.2), if_neg z]; exact hD1 i (by (try clear n0); (try clear n1); (try clear n2); (try clear n3); (try clear n4); (try clear take); (try clear n5); (try clear top); (try clear n6); (try clear fl); omega)) (fun x hx => by
          rw [qe_child hh, hg6, up_at]
          dsimp only
          by_cases z : x = h
          · rw [if_pos ⟨rfl, z⟩, if_pos z, z]
          · rw [if_neg (fun q => z q.2), if_neg z, up_at, if_neg (by (try clear n0); (try clear n1); (try clear n2); (try clear n3); (try clear n4); (try clear take); (try clear n5); (try clear top); (try clear n6); (try clear fl); omega)]; exact hE1 x hx) (by
          rcases B1 with ⟨b1, b2⟩ | ⟨p, b1, b2, b3, b4⟩
          · exact Or.inl ⟨b1, by rw [hg6, up_at, if_neg (by (try clear n0); (try clear n1); (try clear n2); (try clear n3); (try clear n4); (try clear take); (try clear n5); (try clear top); (try clear n6); (try clear fl); omega), up_at, if_neg (by (try clear n0); (try clear n1); (try clear n2); (try clear n3); (try clear n4); (try clear take); (try clear n5); (try clear top); (try clear n6); (try clear fl); omega)]; exact b2⟩
          · exact Or.inr ⟨p, b1, by rw [hg6, up_at, if_neg (by (try clear n0); (try clear n1); (try clear n2); (try clear n3); (try clear n4); (try clear take); (try clear n5); (try clear top); (try clear n6); (try clear fl); omega), up_at, if_neg (by (try clear n0); (try clear n1); (try clear n2); (try clear n3); (try clear n4); (try clear take); (try clear n5); (try clear top); (try clear n6); (try clear fl); omega)]; exact b2, b3, fun i hi => by rw [hg6, up_at, if_neg (by (try clear n0); (try clear n1); (try clear n2); (try clear n3); (try clear n4); (try clear take); (try clear n5); (try clear top); (try clear n6); (try clear fl); omega), up_at, if_neg (by (try clear n0); (try clear n1); (try clear n2); (try clear n3); (try clear n4); (try clear take); (try clear n5); (try clear top); (try clear n6); (try clear fl); omega)]; exact b4 i hi⟩)
        have f68 := f6.tr f8
        have m8 : g8 103 j = mi j := by rw [f68 103 j rfl]; exact X1.2 j (by (try clear n0); (try clear n1); (try clear n2); (try clear n3); (try clear n4); (try clear take); (try clear n5); (try clear top); (try clear n6); (try clear fl); omega)
        obtain ⟨g10, hg10⟩ : ∃ g10 : AG, g10 = up g8 104 h (g8 104 h - g8 103 j) := ⟨_, rfl⟩
        have f10 : FR RXS g1 g10 := by rw [hg10]; exact Fr.up f68 rfl
        have k104 : ∀ x, x < H → g10 104 x = g1 104 x := fun x hx => by
          rw [hg10, up_at]
          by_cases z : x = h
          · rw [if_pos ⟨rfl, z⟩, m8, q8 h hh, v6, z, hE1 h hh]
            clear n0 n1 n2 n3 n4 n5 n6
            omega
          · rw [if_neg (fun q => z q.2), q8 x hx, hg6, up_at, if_neg (fun q => z q.2), up_at, if_neg (by (try clear n0); (try clear n1); (try clear n2); (try clear n3); (try clear n4); (try clear take); (try clear n5); (try clear top); (try clear n6); (try clear fl); omega)]
        have k105 : ∀ i, i < j → g10 105 i = g1 105 i := fun i hi => by
          rw [hg10, up_at, if_neg (by (try clear n0); (try clear n1); (try clear n2); (try clear n3); (try clear n4); (try clear take); (try clear n5); (try clear top); (try clear n6); (try clear fl); omega), p8 i (by (try clear n0); (try clear n1); (try clear n2); (try clear n3); (try clear n4); (try clear take); (try clear n5); (try clear top); (try clear n6); (try clear fl); omega), hg6, up_at, if_neg (by (try clear n0); (try clear n1); (try clear n2); (try clear n3); (try clear n4); (try clear take); (try clear n5); (try clear top); (try clear n6); (try clear fl); omega), up_at, if_neg (by (try clear n0); (try clear n1); (try clear n2); (try clear n3); (try clear n4); (try clear take); (try clear n5); (try clear top); (try clear n6); (try clear fl); omega)]
        obtain ⟨g', e', f', p', q', B'⟩ := ihk (h + 1) _ g10 (by (try clear n0); (try clear n1); (try clear n2); (try clear n3); (try clear n4); (try clear take); (try clear n5); (try clear top); (try clear n6); (try clear fl); omega) (X1.fr f10) (fun i hi => by rw [k105 i hi]; exact hD1 i hi) (fun x hx => by rw [k104 x hx]; exact hE1 x hx) (by
          rcases B8 with ⟨b1, b2⟩ | ⟨p, b1, b2, b3, b4⟩
          · exact Or.inl ⟨b1, by rw [hg10, up_at, if_neg (by (try clear n0); (try clear n1); (try clear n2); (try clear n3); (try clear n4); (try clear take); (try clear n5); (try clear top); (try clear n6); (try clear fl); omega)]; exact b2⟩
          · exact Or.inr ⟨p, b1, by rw [hg10, up_at, if_neg (by (try clear n0); (try clear n1); (try clear n2); (try clear n3); (try clear n4); (try clear take); (try clear n5); (try clear top); (try clear n6); (try clear fl); omega)]; exact b2, b3, fun i hi => by rw [hg10, up_at, if_neg (by (try clear n0); (try clear n1); (try clear n2); (try clear n3); (try clear n4); (try clear take); (try clear n5); (try clear top); (try clear n6); (try clear fl); omega)]; exact b4 i hi⟩)
        refine ⟨g', ?_, f10.tr f', fun i hi => by rw [p' i hi, k105 i hi], fun x hx => by rw [q' x hx, k104 x hx], B'⟩
        rw [Yard_shareNext_b, n3, n5, n1, n2, n6, if_neg (by (try clear n0); (try clear n1); (try clear n2); (try clear n3); (try clear n4); (try clear take); (try clear n5); (try clear top); (try clear n6); (try clear fl); omega), if_pos (by (try clear n0); (try clear n1); (try clear n2); (try clear n3); (try clear n4); (try clear take); (try clear n5); (try clear top); (try clear n6); (try clear fl); omega), sb, if_pos (by (try clear n0); (try clear n1); (try clear n2); (try clear n3); (try clear n4); (try clear take); (try clear n5); (try clear top); (try clear n6); (try clear fl); omega)]
        have u1 : (up g1 105 j h) 104 h = qe mi (dg H j n) j h := by rw [up_at, if_neg (by (try clear n0); (try clear n1); (try clear n2); (try clear n3); (try clear n4); (try clear take); (try clear n5); (try clear top); (try clear n6); (try clear fl); omega)]; exact hE1 h hh
        have u2 : (up g1 105 j h) 103 j = mi j := by rw [up_at, if_neg (by (try clear n0); (try clear n1); (try clear n2); (try clear n3); (try clear n4); (try clear take); (try clear n5); (try clear top); (try clear n6); (try clear fl); omega)]; exact X1.2 j (by (try clear n0); (try clear n1); (try clear n2); (try clear n3); (try clear n4); (try clear take); (try clear n5); (try clear top); (try clear n6); (try clear fl); omega)
        rw [u1, u2, sb, ← hg6, mx]
        rw [show ((j + 1 : Nat) : Int) = (j : Int) + 1 from rfl] at e8
        rw [e8, sb, sb]
        dsimp only
        rw [← hg10]
        exact e'
    have fl : v < nw (g 10 12) → ∃ g', Yard_shareNext (f + 1) j H v g = some (0, g') ∧ FR RXS g g' ∧ (∀ i, i < j → g' 105 i = g 105 i) ∧ (∀ h, h < H → g' 104 h = g 104 h) ∧ XTB g' H J (tT H (tV mi H J) (d + 1) n s) := by
      intro z
      obtain ⟨g', e', R⟩ := loop H 0 s g (by (try clear n0); (try clear n1); (try clear n2); (try clear n3); (try clear n4); (try clear take); (try clear n5); (try clear top); (try clear n6); (try clear fl); omega) X hD hE B
      refine ⟨g', ?_, R⟩
      rw [top, if_pos z]
      exact e'
    clear n0 n1 n2 n3 n4
    by_cases z : v < nw (g 10 12)
    · exact fl z
    · rcases B with ⟨b1, b2⟩ | ⟨p, b1, b2, b3, b4⟩
      · have n5 : nw (3001 : Int) = 3001 := nw_id (by decide) (by decide)
        rw [b2, n5] at z
        exact absurd (show v < 3001 by (try clear n0); (try clear n1); (try clear n2); (try clear n3); (try clear n4); (try clear take); (try clear n5); (try clear top); (try clear n6); (try clear fl); omega) z
      · have n5 : nw p.1 = p.1 := nw_id (by (try clear n0); (try clear n1); (try clear n2); (try clear n3); (try clear n4); (try clear take); (try clear n5); (try clear top); (try clear n6); (try clear fl); omega) (by (try clear n0); (try clear n1); (try clear n2); (try clear n3); (try clear n4); (try clear take); (try clear n5); (try clear top); (try clear n6); (try clear fl); omega)
        refine ⟨g, by rw [top, if_neg z], Fr.rf, fun i _ => rfl, fun i _ => rfl, ?_⟩
        rw [b2, n5] at z
        clear n5
        rw [b1, tT_prune K (d + 1) j n p h (by rw [← hv]; omega)]
        exact Or.inr ⟨p, rfl, b2, b3, b4⟩
