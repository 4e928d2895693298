/-! plain programs: the queue at a lock, what is sought -/
theorem nwN (k : Nat) (h : k < 2147483648) : nw (k : Int) = k := nw_id (by omega) (by omega)
theorem ixN (k : Nat) (h : k < 2147483648) : ix (k : Int) = k := by rw [ix_id (by omega) (by omega), Int.toNat_natCast]
def qTW (cm wy : Nat → Int) (o : Nat → Nat) : Nat → Int × Int
  | 0 => (0, 0)
  | i + 1 => (max (cm (o i)) (qTW cm wy o i).1 + (if 0 < i ∧ wy (o i) = wy (o (i - 1)) then 20 else 15), (qTW cm wy o i).2 + (max (cm (o i)) (qTW cm wy o i).1 - cm (o i)))
theorem qTW_succ {cm wy : Nat → Int} {o : Nat → Nat} {i : Nat} : qTW cm wy o (i + 1) = (max (cm (o i)) (qTW cm wy o i).1 + (if 0 < i ∧ wy (o i) = wy (o (i - 1)) then 20 else 15), (qTW cm wy o i).2 + (max (cm (o i)) (qTW cm wy o i).1 - cm (o i))) := rfl
abbrev QS : Type := Option (Int × (Nat → Nat))
def ud (o : Nat → Nat) (i b : Nat) : Nat → Nat := fun j => if j = i then b else o j
theorem ud_lt {o : Nat → Nat} {i b j : Nat} (h : j < i) : ud o i b j = o j := by unfold ud; rw [if_neg (by omega)]
theorem ud_at {o : Nat → Nat} {i b : Nat} : ud o i b i = b := by unfold ud; rw [if_pos rfl]
theorem ud_all {o : Nat → Nat} {i b c : Nat} (h : ∀ j, j < i → o j < c) (hb : b < c) : ∀ j, j < i + 1 → ud o i b j < c := by
  intro j hj
  unfold ud
  split
  · exact hb
  · exact h j (by omega)
def qLeaf (cm wy : Nat → Int) (c : Nat) (o : Nat → Nat) (s : QS) : QS :=
  match s with
  | none => some ((qTW cm wy o c).2, o)
  | some p => if (qTW cm wy o c).2 < p.1 then some ((qTW cm wy o c).2, o) else some p
def qLoop {S : Type} (rec : Nat → S → S) (m : Int) : Nat → Nat → S → S
  | 0, _, s => s
  | k + 1, b, s => qLoop rec m k (b + 1) (if tb m b = true then s else rec b s)
def qS (cm wy : Nat → Int) (c : Nat) : Nat → Nat → Int → (Nat → Nat) → QS → QS
  | 0, _, _, o, s => qLeaf cm wy c o s
  | n + 1, i, m, o, s => qLoop (fun b s => qS cm wy c n (i + 1) (orI m (shlI 1 (b : Int))) (ud o i b) s) m c 0 s
theorem qTW_cg {cm wy : Nat → Int} {o o' : Nat → Nat} : ∀ i : Nat, (∀ j, j < i → o j = o' j) → qTW cm wy o i = qTW cm wy o' i
  | 0, _ => rfl
  | i + 1, h => by
    have e := qTW_cg (cm := cm) (wy := wy) i (fun j hj => h j (by omega))
    rw [qTW_succ, qTW_succ, e, h i (by omega)]
    by_cases z : 0 < i
    · rw [h (i - 1) (by omega)]
    · simp only [z, false_and]
def QOk (cm : Nat → Int) (c : Nat) : Prop := c ≤ 7 ∧ ∀ j, j < c → 0 ≤ cm j ∧ cm j ≤ 9999
theorem qTW_rng {cm wy : Nat → Int} {c : Nat} (C : QOk cm c) {o : Nat → Nat} : ∀ i : Nat, i ≤ c → (∀ j, j < i → o j < c) → (0 ≤ (qTW cm wy o i).1 ∧ (qTW cm wy o i).1 ≤ 9999 + 20 * i) ∧ 0 ≤ (qTW cm wy o i).2 ∧ (qTW cm wy o i).2 ≤ 10300 * i
  | 0, _, _ => by unfold qTW; omega
  | i + 1, hi, h => by
    have e := qTW_rng (wy := wy) C i (by omega) (fun j hj => h j (by omega))
    have h2 := C.2 (o i) (h i (by omega))
    have h3 := C.1
    rw [qTW_succ]
    dsimp only
    refine ⟨⟨?_, ?_⟩, ?_, ?_⟩
    · split <;> omega
    · split <;> omega
    · omega
    · omega
theorem qTW_mono {cm wy : Nat → Int} {o : Nat → Nat} (i : Nat) : (qTW cm wy o i).2 ≤ (qTW cm wy o (i + 1)).2 := by
  show _ ≤ (qTW cm wy o i).2 + (max (cm (o i)) (qTW cm wy o i).1 - cm (o i))
  omega
theorem qLoop_same {S : Type} {rec : Nat → S → S} {m : Int} {s : S} (h : ∀ b, rec b s = s) : ∀ k b : Nat, qLoop rec m k b s = s
  | 0, _ => rfl
  | k + 1, b => by
    unfold qLoop
    rw [h b, ite_self]
    exact qLoop_same h k (b + 1)
theorem qLoop_ind {S : Type} {rec : Nat → S → S} {m : Int} {P : S → Prop} {c : Nat} (h : ∀ b s, b < c → P s → P (rec b s)) : ∀ (k b : Nat) (s : S), b + k ≤ c → P s → P (qLoop rec m k b s)
  | 0, _, _, _, p => p
  | k + 1, b, s, hb, p => by
    unfold qLoop
    refine qLoop_ind h k (b + 1) _ (by omega) ?_
    split
    · exact p
    · exact h b s (by omega) p
theorem qS_prune {cm wy : Nat → Int} {c : Nat} : ∀ (n i : Nat) (m : Int) (o : Nat → Nat) (p : Int × (Nat → Nat)), i + n = c → p.1 ≤ (qTW cm wy o i).2 → qS cm wy c n i m o (some p) = some p
  | 0, i, m, o, p, h, hp => by
    unfold qS qLeaf
    dsimp only
    rw [show c = i by omega, if_neg (by omega)]
  | n + 1, i, m, o, p, h, hp => by
    unfold qS
    refine qLoop_same (fun b => ?_) c 0
    refine qS_prune n (i + 1) _ _ p (by omega) ?_
    have e1 := qTW_mono (cm := cm) (wy := wy) (o := ud o i b) i
    have e2 := qTW_cg (cm := cm) (wy := wy) (o := ud o i b) (o' := o) i (fun j hj => ud_lt hj)
    rw [e2] at e1
    omega
def QGood (cm wy : Nat → Int) (c : Nat) (s : QS) : Prop := ∀ p, s = some p → p.1 = (qTW cm wy p.2 c).2 ∧ ∀ j, j < c → p.2 j < c
theorem qS_good {cm wy : Nat → Int} {c : Nat} : ∀ (n i : Nat) (m : Int) (o : Nat → Nat) (s : QS), i + n = c → (∀ j, j < i → o j < c) → QGood cm wy c s → QGood cm wy c (qS cm wy c n i m o s)
  | 0, i, m, o, s, h, ho, G => by
    have leafG : QGood cm wy c (some ((qTW cm wy o c).2, o)) := by
      intro p hp
      have := Option.some.inj hp
      subst this
      exact ⟨rfl, fun j hj => ho j (by omega)⟩
    unfold qS qLeaf
    cases s with
    | none => exact leafG
    | some q =>
      dsimp only
      split
      · exact leafG
      · exact G
  | n + 1, i, m, o, s, h, ho, G => by
    unfold qS
    refine qLoop_ind (P := QGood cm wy c) (c := c) (fun b s hb G => ?_) c 0 s (by omega) G
    exact qS_good n (i + 1) _ _ s (by omega) (ud_all ho hb) G
theorem qS_some {cm wy : Nat → Int} {c : Nat} : ∀ (n i : Nat) (m : Int) (o : Nat → Nat) (s : QS), i + n = c → s ≠ none → qS cm wy c n i m o s ≠ none
  | 0, i, m, o, s, h, hs => by
    unfold qS qLeaf
    cases s with
    | none => exact absurd rfl hs
    | some q =>
      dsimp only
      split <;> exact fun e => by cases e
  | n + 1, i, m, o, s, h, hs => by
    unfold qS
    exact qLoop_ind (P := fun s => s ≠ none) (c := c) (fun b s _ hs => qS_some n (i + 1) _ _ s (by omega) hs) c 0 s (by omega) hs
/-- the order as they come, up to i -/
def qId (i : Nat) : Nat → Nat := fun j => if j < i then j else 0
theorem qId_ud (i : Nat) : ud (qId i) i i = qId (i + 1) := by
  funext j
  unfold ud qId
  by_cases e : j = i
  · subst e; rw [if_pos rfl, if_pos (by omega)]
  · rw [if_neg e]
    by_cases e2 : j < i
    · rw [if_pos e2, if_pos (by omega)]
    · rw [if_neg e2, if_neg (by omega)]
theorem qLoop_skip {S : Type} {rec : Nat → S → S} {m : Int} {s : S} : ∀ (d k b : Nat), (∀ j, b ≤ j → j < b + d → tb m j = true) → qLoop rec m (d + k) b s = qLoop rec m k (b + d) s
  | 0, k, b, _ => by rw [show (0 : Nat) + k = k by omega]; rfl
  | d + 1, k, b, h => by
    rw [show d + 1 + k = (d + k) + 1 by omega]
    show qLoop rec m (d + k) (b + 1) (if tb m b = true then s else rec b s) = _
    rw [if_pos (h b (by omega) (by omega)), qLoop_skip d k (b + 1) (fun j h1 h2 => h j (by omega) (by omega)), show b + 1 + d = b + (d + 1) by omega]
theorem qS_left {cm wy : Nat → Int} {c : Nat} (hc : c ≤ 7) : ∀ (n i : Nat) (m : Int), i + n = c → (∀ j, j < 32 → tb m j = decide (j < i)) → qS cm wy c n i m (qId i) none = qS cm wy c n i m (qId i) (some ((qTW cm wy (qId c) c).2, qId c))
  | 0, i, m, h, hm => by
    unfold qS qLeaf
    dsimp only
    rw [show i = c by omega, if_neg (by omega)]
  | n + 1, i, m, h, hm => by
    unfold qS
    have e : ∀ s : QS, qLoop (fun b s => qS cm wy c n (i + 1) (orI m (shlI 1 (b : Int))) (ud (qId i) i b) s) m c 0 s = qLoop (fun b s => qS cm wy c n (i + 1) (orI m (shlI 1 (b : Int))) (ud (qId i) i b) s) m n (i + 1) (qS cm wy c n (i + 1) (orI m (shlI 1 (i : Int))) (ud (qId i) i i) s) := by
      intro s
      have e1 := qLoop_skip (rec := fun b s => qS cm wy c n (i + 1) (orI m (shlI 1 (b : Int))) (ud (qId i) i b) s) (m := m) (s := s) i (n + 1) 0 (fun j _ h2 => by rw [hm j (by omega)]; simp; omega)
      rw [show i + (n + 1) = c by omega] at e1
      rw [e1, show (0 : Nat) + i = i by omega]
      have e2 : tb m i = false := by rw [hm i (by omega)]; simp
      show qLoop _ m n (i + 1) (if tb m i = true then s else _) = _
      rw [e2, if_neg (by decide)]
    rw [e, e, qId_ud]
    rw [qS_left hc n (i + 1) (orI m (shlI 1 (i : Int))) (by omega) (fun j hj => by
      rw [tb_or, tb_shl1 i (by omega) hj, hm j hj]
      by_cases a : j < i
      · simp [a]; omega
      · by_cases b : j = i
        · subst b; simp
        · simp [a, b]; omega)]
