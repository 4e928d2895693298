/-! plain programs: the bookings, what is sought -/
def uv (f : Nat → Int) (i : Nat) (v : Int) : Nat → Int := fun j => if j = i then v else f j
theorem uv_at {f : Nat → Int} {i : Nat} {v : Int} : uv f i v i = v := by unfold uv; rw [if_pos rfl]
theorem uv_ne {f : Nat → Int} {i j : Nat} {v : Int} (h : j ≠ i) : uv f i v j = f j := by unfold uv; rw [if_neg h]
abbrev GS : Type := Int × Int × (Nat → Int)
def gHome (wh hh : Nat → Int) : Nat → Int
  | 0 => 0
  | b + 1 => gHome wh hh b + (if wh b = hh b then 1 else 0)
theorem gHome_rng {wh hh : Nat → Int} : ∀ k : Nat, 0 ≤ gHome wh hh k ∧ gHome wh hh k ≤ k
  | 0 => by unfold gHome; omega
  | k + 1 => by
    have := gHome_rng (wh := wh) (hh := hh) k
    unfold gHome
    split <;> omega
def gLeaf (hh : Nat → Int) (k : Nat) (n : Int) (wh as : Nat → Int) (s : GS) : GS := if s.1 < n ∨ (n = s.1 ∧ s.2.1 < gHome wh hh k) then (n, gHome wh hh k, as) else s
abbrev gOk (bf bw bb hb wh bz : Nat → Int) (j b : Nat) : Prop := bb j ≤ hb b ∧ wh b = bf j ∧ bz b < bw j
def gS (bf bt bw bb hb hh : Nat → Int) (o : Nat → Nat) (k : Nat) : Nat → Nat → Int → (Nat → Int) → (Nat → Int) → (Nat → Int) → GS → GS
  | 0, _, n, wh, _, as, s => gLeaf hh k n wh as s
  | r + 1, i, n, wh, bz, as, s => gS bf bt bw bb hb hh o k r (i + 1) n wh bz (uv as (o i) (-1)) (tR (fun b s => if gOk bf bw bb hb wh bz (o i) b then gS bf bt bw bb hb hh o k r (i + 1) (n + 1) (uv wh b (bt (o i))) (uv bz b (bw (o i))) (uv as (o i) (b : Nat)) s else s) k 0 s)
def BkOk (c : Nat) (bf bt bw bb : Nat → Int) : Prop := c ≤ 8 ∧ ∀ j, j < c → (0 ≤ bf j ∧ bf j ≤ 15) ∧ (0 ≤ bt j ∧ bt j ≤ 15) ∧ (0 ≤ bw j ∧ bw j ≤ 9) ∧ (2 ≤ bb j ∧ bb j ≤ 12)
def BtOk (k : Nat) (hb hh : Nat → Int) : Prop := k ≤ 4 ∧ ∀ b, b < k → (0 ≤ hb b ∧ hb b ≤ 15) ∧ (0 ≤ hh b ∧ hh b ≤ 15)
/-- the order in which bookings are gone through -/
def Ord (c : Nat) (bw : Nat → Int) (o : Nat → Nat) : Prop := (∀ p, p < c → o p < c) ∧ (∀ p q, p < q → q < c → bw (o p) < bw (o q) ∨ (bw (o p) = bw (o q) ∧ o p < o q)) ∧ ∀ j, j < c → ∃ p, p < c ∧ o p = j
theorem Ord.inj {c : Nat} {bw : Nat → Int} {o : Nat → Nat} (h : Ord c bw o) {p q : Nat} (hp : p < c) (hq : q < c) (e : o p = o q) : p = q := by
  rcases Nat.lt_trichotomy p q with z | z | z
  · have := h.2.1 p q z hq
    rw [e] at this
    omega
  · exact z
  · have := h.2.1 q p z hp
    rw [e] at this
    omega
theorem Ord.le {c : Nat} {bw : Nat → Int} {o : Nat → Nat} (h : Ord c bw o) {p q : Nat} (hpq : p ≤ q) (hq : q < c) : bw (o p) ≤ bw (o q) := by
  by_cases e : p = q
  · rw [e]; exact Int.le_refl _
  · have := h.2.1 p q (by omega) hq
    omega
theorem Ord.one {c : Nat} {bw : Nat → Int} {o o' : Nat → Nat} (h : Ord c bw o) (h' : Ord c bw o') : ∀ p, p < c → o p = o' p := by
  intro p
  induction p using Nat.strongRecOn with
  | ind p ih =>
    intro hp
    have lem : ∀ a b : Nat → Nat, Ord c bw a → Ord c bw b → (∀ q, q < p → a q = b q) → ¬ (bw (a p) < bw (b p) ∨ (bw (a p) = bw (b p) ∧ a p < b p)) := by
      intro a b ha hb heq z
      obtain ⟨q, hq, e⟩ := hb.2.2 (a p) (ha.1 p hp)
      rcases Nat.lt_or_ge q p with y | y
      · rw [← heq q y] at e
        have := ha.inj hq hp e
        omega
      · by_cases x : q = p
        · rw [x] at e
          rw [e] at z
          omega
        · have := hb.2.1 p q (by omega) hq
          rw [e] at this
          omega
    have n1 := lem o o' h h' (fun q hq => ih q hq (by omega))
    have n2 := lem o' o h' h (fun q hq => (ih q hq (by omega)).symm)
    omega
/-- what holds where i bookings have been gone through -/
def GI (c : Nat) (bt bw hh : Nat → Int) (o : Nat → Nat) (k i : Nat) (n : Int) (wh bz : Nat → Int) : Prop := (0 ≤ n ∧ n ≤ i) ∧ (∀ b, b < k → (0 ≤ wh b ∧ wh b ≤ 15) ∧ (-1 ≤ bz b ∧ bz b ≤ 9)) ∧ (∀ b, b < k → ∀ p, i ≤ p → p < c → bz b ≤ bw (o p)) ∧ ∀ b, b < k → wh b = hh b ∨ ∃ x, x < c ∧ wh b = bt x ∧ bw x ≤ bz b
theorem GI.none {c : Nat} {bt bw hh : Nat → Int} {o : Nat → Nat} {k i : Nat} {n : Int} {wh bz : Nat → Int} (h : GI c bt bw hh o k i n wh bz) : GI c bt bw hh o k (i + 1) n wh bz := ⟨by have := h.1; omega, h.2.1, fun b hb p hp hc => h.2.2.1 b hb p (by omega) hc, h.2.2.2⟩
theorem GI.some {c : Nat} {bf bt bw bb hh : Nat → Int} {o : Nat → Nat} {k i : Nat} {n : Int} {wh bz : Nat → Int} (K : BkOk c bf bt bw bb) (O : Ord c bw o) (h : GI c bt bw hh o k i n wh bz) (hi : i < c) (b : Nat) : GI c bt bw hh o k (i + 1) (n + 1) (uv wh b (bt (o i))) (uv bz b (bw (o i))) := by
  have ho := O.1 i hi
  have r := K.2 (o i) ho
  refine ⟨by have := h.1; omega, fun x hx => ?_, fun x hx p hp hc => ?_, fun x hx => ?_⟩
  · by_cases e : x = b
    · rw [e, uv_at, uv_at]; omega
    · rw [uv_ne e, uv_ne e]; exact h.2.1 x hx
  · by_cases e : x = b
    · rw [e, uv_at]; exact O.le (by omega) hc
    · rw [uv_ne e]; exact h.2.2.1 x hx p (by omega) hc
  · by_cases e : x = b
    · rw [e, uv_at, uv_at]; exact Or.inr ⟨o i, ho, rfl, Int.le_refl _⟩
    · rw [uv_ne e, uv_ne e]; exact h.2.2.2 x hx
/-- hope: what can still be served -/
def cEv (c : Nat) (bf bt bw bb hb hh : Nat → Int) (k j : Nat) : Prop := ∃ b, b < k ∧ bb j ≤ hb b ∧ (hh b = bf j ∨ ∃ x, x < c ∧ bw x < bw j ∧ bt x = bf j)
def Hop (c : Nat) (bf bt bw bb hb hh : Nat → Int) (o : Nat → Nat) (k : Nat) (hp : Nat → Int) : Prop := hp c = 0 ∧ ∀ i, i < c → (hp i = hp (i + 1) ∨ hp i = hp (i + 1) + 1) ∧ (cEv c bf bt bw bb hb hh k (o i) → hp i = hp (i + 1) + 1)
theorem gS_prune {c : Nat} {bf bt bw bb hb hh : Nat → Int} {o : Nat → Nat} {k : Nat} {hp : Nat → Int} (K : BkOk c bf bt bw bb) (O : Ord c bw o) (H : Hop c bf bt bw bb hb hh o k hp) : ∀ (r i : Nat) (n : Int) (wh bz as : Nat → Int) (s : GS), i + r = c → GI c bt bw hh o k i n wh bz → (n + hp i < s.1 ∨ (n + hp i = s.1 ∧ (k : Int) ≤ s.2.1)) → gS bf bt bw bb hb hh o k r i n wh bz as s = s
  | 0, i, n, wh, bz, as, s, h, G, q => by
    have hr := gHome_rng (wh := wh) (hh := hh) k
    unfold gS gLeaf
    rw [show i = c by omega, H.1] at q
    rw [if_neg (by omega)]
  | r + 1, i, n, wh, bz, as, s, h, G, q => by
    have hi : i < c := by omega
    have Hi := H.2 i hi
    unfold gS
    have e : tR (fun b s => if gOk bf bw bb hb wh bz (o i) b then gS bf bt bw bb hb hh o k r (i + 1) (n + 1) (uv wh b (bt (o i))) (uv bz b (bw (o i))) (uv as (o i) (b : Nat)) s else s) k 0 s = s := by
      refine tR_same (H := k) (fun b hb' => ?_) k 0 (by omega)
      by_cases z : gOk bf bw bb hb wh bz (o i) b
      · rw [if_pos z]
        have ev : cEv c bf bt bw bb hb hh k (o i) := by
          refine ⟨b, hb', z.1, ?_⟩
          rcases G.2.2.2 b hb' with y | ⟨x, y1, y2, y3⟩
          · exact Or.inl (by rw [← y]; exact z.2.1)
          · exact Or.inr ⟨x, y1, by have := z.2.2; omega, by rw [← y2]; exact z.2.1⟩
        have := Hi.2 ev
        exact gS_prune K O H r (i + 1) (n + 1) _ _ _ s (by omega) (G.some K O hi b) (by omega)
      · rw [if_neg z]
    rw [e]
    exact gS_prune K O H r (i + 1) n _ _ _ s (by omega) G.none (by omega)
theorem tR_ind {S : Type} {rec : Nat → S → S} {P : S → Prop} {c : Nat} (h : ∀ b s, b < c → P s → P (rec b s)) : ∀ (k b : Nat) (s : S), b + k ≤ c → P s → P (tR rec k b s)
  | 0, _, _, _, p => p
  | k + 1, b, s, hb, p => by
    unfold tR
    exact tR_ind h k (b + 1) _ (by omega) (h b s (by omega) p)
/-- what is found is one that was served -/
theorem gS_some {bf bt bw bb hb hh : Nat → Int} {o : Nat → Nat} {k : Nat} : ∀ (r i : Nat) (n : Int) (wh bz as : Nat → Int) (s : GS), 0 ≤ n → 0 ≤ (gS bf bt bw bb hb hh o k r i n wh bz as s).1
  | 0, i, n, wh, bz, as, s, h => by
    unfold gS gLeaf
    by_cases z : s.1 < n ∨ (n = s.1 ∧ s.2.1 < gHome wh hh k)
    · rw [if_pos z]; exact h
    · rw [if_neg z]; omega
  | r + 1, i, n, wh, bz, as, s, h => by
    unfold gS
    exact gS_some r (i + 1) n _ _ _ _ h
