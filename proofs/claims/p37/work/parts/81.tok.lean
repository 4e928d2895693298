/-! plain programs: the tape's tokens, once for both sides -/
abbrev tzLtr (c : Int) : Prop := (97 ≤ c ∧ c ≤ 122) ∨ (65 ≤ c ∧ c ≤ 90)
abbrev tzDgt (c : Int) : Prop := 48 ≤ c ∧ c ≤ 57
abbrev tzBlk (c : Int) : Prop := c = 32 ∨ c = 10
theorem M_letter0 {c : Int} (h : -1 ≤ c) (h2 : c ≤ 255) : (nw (M_isLetter c) = 0) = ¬ tzLtr c := by
  have e1 := isIn0 (x := c) (a := 97) (b := 122) (by omega) (by omega) (by decide) (by decide) (by decide) (by decide)
  have e2 := isIn0 (x := c) (a := 65) (b := 90) (by omega) (by omega) (by decide) (by decide) (by decide) (by decide)
  unfold M_isLetter
  by_cases a : nw (M_isIn c 97 122) = 0
  · rw [if_pos a]
    rw [e1] at a
    by_cases b : nw (M_isIn c 65 90) = 0
    · rw [if_pos b]
      rw [e2] at b
      exact propext ⟨fun _ q => by clear e1 e2; omega, fun _ => nw_0⟩
    · rw [if_neg b]
      rw [e2] at b
      refine propext ⟨fun q => ?_, fun q => absurd (Or.inr (by clear e1 e2; omega)) q⟩
      rw [nw_1] at q
      cases q
  · rw [if_neg a]
    rw [e1] at a
    refine propext ⟨fun q => ?_, fun q => absurd (Or.inl (by clear e1 e2; omega)) q⟩
    rw [nw_1] at q
    cases q
theorem X_letter0 {c : Int} (h : -1 ≤ c) (h2 : c ≤ 255) : (nw (Parser_isLetter c) = 0) = ¬ tzLtr c := M_letter0 h h2
theorem M_digit0 {c : Int} (h : -1 ≤ c) (h2 : c ≤ 255) : (nw (M_isDigit c) = 0) = ¬ tzDgt c := by
  unfold M_isDigit
  rw [isIn0 (by omega) (by omega) (by decide) (by decide) (by decide) (by decide)]
  exact propext ⟨fun q => by omega, fun q => by omega⟩
theorem X_digit0 {c : Int} (h : -1 ≤ c) (h2 : c ≤ 255) : (nw (Parser_isDigit c) = 0) = ¬ tzDgt c := M_digit0 h h2
def tzLB (c : Int) : Bool := decide (tzLtr c)
def tzDB (c : Int) : Bool := decide (tzDgt c)
def tzBB (c : Int) : Bool := decide (tzBlk c)
/-- from p on, at most n places, as long as P holds: the first place behind -/
def rnT (P : Int → Bool) (tp : Nat → Int) : Nat → Nat → Nat
  | 0, p => p
  | n + 1, p => if P (tp p) = true then rnT P tp n (p + 1) else p
theorem rnT_le {P : Int → Bool} {tp : Nat → Int} : ∀ n p : Nat, p ≤ rnT P tp n p ∧ rnT P tp n p ≤ p + n
  | 0, p => ⟨Nat.le_refl _, Nat.le_refl _⟩
  | n + 1, p => by
    have h := rnT_le (P := P) (tp := tp) n (p + 1)
    unfold rnT
    by_cases e : P (tp p) = true
    · rw [if_pos e]; omega
    · rw [if_neg e]; omega
theorem rnT_all {P : Int → Bool} {tp : Nat → Int} : ∀ n p i : Nat, p ≤ i → i < rnT P tp n p → P (tp i) = true
  | 0, p, i, h1, h2 => by unfold rnT at h2; omega
  | n + 1, p, i, h1, h2 => by
    unfold rnT at h2
    by_cases e : P (tp p) = true
    · rw [if_pos e] at h2
      by_cases q : i = p
      · rw [q]; exact e
      · exact rnT_all n (p + 1) i (by omega) h2
    · rw [if_neg e] at h2; omega
theorem rnT_end {P : Int → Bool} {tp : Nat → Int} : ∀ n p : Nat, rnT P tp n p < p + n → P (tp (rnT P tp n p)) = false
  | 0, p, h => by unfold rnT at h; omega
  | n + 1, p, h => by
    unfold rnT at h ⊢
    by_cases e : P (tp p) = true
    · rw [if_pos e] at h ⊢
      exact rnT_end n (p + 1) (by omega)
    · rw [if_neg e] at h ⊢
      cases q : P (tp p) with
      | false => rfl
      | true => exact absurd q e
/-! words -/
def tzWl (s : Nat) : Nat := lenJ.getD s 0
def tzSx (w : Nat) : Nat := [2, 3, 4, 5, 6, 8, 9, 10, 11, 12, 13, 14, 15, 16, 17, 18, 19, 20, 21, 7].getD w 0
def tzWb (w : Nat) : Nat := [0, 6, 13, 19, 24, 29, 32, 37, 42, 45, 49, 53, 57, 62, 68, 75, 80, 84, 90, 95, 102].getD w 0
def tzMc (w : Nat) : Int := [20, 21, 22, 23, 24, 7, 8, 3, 4, 5, 6, 41, 42, 43, 44, 45, 46, 47, 48, 49, 1].getD w 0
abbrev tzWm (tp : Nat → Int) (s a n : Nat) : Prop := n = tzWl s ∧ ∀ i, i < n → tp (a + i) = strCh s i
def tzIdx (tp : Nat → Int) (a n : Nat) : Nat → Nat → Nat
  | 0, w => w
  | k + 1, w => if tzWm tp (tzSx w) a n then w else tzIdx tp a n k (w + 1)
theorem tzIdx_rng {tp : Nat → Int} {a n : Nat} : ∀ k w : Nat, w ≤ tzIdx tp a n k w ∧ tzIdx tp a n k w ≤ w + k
  | 0, w => ⟨Nat.le_refl _, Nat.le_refl _⟩
  | k + 1, w => by
    have h := tzIdx_rng (tp := tp) (a := a) (n := n) k (w + 1)
    unfold tzIdx
    by_cases e : tzWm tp (tzSx w) a n
    · rw [if_pos e]; omega
    · rw [if_neg e]; omega
theorem tzIdx_hit {tp : Nat → Int} {a n : Nat} : ∀ k w : Nat, tzIdx tp a n k w < w + k → tzWm tp (tzSx (tzIdx tp a n k w)) a n
  | 0, w, h => by unfold tzIdx at h; omega
  | k + 1, w, h => by
    unfold tzIdx at h ⊢
    by_cases e : tzWm tp (tzSx w) a n
    · rw [if_pos e]; exact e
    · rw [if_neg e] at h ⊢
      exact tzIdx_hit k (w + 1) (by omega)
theorem tzIdx_no {tp : Nat → Int} {a n : Nat} : ∀ k w j : Nat, w ≤ j → j < tzIdx tp a n k w → ¬ tzWm tp (tzSx j) a n
  | 0, w, j, h1, h2 => by unfold tzIdx at h2; omega
  | k + 1, w, j, h1, h2 => by
    unfold tzIdx at h2
    by_cases e : tzWm tp (tzSx w) a n
    · rw [if_pos e] at h2; omega
    · rw [if_neg e] at h2
      by_cases q : j = w
      · rw [q]; exact e
      · exact tzIdx_no k (w + 1) j (by omega) h2
def tzSame (s s' : Nat) : Bool := (List.range (tzWl s)).all fun i => decide (strCh s i = strCh s' i)
theorem tz_uniq0 : ∀ s, s < 22 → ∀ s', s' < 22 → (s < 2 ∨ s' < 2 ∨ s = s' ∨ tzWl s ≠ tzWl s' ∨ tzSame s s' = false) := by decide +kernel
theorem tz_uniq (s : Nat) (h : s < 22) (h2 : 2 ≤ s) (s' : Nat) (h' : s' < 22) (h2' : 2 ≤ s') (e : s ≠ s') (el : tzWl s = tzWl s') (q : ∀ i, i < tzWl s → strCh s i = strCh s' i) : False := by
  rcases tz_uniq0 s h s' h' with a | a | a | a | a
  · omega
  · omega
  · exact e a
  · exact a el
  · have b : tzSame s s' = true := List.all_eq_true.mpr (fun i hi => decide_eq_true (q i (List.mem_range.mp hi)))
    rw [b] at a
    cases a
theorem tz_one {tp : Nat → Int} {a n s s' : Nat} (h : 2 ≤ s ∧ s < 22) (h' : 2 ≤ s' ∧ s' < 22) (q : tzWm tp s a n) (q' : tzWm tp s' a n) : s = s' := by
  by_cases e : s = s'
  · exact e
  · exfalso
    refine tz_uniq s h.2 h.1 s' h'.2 h'.1 e (q.1.symm.trans q'.1) (fun i hi => ?_)
    have hi2 : i < n := by rw [q.1]; exact hi
    exact (q.2 i hi2).symm.trans (q'.2 i hi2)
theorem tz_wl : ∀ s, s < 22 → 2 ≤ s → 2 ≤ tzWl s ∧ tzWl s ≤ 6 := by decide +kernel
theorem tz_sx : ∀ w, w < 20 → 2 ≤ tzSx w ∧ tzSx w < 22 := by decide +kernel
theorem tz_ch : ∀ s, s < 22 → ∀ i, i < 103 → 0 ≤ strCh s i ∧ strCh s i ≤ 127 := by decide +kernel
theorem tz_wb : ∀ w, w < 20 → tzWb (w + 1) = tzWb w + tzWl (tzSx w) + 1 ∧ tzWb (w + 1) ≤ 102 ∧ strCh 0 (tzWb w + tzWl (tzSx w)) = 32 ∧ ∀ i, i < 7 → i < tzWl (tzSx w) → strCh 0 (tzWb w + i) ≠ 32 ∧ strCh 0 (tzWb w + i) = strCh (tzSx w) i := by decide +kernel
theorem tz_len0 : strLen 0 = 102 := rfl
theorem tz_len (s : Nat) : strLen s = (tzWl s : Nat) := rfl
/-! one word, both sides -/
theorem X_same_s {g : AG} {tp : Nat → Int} {L : Nat} (hL : L ≤ 500) (ht : ∀ k, k < L → g 41 k = tp k ∧ 0 ≤ tp k ∧ tp k ≤ 255) {a b n : Nat} (ha : a + n ≤ L) (hb : b + n ≤ 102) : ∀ m i : Nat, i + m = n → Parser_isSame_b a b n g i = some (if ∀ j, j < n → i ≤ j → tp (a + j) = strCh 0 (b + j) then 1 else 0) := by
  intro m
  induction m with
  | zero =>
    intro i h
    rw [Parser_isSame_b, nwN n (by (try clear n1); (try clear n2); omega), nwN i (by (try clear n1); (try clear n2); omega), if_pos (by (try clear n1); (try clear n2); omega), if_pos (fun j h1 h2 => by (try clear n1); (try clear n2); omega)]
  | succ m ih =>
    intro i h
    have t := ht (a + i) (by (try clear n1); (try clear n2); omega)
    have c := tz_ch 0 (by (try clear n1); (try clear n2); omega) (b + i) (by (try clear n1); (try clear n2); omega)
    have e1 : (a : Int) + (i : Int) = ((a + i : Nat) : Int) := rfl
    have e2 : (b : Int) + (i : Int) = ((b + i : Nat) : Int) := rfl
    have n1 : nw (tp (a + i)) = tp (a + i) := nw_id (by (try clear n1); (try clear n2); omega) (by (try clear n1); (try clear n2); omega)
    have n2 : nw (strCh 0 (b + i)) = strCh 0 (b + i) := nw_id (by (try clear n1); (try clear n2); omega) (by (try clear n1); (try clear n2); omega)
    rw [Parser_isSame_b, nwN n (by (try clear n1); (try clear n2); omega), nwN i (by (try clear n1); (try clear n2); omega), if_neg (by (try clear n1); (try clear n2); omega), e1, e2, nwN (a + i) (by (try clear n1); (try clear n2); omega), nwN (b + i) (by (try clear n1); (try clear n2); omega), tz_len0, if_pos (by (try clear n1); (try clear n2); omega), if_pos (by (try clear n1); (try clear n2); omega), ixN (a + i) (by (try clear n1); (try clear n2); omega), ixN (b + i) (by (try clear n1); (try clear n2); omega), t.1, n1, n2]
    by_cases q : tp (a + i) = strCh 0 (b + i)
    · rw [if_pos q]
      have e := ih (i + 1) (by (try clear n1); (try clear n2); omega)
      have e' : Parser_isSame_b a b n g ((i : Int) + 1) = _ := e
      rw [e']
      by_cases z : ∀ j, j < n → i + 1 ≤ j → tp (a + j) = strCh 0 (b + j)
      · rw [if_pos z, if_pos (fun j h1 h2 => by
          by_cases y : j = i
          · rw [y]; exact q
          · exact z j h1 (by (try clear n1); (try clear n2); omega))]
      · rw [if_neg z, if_neg (fun y => z (fun j h1 h2 => y j h1 (by (try clear n1); (try clear n2); omega)))]
    · rw [if_neg q, if_neg (fun z => q (z i (by (try clear n1); (try clear n2); omega) (Nat.le_refl i)))]
theorem X_walk_s {g : AG} {a e : Int} {c : Int} {w : Nat} (hw : w < 20) : ∀ m i : Nat, i + m = tzWl (tzSx w) → Parser_wordOf_b a e g 1 c (tzWb w : Nat) ((tzWb w + i : Nat) : Int) = Parser_wordOf_b a e g 1 c (tzWb w : Nat) ((tzWb w + tzWl (tzSx w) : Nat) : Int) := by
  intro m
  induction m with
  | zero => intro i h; rw [show tzWb w + i = tzWb w + tzWl (tzSx w) by (try clear n2); omega]
  | succ m ih =>
    intro i h
    have t := tz_wb w hw
    have sx := tz_sx w hw
    have wl := tz_wl (tzSx w) sx.2 sx.1
    have ti := t.2.2.2 i (by (try clear n2); omega) (by (try clear n2); omega)
    have c1 := tz_ch 0 (by (try clear n2); omega) (tzWb w + i) (by (try clear n2); omega)
    have n2 : nw (strCh 0 (tzWb w + i)) = strCh 0 (tzWb w + i) := nw_id (by (try clear n2); omega) (by (try clear n2); omega)
    have e1 := ih (i + 1) (by (try clear n2); omega)
    rw [← e1, Parser_wordOf_b, if_pos rfl, tz_len0, nwN (tzWb w + i) (by (try clear n2); omega), nw_id (a := 102) (by decide) (by decide), if_neg (by (try clear n2); omega), if_pos (by (try clear n2); omega), ixN (tzWb w + i) (by (try clear n2); omega), n2, if_neg ti.1, Parser_wordOf_b, if_neg (by decide), if_neg (by decide), if_pos rfl]
    rfl
theorem X_word_t {g : AG} {tp : Nat → Int} {L : Nat} (hL : L ≤ 500) (ht : ∀ k, k < L → g 41 k = tp k ∧ 0 ≤ tp k ∧ tp k ≤ 255) {a n : Nat} (ha : a + n ≤ L) : ∀ k w : Nat, w + k = 20 → Parser_wordOf_b a ((a + n : Nat) : Int) g 1 ((100 + w : Nat) : Int) (tzWb w : Nat) (tzWb w : Nat) = some (if tzIdx tp a n k w = 20 then 1 else ((100 + tzIdx tp a n k w : Nat) : Int)) := by
  intro k
  induction k with
  | zero =>
    intro w h
    have hw : w = 20 := by omega
    subst hw
    rw [Parser_wordOf_b, if_pos rfl, tz_len0, nw_id (a := 102) (by decide) (by decide), show tzWb 20 = 102 from rfl, nwN 102 (by omega), if_pos (by decide), show tzIdx tp a n 0 20 = 20 from rfl, if_pos rfl]
  | succ k ih =>
    intro w h
    have hw : w < 20 := by omega
    have t := tz_wb w hw
    have sx := tz_sx w hw
    have wl := tz_wl (tzSx w) sx.2 sx.1
    have e0 := X_walk_s (g := g) (a := a) (e := ((a + n : Nat) : Int)) (c := ((100 + w : Nat) : Int)) hw (tzWl (tzSx w)) 0 (by omega)
    have e1 := ih (w + 1) (by omega)
    have s1 : ((tzWb w + tzWl (tzSx w) : Nat) : Int) - (tzWb w : Nat) = ((tzWl (tzSx w) : Nat) : Int) := by omega
    have s2 : ((a + n : Nat) : Int) - (a : Int) = (n : Int) := by omega
    have e0' : Parser_wordOf_b a ((a + n : Nat) : Int) g 1 ((100 + w : Nat) : Int) (tzWb w : Nat) (tzWb w : Nat) = Parser_wordOf_b a ((a + n : Nat) : Int) g 1 ((100 + w : Nat) : Int) (tzWb w : Nat) ((tzWb w + tzWl (tzSx w) : Nat) : Int) := e0
    have next : Parser_wordOf_b a ((a + n : Nat) : Int) g 2 ((100 + w : Nat) : Int) (tzWb w : Nat) ((tzWb w + tzWl (tzSx w) : Nat) : Int) = some (if tzIdx tp a n k (w + 1) = 20 then 1 else ((100 + tzIdx tp a n k (w + 1) : Nat) : Int)) := by
      rw [Parser_wordOf_b, if_neg (by decide), if_pos rfl, Parser_wordOf_b, if_neg (by decide), if_neg (by decide), if_pos rfl]
      have e2 : ((tzWb w + tzWl (tzSx w) : Nat) : Int) + 1 = ((tzWb (w + 1) : Nat) : Int) := by omega
      rw [e2]
      exact e1
    rw [e0', Parser_wordOf_b, if_pos rfl, tz_len0, nwN (tzWb w + tzWl (tzSx w)) (by omega), nw_id (a := 102) (by decide) (by decide), if_neg (by omega), if_pos (by omega), ixN (tzWb w + tzWl (tzSx w)) (by omega), t.2.2.1, nw_id (a := 32) (by decide) (by decide), if_pos rfl, s1, s2, nwN n (by omega), nwN (tzWl (tzSx w)) (by omega)]
    unfold tzIdx
    by_cases y : n = tzWl (tzSx w)
    · rw [if_pos (by omega)]
      have sm := X_same_s (g := g) hL ht (a := a) (b := tzWb w) (n := tzWl (tzSx w)) (by omega) (by omega) (tzWl (tzSx w)) 0 (by omega)
      have sm' : Parser_isSame (a : Int) (tzWb w : Nat) ((tzWl (tzSx w) : Nat) : Int) g = _ := sm
      rw [sm', sb]
      by_cases z : ∀ j, j < tzWl (tzSx w) → 0 ≤ j → tp (a + j) = strCh 0 (tzWb w + j)
      · have z2 : tzWm tp (tzSx w) a n := ⟨y, fun i hi => by
          rw [z i (by omega) (Nat.zero_le i)]
          exact (t.2.2.2 i (by omega) (by omega)).2⟩
        rw [if_pos z, if_pos z2, nw_1, if_neg (by decide), if_neg (by omega)]
      · have z2 : ¬ tzWm tp (tzSx w) a n := fun q => z (fun j hj _ => by
          rw [q.2 j (by omega)]
          exact (t.2.2.2 j (by omega) (by omega)).2.symm)
        rw [if_neg z, if_neg z2, nw_0, if_pos rfl]
        exact next
    · have z2 : ¬ tzWm tp (tzSx w) a n := fun q => y q.1
      rw [if_neg (by omega), if_neg z2]
      exact next
theorem X_wordOf_s {g : AG} {tp : Nat → Int} {L : Nat} (hL : L ≤ 500) (ht : ∀ k, k < L → g 41 k = tp k ∧ 0 ≤ tp k ∧ tp k ≤ 255) {a e : Nat} (ha : a ≤ e) (he : e ≤ L) : Parser_wordOf a e g = some (if tzIdx tp a (e - a) 20 0 = 20 then 1 else ((100 + tzIdx tp a (e - a) 20 0 : Nat) : Int)) := by
  have h := X_word_t (g := g) hL ht (a := a) (n := e - a) (by omega) 20 0 (by omega)
  rw [show a + (e - a) = e by omega] at h
  exact h
theorem M_is_0 {g : AG} {s : Nat} {x : Int} : M_is_b s g 0 x = some 0 := by
  rw [M_is_b, nw_0, if_pos (Or.inl rfl), if_pos rfl]
  by_cases e : nw (strLen s) ≤ nw x
  · rw [if_pos e]
  · rw [if_neg e]
theorem M_is_t {g : AG} {tp : Nat → Int} {L : Nat} (hL : L ≤ 500) (ht : ∀ k, k < L → g 146 k = tp k ∧ 0 ≤ tp k ∧ tp k ≤ 255) {a s : Nat} (h40 : g 117 40 = a) (hs : 2 ≤ s ∧ s < 22) (ha : a + tzWl s ≤ L) : ∀ m i : Nat, i + m = tzWl s → M_is_b s g 1 i = some (if ∀ j, j < tzWl s → i ≤ j → tp (a + j) = strCh s j then 1 else 0) := by
  have wl := tz_wl s hs.2 hs.1
  intro m
  induction m with
  | zero =>
    intro i h
    rw [M_is_b, tz_len, nwN (tzWl s) (by (try clear n1); (try clear n2); omega), nwN i (by (try clear n1); (try clear n2); omega), if_pos (by (try clear n1); (try clear n2); omega), if_pos (Or.inr rfl), if_pos (fun j h1 h2 => by (try clear n1); (try clear n2); omega)]
  | succ m ih =>
    intro i h
    have t := ht (a + i) (by (try clear n1); (try clear n2); omega)
    have c := tz_ch s hs.2 i (by (try clear n1); (try clear n2); omega)
    have e1 : (a : Int) + (i : Int) = ((a + i : Nat) : Int) := rfl
    have n1 : nw (tp (a + i)) = tp (a + i) := nw_id (by (try clear n1); (try clear n2); omega) (by (try clear n1); (try clear n2); omega)
    have n2 : nw (strCh s i) = strCh s i := nw_id (by (try clear n1); (try clear n2); omega) (by (try clear n1); (try clear n2); omega)
    rw [M_is_b, tz_len, nwN (tzWl s) (by (try clear n1); (try clear n2); omega), nwN i (by (try clear n1); (try clear n2); omega), if_neg (by (try clear n1); (try clear n2); omega), nw_1, if_neg (by decide), h40, e1, nwN (a + i) (by (try clear n1); (try clear n2); omega), if_pos (by (try clear n1); (try clear n2); omega), if_pos (by (try clear n1); (try clear n2); omega), ixN (a + i) (by (try clear n1); (try clear n2); omega), ixN i (by (try clear n1); (try clear n2); omega), t.1, n1, n2, sb]
    by_cases q : tp (a + i) = strCh s i
    · rw [if_pos q]
      have e := ih (i + 1) (by (try clear n1); (try clear n2); omega)
      have e' : M_is_b s g 1 ((i : Int) + 1) = _ := e
      rw [e']
      by_cases z : ∀ j, j < tzWl s → i + 1 ≤ j → tp (a + j) = strCh s j
      · rw [if_pos z, if_pos (fun j h1 h2 => by
          by_cases y : j = i
          · rw [y]; exact q
          · exact z j h1 (by (try clear n1); (try clear n2); omega))]
      · rw [if_neg z, if_neg (fun y => z (fun j h1 h2 => y j h1 (by (try clear n1); (try clear n2); omega)))]
    · rw [if_neg q, M_is_0, if_neg (fun z => q (z i (by (try clear n1); (try clear n2); omega) (Nat.le_refl i)))]
theorem M_is_s {g : AG} {tp : Nat → Int} {L : Nat} (hL : L ≤ 500) (ht : ∀ k, k < L → g 146 k = tp k ∧ 0 ≤ tp k ∧ tp k ≤ 255) {a e s : Nat} (h40 : g 117 40 = a) (h38 : g 117 38 = e) (hs : 2 ≤ s ∧ s < 22) (ha : a ≤ e) (he : e ≤ L) : M_is s g = some (if tzWm tp s a (e - a) then 1 else 0) := by
  have wl := tz_wl s hs.2 hs.1
  unfold M_is
  rw [h40, h38, tz_len, nwN (tzWl s) (by omega), show (e : Int) - (a : Int) = ((e - a : Nat) : Int) by omega, nwN (e - a) (by omega), sb]
  by_cases y : e - a = tzWl s
  · rw [if_pos (by omega)]
    have h := M_is_t (g := g) hL ht h40 hs (by omega) (tzWl s) 0 (by omega)
    have h' : M_is_b s g 1 0 = _ := h
    rw [h']
    by_cases z : ∀ j, j < tzWl s → 0 ≤ j → tp (a + j) = strCh s j
    · rw [if_pos z, if_pos ⟨y, fun i hi => z i (by omega) (Nat.zero_le i)⟩]
    · rw [if_neg z, if_neg (fun q => z (fun j hj _ => q.2 j (by omega)))]
  · rw [if_neg (by omega), M_is_0, if_neg (fun q => y q.1)]
theorem M_word_s {g : AG} {tp : Nat → Int} {L : Nat} (hL : L ≤ 500) (ht : ∀ k, k < L → g 146 k = tp k ∧ 0 ≤ tp k ∧ tp k ≤ 255) {a e : Nat} (h40 : g 117 40 = a) (h38 : g 117 38 = e) (ha : a ≤ e) (he : e ≤ L) : M_word g = some (tzMc (tzIdx tp a (e - a) 20 0)) := by
  obtain ⟨w, hw⟩ : ∃ w, w = tzIdx tp a (e - a) 20 0 := ⟨_, rfl⟩
  have r := tzIdx_rng (tp := tp) (a := a) (n := e - a) 20 0
  have hit := tzIdx_hit (tp := tp) (a := a) (n := e - a) 20 0
  have no := tzIdx_no (tp := tp) (a := a) (n := e - a) 20 0
  rw [← hw] at r hit no ⊢
  have inv : ∀ s, s < 22 → 2 ≤ s → ∃ v, v < 20 ∧ tzSx v = s := by decide +kernel
  have H : ∀ s, 2 ≤ s ∧ s < 22 → M_is s g = some (if w < 20 ∧ s = tzSx w then 1 else 0) := by
    intro s hs
    rw [M_is_s hL ht h40 h38 hs ha he]
    by_cases y : w < 20 ∧ s = tzSx w
    · rw [if_pos y, if_pos (by rw [y.2]; exact hit (by omega))]
    · rw [if_neg y, if_neg (fun q => ?_)]
      obtain ⟨v, v1, v2⟩ := inv s hs.2 hs.1
      by_cases z : w < 20
      · exact y ⟨z, tz_one hs (tz_sx w z) q (hit (by omega))⟩
      · exact no v (Nat.zero_le v) (by omega) (by rw [v2]; exact q)
  unfold M_word
  rw [H 2 (by omega), H 3 (by omega), H 4 (by omega), H 5 (by omega), H 6 (by omega), H 7 (by omega), H 8 (by omega), H 9 (by omega), H 10 (by omega), H 11 (by omega), H 12 (by omega), H 13 (by omega), H 14 (by omega), H 15 (by omega), H 16 (by omega), H 17 (by omega), H 18 (by omega), H 19 (by omega), H 20 (by omega), H 21 (by omega)]
  clear H hit no hw inv
  have c : w = 0 ∨ w = 1 ∨ w = 2 ∨ w = 3 ∨ w = 4 ∨ w = 5 ∨ w = 6 ∨ w = 7 ∨ w = 8 ∨ w = 9 ∨ w = 10 ∨ w = 11 ∨ w = 12 ∨ w = 13 ∨ w = 14 ∨ w = 15 ∨ w = 16 ∨ w = 17 ∨ w = 18 ∨ w = 19 ∨ w = 20 := by omega
  clear r
  rcases c with rfl | rfl | rfl | rfl | rfl | rfl | rfl | rfl | rfl | rfl | rfl | rfl | rfl | rfl | rfl | rfl | rfl | rfl | rfl | rfl | rfl <;> decide +kernel
