/-! plain programs: the class's scan; the reference's next token -/
def tzW (tp : Nat → Int) (L p : Nat) : Nat := rnT tzLB tp (L - p) p
def tzD (tp : Nat → Int) (L p : Nat) : Nat := rnT tzDB tp (L - p) p
def tzS (tp : Nat → Int) (L p : Nat) : Nat := rnT tzBB tp (L - p) p
def tzE (tp : Nat → Int) (L p : Nat) : Nat := if p < L then (if tzLtr (tp p) then tzW tp L p else if tzDgt (tp p) then tzD tp L p else p + 1) else p
def tzV (tp : Nat → Int) : Nat → Nat → Int → Int
  | 0, _, v => v
  | n + 1, p, v => tzV tp n (p + 1) (v * 10 + tp p - 48)
def tzSg (c : Int) : Bool := [59, 43, 45, 42, 47, 40, 41, 60, 61, 62].contains c
def tzX (tp : Nat → Int) (L p : Nat) : Int := if p < L then (if tzLtr (tp p) then (if tzIdx tp p (tzW tp L p - p) 20 0 = 20 then 1 else ((100 + tzIdx tp p (tzW tp L p - p) 20 0 : Nat) : Int)) else if tzDgt (tp p) then (if tzD tp L p - p ≤ 4 then 1000 + tzV tp (tzD tp L p - p) p 0 else 1) else if tzSg (tp p) = true then tp p else 1) else 0
def tzM (tp : Nat → Int) (L p : Nat) : Int := if p < L then (if tzLtr (tp p) then tzMc (tzIdx tp p (tzW tp L p - p) 20 0) else if tzDgt (tp p) then (if 5 ≤ tzD tp L p - p then 1 else 2) else if tzSg (tp p) = true then 100 + tp p else 1) else 0
def tzVal (tp : Nat → Int) (L p : Nat) : Int := tzV tp (tzD tp L p - p) p 0
def tpl (tp : Nat → Int) (L : Nat) : Nat → Nat
  | 0 => tzS tp L 0
  | k + 1 => tzS tp L (tzE tp L (tpl tp L k))
def TpOk (tp : Nat → Int) (L : Nat) : Prop := L ≤ 500 ∧ ∀ k, k < L → 0 ≤ tp k ∧ tp k ≤ 255
theorem tzBB_t {c : Int} : tzBB c = true ↔ tzBlk c := decide_eq_true_iff
theorem tzLB_t {c : Int} : tzLB c = true ↔ tzLtr c := decide_eq_true_iff
theorem tzDB_t {c : Int} : tzDB c = true ↔ tzDgt c := decide_eq_true_iff
theorem tzS_rng {tp : Nat → Int} {L p : Nat} (h : p ≤ L) : p ≤ tzS tp L p ∧ tzS tp L p ≤ L := by
  have r := rnT_le (P := tzBB) (tp := tp) (L - p) p
  unfold tzS
  omega
theorem tzS_no {tp : Nat → Int} {L p : Nat} (h : p < L) (h2 : ¬ tzBlk (tp p)) : tzS tp L p = p := by
  unfold tzS
  rw [show L - p = (L - (p + 1)) + 1 by omega]
  unfold rnT
  rw [if_neg (fun q => h2 (tzBB_t.mp q))]
theorem tzS_bl {tp : Nat → Int} {L p : Nat} (h : p < L) (h2 : tzBlk (tp p)) : tzS tp L p = tzS tp L (p + 1) := by
  unfold tzS
  rw [show L - p = (L - (p + 1)) + 1 by omega, rnT, if_pos (tzBB_t.mpr h2)]
theorem tzS_end {tp : Nat → Int} {L : Nat} : tzS tp L L = L := by
  unfold tzS
  rw [Nat.sub_self]
  rfl
theorem tzS_out {tp : Nat → Int} {L p : Nat} (hp : p ≤ L) (h : tzS tp L p < L) : ¬ tzBlk (tp (tzS tp L p)) := by
  intro q
  have e := rnT_end (P := tzBB) (tp := tp) (L - p) p (by unfold tzS at h; omega)
  have e2 : tzBB (tp (tzS tp L p)) = false := e
  rw [tzBB_t.mpr q] at e2
  cases e2
theorem tzW_rng {tp : Nat → Int} {L p : Nat} (h : p < L) (h2 : tzLtr (tp p)) : p < tzW tp L p ∧ tzW tp L p ≤ L := by
  unfold tzW
  rw [show L - p = (L - (p + 1)) + 1 by omega, rnT, if_pos (tzLB_t.mpr h2)]
  have r := rnT_le (P := tzLB) (tp := tp) (L - (p + 1)) (p + 1)
  omega
theorem tzD_rng {tp : Nat → Int} {L p : Nat} (h : p < L) (h2 : tzDgt (tp p)) : p < tzD tp L p ∧ tzD tp L p ≤ L := by
  unfold tzD
  rw [show L - p = (L - (p + 1)) + 1 by omega, rnT, if_pos (tzDB_t.mpr h2)]
  have r := rnT_le (P := tzDB) (tp := tp) (L - (p + 1)) (p + 1)
  omega
theorem tzE_rng {tp : Nat → Int} {L p : Nat} (h : p < L) : p < tzE tp L p ∧ tzE tp L p ≤ L := by
  unfold tzE
  rw [if_pos h]
  by_cases a : tzLtr (tp p)
  · rw [if_pos a]; exact tzW_rng h a
  · rw [if_neg a]
    by_cases b : tzDgt (tp p)
    · rw [if_pos b]; exact tzD_rng h b
    · rw [if_neg b]; omega
theorem tpl_rng {tp : Nat → Int} {L : Nat} : ∀ k : Nat, tpl tp L k ≤ L ∧ tzE tp L (tpl tp L k) ≤ L
  | 0 => by
    have h := tzS_rng (tp := tp) (L := L) (p := 0) (by omega)
    show tzS tp L 0 ≤ L ∧ tzE tp L (tzS tp L 0) ≤ L
    refine ⟨h.2, ?_⟩
    by_cases e : tzS tp L 0 < L
    · exact (tzE_rng e).2
    · unfold tzE; rw [if_neg e]; exact h.2
  | k + 1 => by
    have h := tzS_rng (tp := tp) (L := L) (p := tzE tp L (tpl tp L k)) (tpl_rng k).2
    show tzS tp L (tzE tp L (tpl tp L k)) ≤ L ∧ tzE tp L (tzS tp L (tzE tp L (tpl tp L k))) ≤ L
    refine ⟨h.2, ?_⟩
    by_cases e : tzS tp L (tzE tp L (tpl tp L k)) < L
    · exact (tzE_rng e).2
    · unfold tzE at e ⊢; rw [if_neg e]; exact h.2
theorem tzV_rng {tp : Nat → Int} : ∀ (n i : Nat) (v : Int), 0 ≤ v → (∀ j, i ≤ j → j < i + n → tzDgt (tp j)) → 0 ≤ tzV tp n i v ∧ tzV tp n i v + 1 ≤ (v + 1) * 10 ^ n
  | 0, i, v, h, _ => by unfold tzV; simp; omega
  | n + 1, i, v, h, hd => by
    have d := hd i (Nat.le_refl i) (by omega)
    have r := tzV_rng n (i + 1) (v * 10 + tp i - 48) (by omega) (fun j h1 h2 => hd j (by omega) (by omega))
    unfold tzV
    refine ⟨r.1, Int.le_trans r.2 ?_⟩
    have p : (0 : Int) ≤ 10 ^ n := Int.pow_nonneg (by omega)
    have m := Int.mul_le_mul_of_nonneg_right (show v * 10 + tp i - 48 + 1 ≤ (v + 1) * 10 by omega) p
    rw [Int.mul_assoc] at m
    rw [Int.pow_succ, Int.mul_comm (10 ^ n) 10]
    exact m
theorem tzV_le {tp : Nat → Int} {L p : Nat} (h : p < L) (h4 : tzD tp L p - p ≤ 4) : 0 ≤ tzVal tp L p ∧ tzVal tp L p ≤ 9999 := by
  have r := tzV_rng (tp := tp) (tzD tp L p - p) p 0 (by omega) (fun j h1 h2 => tzDB_t.mp (rnT_all (P := tzDB) (tp := tp) (L - p) p j h1 (by
    have : tzD tp L p = rnT tzDB tp (L - p) p := rfl
    omega)))
  unfold tzVal
  have p4 : ∀ m, m ≤ 4 → (10 : Int) ^ m ≤ 10000 := by decide
  have := p4 _ h4
  omega
/-- a token's code in the class, in the reference, its number -/
def tokR (x m v : Int) : Prop := (x = 0 ∧ m = 0) ∨ (x = 1 ∧ m = 1) ∨ (1000 ≤ x ∧ x ≤ 10999 ∧ m = 2 ∧ v = x - 1000) ∨ (100 ≤ x ∧ x ≤ 104 ∧ m = x - 80) ∨ (105 ≤ x ∧ x ≤ 106 ∧ m = x - 98) ∨ (107 ≤ x ∧ x ≤ 110 ∧ m = x - 104) ∨ (111 ≤ x ∧ x ≤ 119 ∧ m = x - 70) ∨ (40 ≤ x ∧ x ≤ 62 ∧ m = x + 100)
theorem tzMc_r : ∀ w, w < 20 → tokR ((100 + w : Nat) : Int) (tzMc w) 0 := by unfold tokR; decide +kernel
theorem tzSg_r : ∀ n : Nat, n < 256 → tzSg (n : Int) = true → (40 : Int) ≤ n ∧ (n : Int) ≤ 62 := by decide +kernel
theorem tz_rel {tp : Nat → Int} {L p : Nat} (O : TpOk tp L) : tokR (tzX tp L p) (tzM tp L p) (tzVal tp L p) := by
  unfold tzX tzM
  by_cases h : p < L
  · rw [if_pos h, if_pos h]
    by_cases a : tzLtr (tp p)
    · rw [if_pos a, if_pos a]
      have r := tzIdx_rng (tp := tp) (a := p) (n := tzW tp L p - p) 20 0
      by_cases e : tzIdx tp p (tzW tp L p - p) 20 0 = 20
      · rw [if_pos e, e]
        exact Or.inr (Or.inl ⟨rfl, rfl⟩)
      · rw [if_neg e]
        have q := tzMc_r _ (show tzIdx tp p (tzW tp L p - p) 20 0 < 20 by omega)
        rcases q with q | q | ⟨q1, q⟩ | q
        · exact Or.inl q
        · exact Or.inr (Or.inl q)
        · exact absurd q1 (by omega)
        · exact Or.inr (Or.inr (Or.inr q))
    · rw [if_neg a, if_neg a]
      by_cases b : tzDgt (tp p)
      · rw [if_pos b, if_pos b]
        by_cases e : tzD tp L p - p ≤ 4
        · have := tzV_le h e
          rw [if_pos e, if_neg (by omega)]
          have e2 : tzVal tp L p = tzV tp (tzD tp L p - p) p 0 := rfl
          refine Or.inr (Or.inr (Or.inl ⟨?_, ?_, ?_, ?_⟩)) <;> omega
        · rw [if_neg e, if_pos (by omega)]
          exact Or.inr (Or.inl ⟨rfl, rfl⟩)
      · rw [if_neg b, if_neg b]
        by_cases e : tzSg (tp p) = true
        · rw [if_pos e, if_pos e]
          have t := O.2 p h
          have q := tzSg_r (tp p).toNat (by omega) (by rw [show (((tp p).toNat : Nat) : Int) = tp p by omega]; exact e)
          refine Or.inr (Or.inr (Or.inr (Or.inr (Or.inr (Or.inr (Or.inr ⟨?_, ?_, ?_⟩)))))) <;> omega
        · rw [if_neg e, if_neg e]
          exact Or.inr (Or.inl ⟨rfl, rfl⟩)
  · rw [if_neg h, if_neg h]
    exact Or.inl ⟨rfl, rfl⟩
/-! the class -/
def TapX (g : AG) (tp : Nat → Int) (L : Nat) : Prop := g 4 2 = L ∧ ∀ k, k < L → g 41 k = tp k
theorem add_s {g : AG} {x y : Int} {t : Nat} (h : g 4 5 = t) (ht : t ≤ 500) : Parser_add x y g = some (0, up (up (up g 42 t x) 43 t y) 4 5 ((t : Int) + 1)) := by
  unfold Parser_add
  have u1 : (up g 42 t x) 4 5 = t := by rw [up_at, if_neg (fun q => absurd q.1 (by decide))]; exact h
  have u2 : (up (up g 42 t x) 43 t y) 4 5 = t := by rw [up_at, if_neg (fun q => absurd q.1 (by decide))]; exact u1
  rw [h, nwN t (by omega), ixN t (by omega), if_neg (by omega), if_pos (by omega), sb, u1, nwN t (by omega), ixN t (by omega), if_pos (by omega), sb, u2, sb, sb]
theorem up3_at {g : AG} {t : Nat} {x y v : Int} (k : Nat) : (up (up (up g 42 t x) 43 t y) 4 5 v) 42 k = (if k = t then x else g 42 k) ∧ (up (up (up g 42 t x) 43 t y) 4 5 v) 43 k = (if k = t then y else g 43 k) := by
  constructor <;> simp only [up_at, Nat.reduceEqDiff, false_and, true_and, if_false]
theorem X_wEnd_s {g : AG} {tp : Nat → Int} {L : Nat} (O : TpOk tp L) (T : TapX g tp L) : ∀ n p : Nat, p + n = L → Parser_endOfWord_b g p p = some ((rnT tzLB tp n p : Nat) : Int) := by
  intro n
  have hL := O.1
  induction n with
  | zero =>
    intro p h
    rw [Parser_endOfWord_b, T.1, nwN L (by omega), nwN p (by omega), if_pos (by omega)]
    rfl
  | succ n ih =>
    intro p h
    have t := O.2 p (by omega)
    rw [Parser_endOfWord_b, T.1, nwN L (by omega), nwN p (by omega), if_neg (by omega), if_pos (by omega), ixN p (by omega), T.2 p (by omega)]
    unfold rnT
    by_cases e : tzLtr (tp p)
    · rw [if_neg (by rw [X_letter0 (by omega) (by omega)]; exact fun q => q e), if_pos (tzLB_t.mpr e)]
      exact ih (p + 1) (by omega)
    · rw [if_pos (by rw [X_letter0 (by omega) (by omega)]; exact e), if_neg (fun q => e (tzLB_t.mp q))]
theorem X_dEnd_s {g : AG} {tp : Nat → Int} {L : Nat} (O : TpOk tp L) (T : TapX g tp L) : ∀ n p : Nat, p + n = L → Parser_endOfDigits_b g p p = some ((rnT tzDB tp n p : Nat) : Int) := by
  intro n
  have hL := O.1
  induction n with
  | zero =>
    intro p h
    rw [Parser_endOfDigits_b, T.1, nwN L (by omega), nwN p (by omega), if_pos (by omega)]
    rfl
  | succ n ih =>
    intro p h
    have t := O.2 p (by omega)
    rw [Parser_endOfDigits_b, T.1, nwN L (by omega), nwN p (by omega), if_neg (by omega), if_pos (by omega), ixN p (by omega), T.2 p (by omega)]
    unfold rnT
    by_cases e : tzDgt (tp p)
    · rw [if_neg (by rw [X_digit0 (by omega) (by omega)]; exact fun q => q e), if_pos (tzDB_t.mpr e)]
      exact ih (p + 1) (by omega)
    · rw [if_pos (by rw [X_digit0 (by omega) (by omega)]; exact e), if_neg (fun q => e (tzDB_t.mp q))]
theorem X_num_s {g : AG} {tp : Nat → Int} {L : Nat} (O : TpOk tp L) (T : TapX g tp L) {e : Nat} (he : e ≤ L) : ∀ (n p : Nat) (v : Int), p + n = e → Parser_numberOf_b e g v p = some (1000 + tzV tp n p v) := by
  intro n
  have hL := O.1
  induction n with
  | zero =>
    intro p v h
    rw [Parser_numberOf_b, nwN e (by omega), nwN p (by omega), if_pos (by omega)]
    rfl
  | succ n ih =>
    intro p v h
    rw [Parser_numberOf_b, nwN e (by omega), nwN p (by omega), if_neg (by omega), if_pos (by omega), ixN p (by omega), T.2 p (by omega)]
    exact ih (p + 1) (v * 10 + tp p - 48) (by omega)
theorem X_sign : ∀ n : Nat, n < 256 → (if nw (strIx 1 (chrI (n : Int))) < 0 then (1 : Int) else (n : Int)) = if tzSg (n : Int) = true then (n : Int) else 1 := by decide +kernel
theorem X_scan_t {tp : Nat → Int} {L : Nat} (O : TpOk tp L) : ∀ (N p t i : Nat) (g : AG), L - p ≤ N → p ≤ L → t ≤ p → i ≤ p → TapX g tp L → g 4 5 = t → (∀ k, k < t → tpl tp L k < L ∧ g 42 k = tzX tp L (tpl tp L k) ∧ g 43 k = (tpl tp L k : Nat)) → tzS tp L p = tpl tp L t → ∃ g' T, Parser_scan_b 1 p i g = some (0, g') ∧ FR [(4, 6), (42, 0), (43, 0)] g g' ∧ T ≤ L ∧ g' 4 5 = T + 1 ∧ tpl tp L T = L ∧ (∀ k, k < T → tpl tp L k < L) ∧ ∀ k, k ≤ T → g' 42 k = tzX tp L (tpl tp L k) ∧ g' 43 k = (tpl tp L k : Nat) := by
  intro N
  have hL := O.1
  induction N with
  | zero =>
    intro p t i g hN hp ht hi T h45 hk hs
    have e : p = L := by (try clear head); (try clear np); omega
    subst e
    rw [tzS_end] at hs
    have last : Parser_scan_b 1 p i g = Parser_scan_b 2 p i g := by
      rw [Parser_scan_b.eq_1 1, if_pos rfl, nwN i (by (try clear head); (try clear np); omega), T.1, nwN p (by (try clear head); (try clear np); omega)]
      by_cases y : (500 : Int) ≤ (i : Int)
      · rw [if_pos y]
      · rw [if_neg y, if_pos (Int.le_refl _)]
    rw [last, Parser_scan_b.eq_1 2, if_neg (by decide), if_pos rfl, T.1, add_s h45 (by (try clear head); (try clear np); omega), sb]
    refine ⟨up (up (up g 42 t 0) 43 t (p : Int)) 4 5 ((t : Int) + 1), t, rfl, Fr.up (Fr.up (Fr.up Fr.rf rfl) rfl) rfl, ht, by rw [up_at, if_pos ⟨rfl, rfl⟩], hs.symm, fun k q => (hk k q).1, fun k q => ?_⟩
    rw [(up3_at k).1, (up3_at k).2]
    by_cases y : k = t
    · rw [if_pos y, if_pos y, y, ← hs]
      refine ⟨?_, rfl⟩
      unfold tzX
      rw [if_neg (by (try clear head); (try clear np); omega)]
    · rw [if_neg y, if_neg y]
      exact (hk k (by (try clear head); (try clear np); omega)).2
  | succ N ih =>
    intro p t i g hN hp ht hi T h45 hk hs
    by_cases z : p = L
    · exact ih p t i g (by (try clear head); (try clear np); omega) hp ht hi T h45 hk hs
    · have hpL : p < L := by (try clear head); (try clear np); omega
      have c := O.2 p hpL
      have head : Parser_scan_b 1 p i g = ((((if nw (Parser_isLetter (tp p)) = 0 then (if nw (Parser_isDigit (tp p)) = 0 then (if nw (tp p) = 32 then some ((p : Int) + 1, g) else (if nw (tp p) = 10 then some ((p : Int) + 1, g) else (some (if nw (strIx 1 (chrI (tp p))) < 0 then 1 else tp p) >>= fun t8 => (Parser_add t8 p g >>= fun r10 => some ((p : Int) + 1, r10.2))))) else (Parser_endOfDigits p g >>= fun r13 => (Parser_numberOf p r13 g >>= fun r15 => (Parser_add r15 p g >>= fun r17 => some (r13, r17.2))))) else (Parser_endOfWord p g >>= fun r19 => (Parser_wordOf p r19 g >>= fun r21 => (Parser_add r21 p g >>= fun r23 => some (r19, r23.2))))) : Option (Int × AG)) >>= fun r25 => Parser_scan_b 1 r25.1 ((i : Int) + 1) r25.2)) := by
        rw [Parser_scan_b.eq_1 1, if_pos rfl, nwN i (by (try clear head); (try clear np); omega), T.1, nwN L (by (try clear head); (try clear np); omega), nwN p (by (try clear head); (try clear np); omega), if_neg (by (try clear head); (try clear np); omega), if_neg (by (try clear head); (try clear np); omega), if_pos (by (try clear head); (try clear np); omega), ixN p (by (try clear head); (try clear np); omega), T.2 p hpL]
      have np : nw (tp p) = tp p := nw_id (by (try clear head); (try clear np); omega) (by (try clear head); (try clear np); omega)
      -- a token at p
      have tok : ¬ tzBlk (tp p) → ∀ x : Int, x = tzX tp L p → ∃ g' T, Parser_scan_b 1 ((tzE tp L p : Nat) : Int) ((i : Int) + 1) (up (up (up g 42 t x) 43 t p) 4 5 ((t : Int) + 1)) = some (0, g') ∧ FR [(4, 6), (42, 0), (43, 0)] g g' ∧ T ≤ L ∧ g' 4 5 = T + 1 ∧ tpl tp L T = L ∧ (∀ k, k < T → tpl tp L k < L) ∧ ∀ k, k ≤ T → g' 42 k = tzX tp L (tpl tp L k) ∧ g' 43 k = (tpl tp L k : Nat) := by
        intro nb x hx
        have er := tzE_rng (tp := tp) hpL
        rw [tzS_no hpL nb] at hs
        obtain ⟨g', T', e, f, r⟩ := ih (tzE tp L p) (t + 1) (i + 1) (up (up (up g 42 t x) 43 t p) 4 5 ((t : Int) + 1)) (by (try clear head); (try clear np); omega) er.2 (by (try clear head); (try clear np); omega) (by (try clear head); (try clear np); omega) ⟨by rw [up_at, if_neg (by (try clear head); (try clear np); omega), up_at, if_neg (fun q => absurd q.1 (by decide)), up_at, if_neg (fun q => absurd q.1 (by decide))]; exact T.1, fun k hk => by rw [up_at, if_neg (fun q => absurd q.1 (by decide)), up_at, if_neg (fun q => absurd q.1 (by decide)), up_at, if_neg (fun q => absurd q.1 (by decide))]; exact T.2 k hk⟩ (by rw [up_at, if_pos ⟨rfl, rfl⟩]; rfl) (fun k q => by
          rw [(up3_at k).1, (up3_at k).2]
          by_cases y : k = t
          · rw [if_pos y, if_pos y, y, ← hs]
            exact ⟨hpL, hx, rfl⟩
          · rw [if_neg y, if_neg y]
            exact hk k (by (try clear head); (try clear np); omega)) (by show _ = tzS tp L (tzE tp L (tpl tp L t)); rw [← hs])
        exact ⟨g', T', e, (Fr.up (Fr.up (Fr.up Fr.rf rfl) rfl) rfl).tr f, r⟩
      rw [head]
      by_cases a : tzLtr (tp p)
      · have nb : ¬ tzBlk (tp p) := by (try clear head); (try clear np); omega
        have wr := tzW_rng hpL a
        have eE : tzE tp L p = tzW tp L p := by unfold tzE; rw [if_pos hpL, if_pos a]
        have e1 : Parser_endOfWord p g = some ((tzW tp L p : Nat) : Int) := X_wEnd_s O T (L - p) p (by (try clear head); (try clear np); omega)
        have e2 := X_wordOf_s (g := g) hL (fun k hk => ⟨T.2 k hk, O.2 k hk⟩) (a := p) (e := tzW tp L p) (by (try clear head); (try clear np); omega) wr.2
        obtain ⟨g', T', e, r⟩ := tok nb _ (by unfold tzX; rw [if_pos hpL, if_pos a])
        refine ⟨g', T', ?_, r⟩
        rw [if_neg (by rw [X_letter0 (by (try clear head); (try clear np); omega) (by (try clear head); (try clear np); omega)]; exact fun q => q a), e1, sb, e2, sb, add_s h45 (by (try clear head); (try clear np); omega), sb, sb, ← e, eE]
      · rw [if_pos (by rw [X_letter0 (by (try clear head); (try clear np); omega) (by (try clear head); (try clear np); omega)]; exact a)]
        by_cases b : tzDgt (tp p)
        · have nb : ¬ tzBlk (tp p) := by (try clear head); (try clear np); omega
          have wr := tzD_rng hpL b
          have eE : tzE tp L p = tzD tp L p := by unfold tzE; rw [if_pos hpL, if_neg a, if_pos b]
          have e1 : Parser_endOfDigits p g = some ((tzD tp L p : Nat) : Int) := X_dEnd_s O T (L - p) p (by (try clear head); (try clear np); omega)
          have e2 : Parser_numberOf p (tzD tp L p : Nat) g = some (if tzD tp L p - p ≤ 4 then 1000 + tzV tp (tzD tp L p - p) p 0 else 1) := by
            unfold Parser_numberOf
            rw [show ((tzD tp L p : Nat) : Int) - (p : Int) = ((tzD tp L p - p : Nat) : Int) by (try clear head); (try clear np); omega, nwN (tzD tp L p - p) (by (try clear head); (try clear np); omega)]
            by_cases y : tzD tp L p - p ≤ 4
            · rw [if_pos (by (try clear head); (try clear np); omega), if_pos y]
              exact X_num_s O T wr.2 (tzD tp L p - p) p 0 (by (try clear head); (try clear np); omega)
            · rw [if_neg (by (try clear head); (try clear np); omega), if_neg y]
          obtain ⟨g', T', e, r⟩ := tok nb _ (by unfold tzX; rw [if_pos hpL, if_neg a, if_pos b])
          refine ⟨g', T', ?_, r⟩
          rw [if_neg (by rw [X_digit0 (by (try clear head); (try clear np); omega) (by (try clear head); (try clear np); omega)]; exact fun q => q b), e1, sb, e2, sb, add_s h45 (by (try clear head); (try clear np); omega), sb, sb, ← e, eE]
        · rw [if_pos (by rw [X_digit0 (by (try clear head); (try clear np); omega) (by (try clear head); (try clear np); omega)]; exact b), np]
          have blank : tzBlk (tp p) → ∃ g' T, Parser_scan_b 1 ((p : Int) + 1) ((i : Int) + 1) g = some (0, g') ∧ FR [(4, 6), (42, 0), (43, 0)] g g' ∧ T ≤ L ∧ g' 4 5 = T + 1 ∧ tpl tp L T = L ∧ (∀ k, k < T → tpl tp L k < L) ∧ ∀ k, k ≤ T → g' 42 k = tzX tp L (tpl tp L k) ∧ g' 43 k = (tpl tp L k : Nat) := fun bl => ih (p + 1) t (i + 1) g (by (try clear head); (try clear np); omega) (by (try clear head); (try clear np); omega) (by (try clear head); (try clear np); omega) (by (try clear head); (try clear np); omega) T h45 hk (by rw [← tzS_bl hpL bl]; exact hs)
          by_cases b1 : tp p = 32
          · obtain ⟨g', T', e, r⟩ := blank (Or.inl b1)
            refine ⟨g', T', ?_, r⟩
            rw [if_pos b1, sb]
            exact e
          · rw [if_neg b1]
            by_cases b2 : tp p = 10
            · obtain ⟨g', T', e, r⟩ := blank (Or.inr b2)
              refine ⟨g', T', ?_, r⟩
              rw [if_pos b2, sb]
              exact e
            · rw [if_neg b2]
              have nb : ¬ tzBlk (tp p) := by (try clear head); (try clear np); omega
              have sg := X_sign (tp p).toNat (by (try clear head); (try clear np); omega)
              rw [show (((tp p).toNat : Nat) : Int) = tp p by (try clear head); (try clear np); omega] at sg
              have eE : tzE tp L p = p + 1 := by unfold tzE; rw [if_pos hpL, if_neg a, if_neg b]
              obtain ⟨g', T', e, r⟩ := tok nb _ (by unfold tzX; rw [if_pos hpL, if_neg a, if_neg b])
              refine ⟨g', T', ?_, r⟩
              rw [sg, sb, add_s h45 (by (try clear head); (try clear np); omega), sb, sb, ← e, eE]
              rfl
theorem X_scan_s {tp : Nat → Int} {L : Nat} (O : TpOk tp L) {g : AG} (T : TapX g tp L) : ∃ g' T, Parser_scan g = some (0, g') ∧ FR [(4, 6), (42, 0), (43, 0)] g g' ∧ T ≤ L ∧ g' 4 5 = T + 1 ∧ tpl tp L T = L ∧ (∀ k, k < T → tpl tp L k < L) ∧ ∀ k, k ≤ T → g' 42 k = tzX tp L (tpl tp L k) ∧ g' 43 k = (tpl tp L k : Nat) := by
  obtain ⟨g', T', e, f, r⟩ := X_scan_t O L 0 0 0 (up g 4 5 0) (by omega) (by omega) (Nat.le_refl _) (Nat.le_refl _) ⟨by rw [up_at, if_neg (by omega)]; exact T.1, fun k hk => by rw [up_at, if_neg (fun q => absurd q.1 (by decide))]; exact T.2 k hk⟩ (by rw [up_at, if_pos ⟨rfl, rfl⟩]; rfl) (fun k q => by omega) rfl
  refine ⟨g', T', ?_, (Fr.up Fr.rf rfl).tr f, r⟩
  unfold Parser_scan
  rw [sb]
  exact e
