/-! plain programs: the reference's next token -/
def TapM (g : AG) (tp : Nat → Int) (L : Nat) : Prop := g 117 37 = L ∧ ∀ k, k < L → g 146 k = tp k
abbrev RNX : Reg := [(117, 39), (117, 40), (117, 41), (117, 42)]
theorem TapM.fr {W : Reg} {g g' : AG} {tp : Nat → Int} {L : Nat} (h : TapM g tp L) (f : FR W g g') (d : djR [(117, 38), (146, 0)] W = true) : TapM g' tp L := ⟨by rw [f.cg d 117 37 rfl]; exact h.1, fun k hk => by rw [f.cg d 146 k rfl]; exact h.2 k hk⟩
/-- the reference stands behind the token at p -/
def MAt (tp : Nat → Int) (L : Nat) (g : AG) (p : Nat) : Prop := g 117 40 = p ∧ g 117 38 = (tzE tp L p : Nat) ∧ g 117 39 = tzM tp L p ∧ (tzM tp L p = 2 → g 117 41 = tzVal tp L p)
def tzSee (tp : Nat → Int) (L p : Nat) : Int := if p < L then tp p else -1
theorem M_see_s {g : AG} {tp : Nat → Int} {L : Nat} (O : TpOk tp L) (T : TapM g tp L) {p : Nat} (hp : p ≤ L) : M_see p g = some (tzSee tp L p) := by
  have hL := O.1
  unfold M_see tzSee
  rw [T.1, nwN L (by omega), nwN p (by omega)]
  by_cases e : p < L
  · rw [if_neg (by omega), if_pos (by omega), if_pos e, ixN p (by omega), T.2 p e, sb]
  · rw [if_pos (by omega), if_neg e, sb]
theorem tzSee_rng {tp : Nat → Int} {L p : Nat} (O : TpOk tp L) : -1 ≤ tzSee tp L p ∧ tzSee tp L p ≤ 255 ∧ nw (tzSee tp L p) = tzSee tp L p := by
  have h : -1 ≤ tzSee tp L p ∧ tzSee tp L p ≤ 255 := by
    unfold tzSee
    by_cases e : p < L
    · rw [if_pos e]
      have := O.2 p e
      omega
    · rw [if_neg e]; decide
  exact ⟨h.1, h.2, nw_id (by omega) (by omega)⟩
theorem M_skip_s {tp : Nat → Int} {L : Nat} (O : TpOk tp L) : ∀ (n p : Nat) (g : AG), p + n = L → TapM g tp L → g 117 38 = p → ∃ g', M_next0_b 1 g = M_next0_b 1 g' ∧ FR [(117, 39)] g g' ∧ g' 117 38 = (tzS tp L p : Nat) := by
  intro n
  have hL := O.1
  induction n with
  | zero =>
    intro p g h T h38
    have e : p = L := by omega
    subst e
    exact ⟨g, rfl, Fr.rf, by rw [tzS_end]; exact h38⟩
  | succ n ih =>
    intro p g h T h38
    have hp : p < L := by omega
    by_cases b : tzBlk (tp p)
    · have T1 : TapM (up g 117 38 ((p : Int) + 1)) tp L := T.fr (W := [(117, 39)]) (Fr.up Fr.rf rfl) rfl
      obtain ⟨g', e, f, r⟩ := ih (p + 1) (up g 117 38 ((p : Int) + 1)) (by omega) T1 (by rw [up_at, if_pos ⟨rfl, rfl⟩]; rfl)
      refine ⟨g', ?_, (Fr.up Fr.rf rfl).tr f, by rw [tzS_bl hp b]; exact r⟩
      have two : M_next0_b 2 g = M_next0_b 1 (up g 117 38 ((p : Int) + 1)) := by
        rw [M_next0_b.eq_1 2, if_neg (by decide), if_pos rfl, h38, sb]
      rw [← e, ← two, M_next0_b.eq_1 1, if_pos rfl, h38, M_see_s O T (by omega), sb, sb, (tzSee_rng O).2.2]
      unfold tzSee
      rw [if_pos hp]
      rcases b with b | b
      · rw [if_pos b]
      · rw [if_neg (by omega), if_pos b]
    · exact ⟨g, rfl, Fr.rf, by rw [tzS_no hp b]; exact h38⟩
theorem M_nword_s {tp : Nat → Int} {L : Nat} (O : TpOk tp L) : ∀ (n p : Nat) (g : AG), p + n = L → TapM g tp L → g 117 38 = p → ∃ g', M_next0_b 3 g = (M_word g' >>= fun r4 => (some (up g' 117 39 r4) >>= fun g6 => some ((0 : Int), g6))) ∧ FR [(117, 39)] g g' ∧ g' 117 38 = (rnT tzLB tp n p : Nat) := by
  intro n
  have hL := O.1
  induction n with
  | zero =>
    intro p g h T h38
    refine ⟨g, ?_, Fr.rf, h38⟩
    have sm1 : tzSee tp L p = -1 := by unfold tzSee; rw [if_neg (by (try clear head); omega)]
    rw [M_next0_b.eq_1 3, if_neg (by decide), if_neg (by decide), if_pos rfl, h38, M_see_s O T (by (try clear head); omega), sb, sm1, if_pos (by rw [M_letter0 (by decide) (by decide)]; decide)]
  | succ n ih =>
    intro p g h T h38
    have hp : p < L := by (try clear head); omega
    have t := O.2 p hp
    have head : M_next0_b 3 g = (if nw (M_isLetter (tp p)) = 0 then (M_word g >>= fun r4 => (some (up g 117 39 r4) >>= fun g6 => some ((0 : Int), g6))) else M_next0_b 3 (up g 117 38 ((p : Int) + 1))) := by
      rw [M_next0_b.eq_1 3, if_neg (by decide), if_neg (by decide), if_pos rfl, h38, M_see_s O T (by (try clear head); omega), sb, sb]
      unfold tzSee
      rw [if_pos hp]
    unfold rnT
    by_cases b : tzLtr (tp p)
    · rw [if_pos (tzLB_t.mpr b)]
      have T1 : TapM (up g 117 38 ((p : Int) + 1)) tp L := T.fr (W := [(117, 39)]) (Fr.up Fr.rf rfl) rfl
      obtain ⟨g', e, f, r⟩ := ih (p + 1) (up g 117 38 ((p : Int) + 1)) (by (try clear head); omega) T1 (by rw [up_at, if_pos ⟨rfl, rfl⟩]; rfl)
      refine ⟨g', ?_, (Fr.up Fr.rf rfl).tr f, r⟩
      rw [head, if_neg (by rw [M_letter0 (by (try clear head); omega) (by (try clear head); omega)]; exact fun q => q b)]
      exact e
    · rw [if_neg (fun q => b (tzLB_t.mp q))]
      refine ⟨g, ?_, Fr.rf, h38⟩
      rw [head, if_pos (by rw [M_letter0 (by (try clear head); omega) (by (try clear head); omega)]; exact b)]
def tzMv (tp : Nat → Int) (a : Nat) : Nat → Nat → Int → Int
  | 0, _, v => v
  | n + 1, p, v => if tzDgt (tp p) then tzMv tp a n (p + 1) (if a + 4 ≤ p then v else 10 * v + tp p - 48) else v
theorem tzMv_eq {tp : Nat → Int} {a : Nat} : ∀ (n p : Nat) (v : Int), a ≤ p → rnT tzDB tp n p ≤ a + 4 → tzMv tp a n p v = tzV tp (rnT tzDB tp n p - p) p v
  | 0, p, v, h, h2 => by unfold tzMv rnT; rw [Nat.sub_self]; rfl
  | n + 1, p, v, h, h2 => by
    unfold rnT at h2 ⊢
    unfold tzMv
    by_cases b : tzDgt (tp p)
    · rw [if_pos (tzDB_t.mpr b)] at h2 ⊢
      have r := rnT_le (P := tzDB) (tp := tp) n (p + 1)
      rw [if_pos b, tzMv_eq n (p + 1) _ (by omega) h2, if_neg (by omega), show rnT tzDB tp n (p + 1) - p = (rnT tzDB tp n (p + 1) - (p + 1)) + 1 by omega]
      show _ = tzV tp (rnT tzDB tp n (p + 1) - (p + 1)) (p + 1) (v * 10 + tp p - 48)
      rw [Int.mul_comm v 10]
    · rw [if_neg b, if_neg (fun q => b (tzDB_t.mp q)), Nat.sub_self]
      rfl
def vOk (a p : Nat) (v : Int) : Prop := 0 ≤ v ∧ v ≤ 9999 ∧ (p < a + 4 → v ≤ 999) ∧ (p < a + 3 → v ≤ 99) ∧ (p < a + 2 → v ≤ 9) ∧ (p < a + 1 → v ≤ 0)
theorem M_ndig_s {tp : Nat → Int} {L : Nat} (O : TpOk tp L) {a : Nat} (haL : a ≤ L) : ∀ (n p : Nat) (v : Int) (g : AG), p + n = L → a ≤ p → TapM g tp L → g 117 38 = p → g 117 40 = a → g 117 41 = v → vOk a p v → ∃ g', M_next0_b 4 g = (some (if 5 ≤ nw (g' 117 38 - g' 117 40) then (1 : Int) else 2) >>= fun t4 => (some (up g' 117 39 t4) >>= fun g6 => some ((0 : Int), g6))) ∧ FR [(117, 39), (117, 42)] g g' ∧ g' 117 38 = (rnT tzDB tp n p : Nat) ∧ g' 117 41 = tzMv tp a n p v ∧ 0 ≤ g' 117 41 ∧ g' 117 41 ≤ 9999 := by
  intro n
  have hL := O.1
  induction n with
  | zero =>
    intro p v g h hap T h38 h40 h41 hv
    refine ⟨g, ?_, Fr.rf, h38, h41, by rw [h41]; exact hv.1, by rw [h41]; exact hv.2.1⟩
    have sm1 : tzSee tp L p = -1 := by unfold tzSee; rw [if_neg (by (try clear head); (try clear mid); omega)]
    rw [M_next0_b.eq_1 4, if_neg (by decide), if_neg (by decide), if_neg (by decide), if_pos rfl, h38, M_see_s O T (by (try clear head); (try clear mid); omega), sb, sm1, if_pos (by rw [M_digit0 (by decide) (by decide)]; decide)]
  | succ n ih =>
    intro p v g h hap T h38 h40 h41 hv
    have hp : p < L := by (try clear head); (try clear mid); omega
    have t := O.2 p hp
    have see : M_see p g = some (tp p) := by
      rw [M_see_s O T (by (try clear head); (try clear mid); omega)]
      unfold tzSee
      rw [if_pos hp]
    have head : M_next0_b 4 g = (if nw (M_isDigit (tp p)) = 0 then (some (if 5 ≤ nw (g 117 38 - g 117 40) then (1 : Int) else 2) >>= fun t4 => (some (up g 117 39 t4) >>= fun g6 => some ((0 : Int), g6))) else ((((if nw ((a : Int) + 4) ≤ nw (p : Int) then some g else (some (tp p) >>= fun r10 => (some (up g 117 41 (10 * v + r10 - 48)) >>= fun g12 => some g12))) : Option AG)) >>= fun r14 => (some (up r14 117 38 (r14 117 38 + 1)) >>= fun g16 => M_next0_b 4 g16))) := by
      rw [M_next0_b.eq_1 4, if_neg (by decide), if_neg (by decide), if_neg (by decide), if_pos rfl, h38, see, sb, h40, h41]
    unfold rnT tzMv
    by_cases b : tzDgt (tp p)
    · rw [if_pos (tzDB_t.mpr b), if_pos b]
      obtain ⟨g1, hg1⟩ : ∃ g1 : AG, g1 = if a + 4 ≤ p then g else up g 117 41 (10 * v + tp p - 48) := ⟨_, rfl⟩
      have f1 : FR [(117, 42)] g g1 := by
        rw [hg1]
        by_cases c : a + 4 ≤ p
        · rw [if_pos c]; exact Fr.rf
        · rw [if_neg c]; exact Fr.up Fr.rf rfl
      have v41 : g1 117 41 = if a + 4 ≤ p then v else 10 * v + tp p - 48 := by
        rw [hg1]
        by_cases c : a + 4 ≤ p
        · rw [if_pos c, if_pos c]; exact h41
        · rw [if_neg c, if_neg c, up_at, if_pos ⟨rfl, rfl⟩]
      have f2 : FR [(117, 39), (117, 42)] g (up g1 117 38 ((p : Int) + 1)) := Fr.up (FR.mo f1 rfl) rfl
      obtain ⟨g', e, f, r⟩ := ih (p + 1) (if a + 4 ≤ p then v else 10 * v + tp p - 48) (up g1 117 38 ((p : Int) + 1)) (by (try clear head); (try clear mid); omega) (by (try clear head); (try clear mid); omega) (T.fr f2 rfl) (by rw [up_at, if_pos ⟨rfl, rfl⟩]; rfl) (by rw [f2 117 40 rfl]; exact h40) (by rw [up_at, if_neg (by (try clear head); (try clear mid); omega)]; exact v41) (by
        unfold vOk at hv ⊢
        by_cases c : a + 4 ≤ p
        · rw [if_pos c]; (try clear head); (try clear mid); omega
        · rw [if_neg c]; (try clear head); (try clear mid); omega)
      refine ⟨g', ?_, f2.tr f, r⟩
      have mid : ((if nw ((a : Int) + 4) ≤ nw (p : Int) then some g else (some (tp p) >>= fun r10 => (some (up g 117 41 (10 * v + r10 - 48)) >>= fun g12 => some g12))) : Option AG) = some g1 := by
        have e4 : (a : Int) + 4 = ((a + 4 : Nat) : Int) := rfl
        rw [hg1, e4, nwN (a + 4) (by (try clear head); (try clear mid); omega), nwN p (by (try clear head); (try clear mid); omega)]
        by_cases c : a + 4 ≤ p
        · rw [if_pos (by (try clear head); (try clear mid); omega), if_pos c]
        · rw [if_neg (by (try clear head); (try clear mid); omega), if_neg c, sb, sb]
      rw [head, if_neg (by rw [M_digit0 (by (try clear head); (try clear mid); omega) (by (try clear head); (try clear mid); omega)]; exact fun q => q b), mid, sb, sb, f1 117 38 rfl, h38]
      exact e
    · rw [if_neg (fun q => b (tzDB_t.mp q)), if_neg b]
      refine ⟨g, ?_, Fr.rf, h38, h41, by rw [h41]; exact hv.1, by rw [h41]; exact hv.2.1⟩
      rw [head, if_pos (by rw [M_digit0 (by (try clear head); (try clear mid); omega) (by (try clear head); (try clear mid); omega)]; exact b)]
theorem M_sign : ∀ n : Nat, n < 256 → (if nw (n : Int) = 59 then (1 : Int) else if nw (n : Int) = 43 then 1 else if nw (n : Int) = 45 then 1 else if nw (n : Int) = 42 then 1 else if nw (n : Int) = 47 then 1 else if nw (n : Int) = 40 then 1 else if nw (n : Int) = 41 then 1 else if nw (n : Int) = 60 then 1 else if nw (n : Int) = 61 then 1 else if nw (n : Int) = 62 then 1 else 0) = if tzSg (n : Int) = true then 1 else 0 := by decide +kernel
theorem M_next0_s {tp : Nat → Int} {L : Nat} (O : TpOk tp L) {p : Nat} {g : AG} (T : TapM g tp L) (hp : p ≤ L) (h38 : g 117 38 = p) (hv : 0 ≤ g 117 41 ∧ g 117 41 ≤ 9999) : ∃ g', M_next0 g = some (0, g') ∧ MAt tp L g' (tzS tp L p) ∧ FR RNX g g' ∧ 0 ≤ g' 117 41 ∧ g' 117 41 ≤ 9999 := by
  have hL := O.1
  obtain ⟨g1, e1, f1, r1⟩ := M_skip_s O (L - p) p g (by (try clear head); (try clear e5); (try clear eS); omega) T h38
  have T1 := T.fr f1 rfl
  have sr := tzS_rng (tp := tp) hp
  have so := tzS_out (tp := tp) hp
  have v1 : g1 117 41 = g 117 41 := f1 117 41 rfl
  obtain ⟨q, hq⟩ : ∃ q, q = tzS tp L p := ⟨_, rfl⟩
  rw [← hq] at r1 sr so ⊢
  have see := M_see_s O T1 sr.2
  have seer := tzSee_rng (tp := tp) (p := q) O
  have nb : ¬ tzSee tp L q = 32 ∧ ¬ tzSee tp L q = 10 := by
    unfold tzSee
    by_cases e : q < L
    · rw [if_pos e]
      have := so e
      (try clear head); (try clear e5); (try clear eS); omega
    · rw [if_neg e]; decide
  obtain ⟨g7, hg7⟩ : ∃ g7 : AG, g7 = up g1 117 40 q := ⟨_, rfl⟩
  have f7 : FR RNX g g7 := by rw [hg7]; exact Fr.up (FR.mo f1 rfl) rfl
  have T7 : TapM g7 tp L := T.fr f7 rfl
  have a38 : g7 117 38 = q := by rw [hg7, up_at, if_neg (by (try clear head); (try clear e5); (try clear eS); omega)]; exact r1
  have a40 : g7 117 40 = q := by rw [hg7, up_at, if_pos ⟨rfl, rfl⟩]
  have a41 : g7 117 41 = g 117 41 := by rw [hg7, up_at, if_neg (by (try clear head); (try clear e5); (try clear eS); omega)]; exact v1
  have see7 := M_see_s O T7 sr.2
  have head : M_next0 g = (if tzSee tp L q = -1 then some (0, up g7 117 39 0) else if nw (M_isLetter (tzSee tp L q)) = 0 then (if nw (M_isDigit (tzSee tp L q)) = 0 then some (0, up (up g7 117 38 ((q : Int) + 1)) 117 39 (if nw (if nw (tzSee tp L q) = 59 then (1 : Int) else if nw (tzSee tp L q) = 43 then 1 else if nw (tzSee tp L q) = 45 then 1 else if nw (tzSee tp L q) = 42 then 1 else if nw (tzSee tp L q) = 47 then 1 else if nw (tzSee tp L q) = 40 then 1 else if nw (tzSee tp L q) = 41 then 1 else if nw (tzSee tp L q) = 60 then 1 else if nw (tzSee tp L q) = 61 then 1 else if nw (tzSee tp L q) = 62 then 1 else 0) = 0 then 1 else 100 + tzSee tp L q)) else M_next0_b 4 (up g7 117 41 0)) else M_next0_b 3 g7) := by
    unfold M_next0
    rw [e1, M_next0_b.eq_1 1, if_pos rfl, r1, see, sb, seer.2.2, if_neg nb.1, sb, seer.2.2, if_neg nb.2, sb, ← hg7, a38, see7, sb, seer.2.2]
    rfl
  by_cases eq : q < L
  · have t := O.2 q eq
    have sq : tzSee tp L q = tp q := by unfold tzSee; rw [if_pos eq]
    rw [sq] at head
    by_cases b : tzLtr (tp q)
    · obtain ⟨g', e, f, r⟩ := M_nword_s O (L - q) q g7 (by (try clear head); (try clear e5); (try clear eS); omega) T7 a38
      have wr := tzW_rng eq b
      have T' := T7.fr f rfl
      have w := M_word_s (g := g') hL (fun k hk => ⟨T'.2 k hk, O.2 k hk⟩) (a := q) (e := tzW tp L q) (by rw [f 117 40 rfl]; exact a40) r (by (try clear head); (try clear e5); (try clear eS); omega) wr.2
      have f2 : FR RNX g (up g' 117 39 (tzMc (tzIdx tp q (tzW tp L q - q) 20 0))) := Fr.up (f7.tr (FR.mo f rfl)) rfl
      have eM : tzM tp L q = tzMc (tzIdx tp q (tzW tp L q - q) 20 0) := by unfold tzM; rw [if_pos eq, if_pos b]
      have n2 : ∀ w, w < 21 → tzMc w ≠ 2 := by decide +kernel
      have ir := tzIdx_rng (tp := tp) (a := q) (n := tzW tp L q - q) 20 0
      refine ⟨_, ?_, ⟨?_, ?_, ?_, fun z => absurd (eM.symm.trans z) (n2 _ (by (try clear head); (try clear e5); (try clear eS); omega))⟩, f2, ?_, ?_⟩
      · rw [head, if_neg (by (try clear head); (try clear e5); (try clear eS); omega), if_neg (by rw [M_letter0 (by (try clear head); (try clear e5); (try clear eS); omega) (by (try clear head); (try clear e5); (try clear eS); omega)]; exact fun q => q b), e, w, sb, sb]
      · rw [up_at, if_neg (by (try clear head); (try clear e5); (try clear eS); omega), f 117 40 rfl]; exact a40
      · rw [up_at, if_neg (by (try clear head); (try clear e5); (try clear eS); omega), r]; unfold tzE; rw [if_pos eq, if_pos b]; rfl
      · rw [up_at, if_pos ⟨rfl, rfl⟩, eM]
      · rw [up_at, if_neg (by (try clear head); (try clear e5); (try clear eS); omega), f 117 41 rfl, a41]; exact hv.1
      · rw [up_at, if_neg (by (try clear head); (try clear e5); (try clear eS); omega), f 117 41 rfl, a41]; exact hv.2
    · by_cases c : tzDgt (tp q)
      · obtain ⟨g', e, f, r, rv, b1, b2⟩ := M_ndig_s O sr.2 (L - q) q 0 (up g7 117 41 0) (by (try clear head); (try clear e5); (try clear eS); omega) (Nat.le_refl q) (T7.fr (W := RNX) (Fr.up Fr.rf rfl) rfl) (by rw [up_at, if_neg (by (try clear head); (try clear e5); (try clear eS); omega)]; exact a38) (by rw [up_at, if_neg (by (try clear head); (try clear e5); (try clear eS); omega)]; exact a40) (by rw [up_at, if_pos ⟨rfl, rfl⟩]) (by unfold vOk; omega)
        have dr := tzD_rng eq c
        have f8 : FR RNX g7 g' := (Fr.up (W := inR RNX) Fr.rf rfl).tr (FR.mo f rfl)
        have h40' : g' 117 40 = q := by rw [f 117 40 rfl, up_at, if_neg (by (try clear head); (try clear e5); (try clear eS); omega)]; exact a40
        have rD : g' 117 38 = (tzD tp L q : Nat) := r
        have eM : tzM tp L q = if 5 ≤ tzD tp L q - q then 1 else 2 := by unfold tzM; rw [if_pos eq, if_neg b, if_pos c]
        have e5 : (if 5 ≤ nw (g' 117 38 - g' 117 40) then (1 : Int) else 2) = if 5 ≤ tzD tp L q - q then 1 else 2 := by
          rw [rD, h40', show ((tzD tp L q : Nat) : Int) - (q : Int) = ((tzD tp L q - q : Nat) : Int) by (try clear head); (try clear e5); (try clear eS); omega, nwN (tzD tp L q - q) (by (try clear head); (try clear e5); (try clear eS); omega)]
          by_cases z : 5 ≤ tzD tp L q - q
          · rw [if_pos (by (try clear head); (try clear e5); (try clear eS); omega), if_pos z]
          · rw [if_neg (by (try clear head); (try clear e5); (try clear eS); omega), if_neg z]
        refine ⟨up g' 117 39 (tzM tp L q), ?_, ⟨?_, ?_, ?_, fun z => ?_⟩, Fr.up (f7.tr f8) rfl, ?_, ?_⟩
        · rw [head, if_neg (by (try clear head); (try clear e5); (try clear eS); omega), if_pos (by rw [M_letter0 (by (try clear head); (try clear e5); (try clear eS); omega) (by (try clear head); (try clear e5); (try clear eS); omega)]; exact b), if_neg (by rw [M_digit0 (by (try clear head); (try clear e5); (try clear eS); omega) (by (try clear head); (try clear e5); (try clear eS); omega)]; exact fun q => q c), e, e5, eM, sb, sb]
        · rw [up_at, if_neg (by (try clear head); (try clear e5); (try clear eS); omega)]; exact h40'
        · rw [up_at, if_neg (by (try clear head); (try clear e5); (try clear eS); omega), rD]; unfold tzE; rw [if_pos eq, if_neg b, if_pos c]
        · rw [up_at, if_pos ⟨rfl, rfl⟩]
        · have z5 : ¬ 5 ≤ tzD tp L q - q := fun y => by rw [eM, if_pos y] at z; omega
          rw [up_at, if_neg (by (try clear head); (try clear e5); (try clear eS); omega), rv]
          have ed : tzD tp L q = rnT tzDB tp (L - q) q := rfl
          exact tzMv_eq (L - q) q 0 (Nat.le_refl q) (by (try clear head); (try clear e5); (try clear eS); omega)
        · rw [up_at, if_neg (by (try clear head); (try clear e5); (try clear eS); omega)]; exact b1
        · rw [up_at, if_neg (by (try clear head); (try clear e5); (try clear eS); omega)]; exact b2
      · have sg := M_sign (tp q).toNat (by (try clear head); (try clear e5); (try clear eS); omega)
        rw [show (((tp q).toNat : Nat) : Int) = tp q by (try clear head); (try clear e5); (try clear eS); omega] at sg
        have eM : tzM tp L q = if tzSg (tp q) = true then 100 + tp q else 1 := by unfold tzM; rw [if_pos eq, if_neg b, if_neg c]
        have eS : (if nw (if tzSg (tp q) = true then (1 : Int) else 0) = 0 then 1 else 100 + tp q) = tzM tp L q := by
          rw [eM]
          by_cases z : tzSg (tp q) = true
          · rw [if_pos z, if_pos z, nw_1, if_neg (by decide)]
          · rw [if_neg z, if_neg z, nw_0, if_pos rfl]
        refine ⟨up (up g7 117 38 ((q : Int) + 1)) 117 39 (tzM tp L q), ?_, ⟨?_, ?_, ?_, fun z => ?_⟩, Fr.up (Fr.up f7 rfl) rfl, ?_, ?_⟩
        · rw [head, if_neg (by (try clear head); (try clear e5); (try clear eS); omega), if_pos (by rw [M_letter0 (by (try clear head); (try clear e5); (try clear eS); omega) (by (try clear head); (try clear e5); (try clear eS); omega)]; exact b), if_pos (by rw [M_digit0 (by (try clear head); (try clear e5); (try clear eS); omega) (by (try clear head); (try clear e5); (try clear eS); omega)]; exact c), sg, eS]
        · rw [up_at, if_neg (by (try clear head); (try clear e5); (try clear eS); omega), up_at, if_neg (by (try clear head); (try clear e5); (try clear eS); omega)]; exact a40
        · rw [up_at, if_neg (by (try clear head); (try clear e5); (try clear eS); omega), up_at, if_pos ⟨rfl, rfl⟩]; unfold tzE; rw [if_pos eq, if_neg b, if_neg c]; rfl
        · rw [up_at, if_pos ⟨rfl, rfl⟩]
        · exfalso
          rw [eM] at z
          by_cases y : tzSg (tp q) = true
          · rw [if_pos y] at z; omega
          · rw [if_neg y] at z; omega
        · rw [up_at, if_neg (by (try clear head); (try clear e5); (try clear eS); omega), up_at, if_neg (by (try clear head); (try clear e5); (try clear eS); omega), a41]; exact hv.1
        · rw [up_at, if_neg (by (try clear head); (try clear e5); (try clear eS); omega), up_at, if_neg (by (try clear head); (try clear e5); (try clear eS); omega), a41]; exact hv.2
  · have sq : tzSee tp L q = -1 := by unfold tzSee; rw [if_neg eq]
    have eM : tzM tp L q = 0 := by unfold tzM; rw [if_neg eq]
    refine ⟨up g7 117 39 0, ?_, ⟨?_, ?_, ?_, fun z => ?_⟩, Fr.up f7 rfl, ?_, ?_⟩
    · rw [head, if_pos sq]
    · rw [up_at, if_neg (by (try clear head); (try clear e5); (try clear eS); omega)]; exact a40
    · rw [up_at, if_neg (by (try clear head); (try clear e5); (try clear eS); omega), a38]; unfold tzE; rw [if_neg eq]
    · rw [up_at, if_pos ⟨rfl, rfl⟩, eM]
    · rw [eM] at z; omega
    · rw [up_at, if_neg (by (try clear head); (try clear e5); (try clear eS); omega), a41]; exact hv.1
    · rw [up_at, if_neg (by (try clear head); (try clear e5); (try clear eS); omega), a41]; exact hv.2
