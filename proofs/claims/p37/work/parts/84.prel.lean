/-! plain programs: the two parsers beside each other -/
def TkOk (tp : Nat → Int) (L T : Nat) : Prop := TpOk tp L ∧ T ≤ L ∧ tpl tp L T = L ∧ ∀ k, k < T → tpl tp L k < L
def XTok (tp : Nat → Int) (L T : Nat) (g : AG) : Prop := g 4 5 = T + 1 ∧ ∀ k, k ≤ T → g 42 k = tzX tp L (tpl tp L k) ∧ g 43 k = (tpl tp L k : Nat)
abbrev RPX : Reg := [(4, 7), (4, 8), (4, 9), (3, 3), (29, 0), (30, 0)]
abbrev RPM : Reg := [(117, 39), (117, 40), (117, 41), (117, 42), (117, 43), (117, 44), (117, 37), (117, 46), (141, 0)]
theorem XTok.fr {W : Reg} {g g' : AG} {tp : Nat → Int} {L T : Nat} (h : XTok tp L T g) (f : FR W g g') (d : djR [(4, 6), (42, 0), (43, 0)] W = true) : XTok tp L T g' := ⟨by rw [f.cg d 4 5 rfl]; exact h.1, fun k hk => by rw [f.cg d 42 k rfl, f.cg d 43 k rfl]; exact h.2 k hk⟩
/-- both stand at token k, with s steps laid -/
def PRel (tp : Nat → Int) (L T k s : Nat) (gX gM : AG) : Prop :=
  XTok tp L T gX ∧ gX 4 6 = k ∧ gX 4 7 = 0 ∧ gX 3 2 = s ∧ TapM gM tp L ∧ MAt tp L gM (tpl tp L k) ∧ (0 ≤ gM 117 41 ∧ gM 117 41 ≤ 9999) ∧ gM 117 36 = s ∧ k ≤ T ∧ s ≤ 500 ∧ (∀ j, j < s → opR (gM 141 (2 * j)) (gM 141 (2 * j + 1)) (gX 29 j) (gX 30 j)) ∧ (∀ j, j < 2 * s → I32 (gM 141 j)) ∧ gX 4 8 = -1 ∧ gM 117 42 = 0
/-- the class behind a fault -/
def XF (tp : Nat → Int) (L T : Nat) (w p : Int) (g : AG) : Prop := XTok tp L T g ∧ (∃ k : Nat, k ≤ T ∧ g 4 6 = k) ∧ g 4 7 = w ∧ g 4 8 = p ∧ (∃ s : Nat, s ≤ 500 ∧ g 3 2 = s) ∧ 1 ≤ w ∧ w ≤ 3 ∧ T ≤ 500
def PFail (tp : Nat → Int) (L T : Nat) (gX gM : AG) : Prop := ∃ w p, XF tp L T w p gX ∧ gM 117 42 = w ∧ gM 117 43 = p ∧ (0 ≤ gM 117 41 ∧ gM 117 41 ≤ 9999)
def Acc (tp : Nat → Int) (L T : Nat) (E : (Nat → Int) → Nat → Nat → Prop) (k0 s0 : Nat) (X0 M0 : AG) (k s : Nat) (gX gM : AG) : Prop :=
  FR RPX X0 gX ∧ FR RPM M0 gM ∧ gM 117 45 = M0 117 45 ∧ (∀ j, j < 2 * s0 → gM 141 j = M0 141 j) ∧ PRel tp L T k s gX gM ∧ k0 ≤ k ∧ s0 ≤ s ∧ s + k0 ≤ s0 + k ∧ E (gM 141) s0 s
def PR (tp : Nat → Int) (L T : Nat) (E : (Nat → Int) → Nat → Nat → Prop) (k0 s0 : Nat) (X0 M0 : AG) (rX : AG) (rM : Int × AG) : Prop :=
  (rM.1 = 1 ∧ ∃ k s, Acc tp L T E k0 s0 X0 M0 k s rX rM.2) ∨ (rM.1 = 0 ∧ FR RPX X0 rX ∧ FR RPM M0 rM.2 ∧ PFail tp L T rX rM.2)
/-- that code puts one value -/
def EvN (h : Nat) (cd : Nat → Int) (a b : Nat) : Prop := ∀ (fc : Nat → Int) (st : List Int), st.length + h ≤ 32 → ∃ v, evl cd fc (b - a) a st = some (v :: st)
def EvB (h : Nat) (cd : Nat → Int) (a b : Nat) : Prop := ∀ (fc : Nat → Int) (st : List Int), st.length + h ≤ 32 → ∃ v, evl cd fc (b - a) a st = some (v :: st) ∧ (v = 0 ∨ v = 1)
def EvT (_ : Nat → Int) (_ _ : Nat) : Prop := True
theorem EvN.cd {h : Nat} {cd cd' : Nat → Int} {a b : Nat} (q : EvN h cd a b) (hab : a ≤ b) (e : ∀ j, j < 2 * b → cd' j = cd j) : EvN h cd' a b := fun fc st hl => by
  obtain ⟨v, hv⟩ := q fc st hl
  exact ⟨v, by rw [evl_cd (b - a) a st (cd' := cd) (fun j h1 h2 => e j (by omega))]; exact hv⟩
theorem EvB.cd {h : Nat} {cd cd' : Nat → Int} {a b : Nat} (q : EvB h cd a b) (hab : a ≤ b) (e : ∀ j, j < 2 * b → cd' j = cd j) : EvB h cd' a b := fun fc st hl => by
  obtain ⟨v, hv, hv2⟩ := q fc st hl
  exact ⟨v, by rw [evl_cd (b - a) a st (cd' := cd) (fun j h1 h2 => e j (by omega))]; exact hv, hv2⟩
theorem EvN.mono {h h' : Nat} {cd : Nat → Int} {a b : Nat} (q : EvN h cd a b) (hh : h ≤ h') : EvN h' cd a b := fun fc st hl => q fc st (by omega)
theorem EvB.mono {h h' : Nat} {cd : Nat → Int} {a b : Nat} (q : EvB h cd a b) (hh : h ≤ h') : EvB h' cd a b := fun fc st hl => q fc st (by omega)
theorem evl_one {cd fc : Nat → Int} {i : Nat} {st st1 : List Int} (h : stp (cd (2 * i)) (cd (2 * i + 1)) fc st = some st1) (hl : st1.length ≤ 32) : evl cd fc 1 i st = some st1 := by
  show (stp _ _ fc st >>= _) = _
  rw [h, sb, if_pos hl]
  rfl
theorem EvN.put {cd : Nat → Int} {a : Nat} (h : 0 ≤ cd (2 * a) ∧ cd (2 * a) < 10) : EvN 1 cd a (a + 1) := fun fc st hl => by
  refine ⟨if cd (2 * a) = 0 then cd (2 * a + 1) else fc (cd (2 * a)).toNat, ?_⟩
  rw [show a + 1 - a = 1 by omega]
  refine evl_one ?_ (by simp; omega)
  unfold stp
  rw [if_pos h.2]
theorem EvN.part {h : Nat} (hh : 1 ≤ h) {cd : Nat → Int} {a b : Nat} (q : EvN h cd a b) (hab : a ≤ b) (e : cd (2 * b) = 13) : EvN h cd a (b + 1) := fun fc st hl => by
  obtain ⟨v, hv⟩ := q fc st hl
  refine ⟨(nw v).tdiv (nw (cd (2 * b + 1))), ?_⟩
  rw [show b + 1 - a = (b - a) + 1 by omega, evl_app _ 1 a st _ hv, show a + (b - a) = b by omega]
  refine evl_one ?_ (by simp; omega)
  unfold stp
  rw [e, if_neg (by decide), if_pos rfl]
theorem EvN.two {h1 h2 h : Nat} {cd : Nat → Int} {a b c : Nat} (q1 : EvN h1 cd a b) (q2 : EvN h2 cd b c) (hab : a ≤ b) (hbc : b ≤ c) (e : cd (2 * c) = 10 ∨ cd (2 * c) = 11 ∨ cd (2 * c) = 12) (l1 : h1 ≤ h) (l2 : h2 + 1 ≤ h) : EvN h cd a (c + 1) := fun fc st hl => by
  obtain ⟨v1, hv1⟩ := q1 fc st (by omega)
  obtain ⟨v2, hv2⟩ := q2 fc (v1 :: st) (by simp; omega)
  refine ⟨M_both (cd (2 * c)) v1 v2, ?_⟩
  rw [show c + 1 - a = (b - a) + ((c - b) + 1) by omega, evl_app _ _ a st _ hv1, show a + (b - a) = b by omega, evl_app _ 1 b _ _ hv2, show b + (c - b) = c by omega]
  refine evl_one ?_ (by simp; omega)
  unfold stp
  rw [if_neg (by omega), if_neg (by omega), if_neg (by omega)]
theorem both_cmp {s a b : Int} (h : s = 14 ∨ s = 15 ∨ s = 16) : M_both s a b = 0 ∨ M_both s a b = 1 := by
  unfold M_both
  rcases h with rfl | rfl | rfl
  · rw [nw_id (a := 14) (by decide) (by decide), if_neg (by decide), if_neg (by decide), if_neg (by decide), if_neg (by decide), if_pos rfl]
    split
    · exact Or.inl rfl
    · exact Or.inr rfl
  · rw [nw_id (a := 15) (by decide) (by decide), if_neg (by decide), if_neg (by decide), if_neg (by decide), if_neg (by decide), if_neg (by decide), if_pos rfl]
    split
    · exact Or.inr rfl
    · exact Or.inl rfl
  · rw [nw_id (a := 16) (by decide) (by decide), if_neg (by decide), if_neg (by decide), if_neg (by decide), if_neg (by decide), if_neg (by decide), if_neg (by decide), if_pos rfl]
    split
    · exact Or.inl rfl
    · exact Or.inr rfl
theorem EvB.cmp {cd : Nat → Int} {a b c : Nat} (q1 : EvN 3 cd a b) (q2 : EvN 3 cd b c) (hab : a ≤ b) (hbc : b ≤ c) (e : cd (2 * c) = 14 ∨ cd (2 * c) = 15 ∨ cd (2 * c) = 16) : EvB 4 cd a (c + 1) := fun fc st hl => by
  obtain ⟨v1, hv1⟩ := q1 fc st (by omega)
  obtain ⟨v2, hv2⟩ := q2 fc (v1 :: st) (by simp; omega)
  refine ⟨M_both (cd (2 * c)) v1 v2, ?_, both_cmp e⟩
  rw [show c + 1 - a = (b - a) + ((c - b) + 1) by omega, evl_app _ _ a st _ hv1, show a + (b - a) = b by omega, evl_app _ 1 b _ _ hv2, show b + (c - b) = c by omega]
  refine evl_one ?_ (by simp; omega)
  unfold stp
  rw [if_neg (by omega), if_neg (by omega), if_neg (by omega)]
theorem both_bit {s a b : Int} (h : s = 18 ∨ s = 19) (ha : a = 0 ∨ a = 1) (hb : b = 0 ∨ b = 1) : M_both s a b = 0 ∨ M_both s a b = 1 := by
  rcases h with rfl | rfl <;> rcases ha with rfl | rfl <;> rcases hb with rfl | rfl <;> decide +kernel
theorem EvB.two {h1 h2 h : Nat} {cd : Nat → Int} {a b c : Nat} (q1 : EvB h1 cd a b) (q2 : EvB h2 cd b c) (hab : a ≤ b) (hbc : b ≤ c) (e : cd (2 * c) = 18 ∨ cd (2 * c) = 19) (l1 : h1 ≤ h) (l2 : h2 + 1 ≤ h) : EvB h cd a (c + 1) := fun fc st hl => by
  obtain ⟨v1, hv1, w1⟩ := q1 fc st (by omega)
  obtain ⟨v2, hv2, w2⟩ := q2 fc (v1 :: st) (by simp; omega)
  refine ⟨M_both (cd (2 * c)) v1 v2, ?_, both_bit e w1 w2⟩
  rw [show c + 1 - a = (b - a) + ((c - b) + 1) by omega, evl_app _ _ a st _ hv1, show a + (b - a) = b by omega, evl_app _ 1 b _ _ hv2, show b + (c - b) = c by omega]
  refine evl_one ?_ (by simp; omega)
  unfold stp
  rw [if_neg (by omega), if_neg (by omega), if_neg (by omega)]
theorem EvB.no {h : Nat} (hh : 1 ≤ h) {cd : Nat → Int} {a b : Nat} (q : EvB h cd a b) (hab : a ≤ b) (e : cd (2 * b) = 17) : EvB h cd a (b + 1) := fun fc st hl => by
  obtain ⟨v, hv, w⟩ := q fc st hl
  refine ⟨1 - v, ?_, by omega⟩
  rw [show b + 1 - a = (b - a) + 1 by omega, evl_app _ 1 a st _ hv, show a + (b - a) = b by omega]
  refine evl_one ?_ (by simp; omega)
  unfold stp
  rw [e, if_neg (by decide), if_neg (by decide), if_pos rfl]
/-! tokens told apart -/
theorem tk_rng {x m v : Int} (h : tokR x m v) : 0 ≤ x ∧ x ≤ 10999 ∧ 0 ≤ m ∧ m ≤ 162 := by unfold tokR at h; omega
theorem tk_sg {x m v : Int} (h : tokR x m v) {c : Int} (h1 : 40 ≤ c) (h2 : c ≤ 62) : x = c ↔ m = c + 100 := by unfold tokR at h; omega
theorem tk_ud {x m v : Int} (h : tokR x m v) {c : Int} (h1 : 105 ≤ c) (h2 : c ≤ 106) : x = c ↔ m = c - 98 := by unfold tokR at h; omega
theorem tk_wd {x m v : Int} (h : tokR x m v) {c : Int} (h1 : 107 ≤ c) (h2 : c ≤ 110) : x = c ↔ m = c - 104 := by unfold tokR at h; omega
theorem tk_0 {x m v : Int} (h : tokR x m v) : x = 0 ↔ m = 0 := by unfold tokR at h; omega
theorem tk_num {x m v : Int} (h : tokR x m v) : 1000 ≤ x ↔ m = 2 := by unfold tokR at h; omega
theorem tk_val {x m v : Int} (h : tokR x m v) (h2 : m = 2) : v = x - 1000 ∧ 0 ≤ v ∧ v ≤ 9999 := by unfold tokR at h; omega
theorem tk_nam {x m v : Int} (h : tokR x m v) : (111 ≤ x ∧ x ≤ 119) ↔ (41 ≤ m ∧ m ≤ 49) := by unfold tokR at h; omega
theorem tk_nam2 {x m v : Int} (h : tokR x m v) (h2 : 41 ≤ m ∧ m ≤ 49) : m = x - 70 := by unfold tokR at h; omega
theorem tk_lin {x m v : Int} (h : tokR x m v) : (100 ≤ x ∧ x ≤ 104) ↔ (20 ≤ m ∧ m ≤ 24) := by unfold tokR at h; omega
theorem tk_lin2 {x m v : Int} (h : tokR x m v) (h2 : 20 ≤ m ∧ m ≤ 24) : m = x - 80 := by unfold tokR at h; omega
/-- what both see at their token -/
theorem PRel.see {tp : Nat → Int} {L T k s : Nat} {gX gM : AG} (O : TkOk tp L T) (R : PRel tp L T k s gX gM) : ∃ x m v : Int, tokR x m v ∧ gX 42 k = x ∧ gM 117 39 = m ∧ nw x = x ∧ nw m = m ∧ (m = 2 → gM 117 41 = v) ∧ (x = 0 → k = T) ∧ (k = T → x = 0) ∧ gX 43 k = gM 117 40 := by
  obtain ⟨a1, a2, a3, a4, a5, a6, a7, a8, a9, a10, a11, a12⟩ := R
  have t := tz_rel (p := tpl tp L k) O.1
  have r := tk_rng t
  refine ⟨_, _, _, t, (a1.2 k a9).1, a6.2.2.1, nw_id (by omega) (by omega), nw_id (by omega) (by omega), a6.2.2.2, fun z => ?_, fun z => ?_, by rw [(a1.2 k a9).2]; exact a6.1.symm⟩
  · by_cases y : k < T
    · exfalso
      have l := O.2.2.2 k y
      have ok := O.1.2 _ l
      unfold tzX at z
      rw [if_pos l] at z
      by_cases c1 : tzLtr (tp (tpl tp L k))
      · rw [if_pos c1] at z
        by_cases c2 : tzIdx tp (tpl tp L k) (tzW tp L (tpl tp L k) - tpl tp L k) 20 0 = 20
        · rw [if_pos c2] at z; omega
        · rw [if_neg c2] at z; omega
      · rw [if_neg c1] at z
        by_cases c2 : tzDgt (tp (tpl tp L k))
        · rw [if_pos c2] at z
          by_cases c3 : tzD tp L (tpl tp L k) - tpl tp L k ≤ 4
          · rw [if_pos c3] at z
            have := tzV_le l c3
            unfold tzVal at this
            omega
          · rw [if_neg c3] at z; omega
        · rw [if_neg c2] at z
          by_cases c3 : tzSg (tp (tpl tp L k)) = true
          · rw [if_pos c3] at z
            have q := tzSg_r (tp (tpl tp L k)).toNat (by omega) (by rw [show (((tp (tpl tp L k)).toNat : Nat) : Int) = tp (tpl tp L k) by omega]; exact c3)
            omega
          · rw [if_neg c3] at z; omega
    · omega
  · rw [z, O.2.2.1]
    unfold tzX
    rw [if_neg (by omega)]
/-! single steps of the class -/
theorem goOn_s {g : AG} {T k : Nat} (h5 : g 4 5 = T + 1) (h6 : g 4 6 = k) (hk : k < T) (hT : T ≤ 500) : Parser_goOn g = some (0, up g 4 6 ((k : Int) + 1)) := by
  unfold Parser_goOn
  rw [h5, h6, show (T : Int) + 1 - 1 = (T : Int) by omega, nwN T (by omega), nwN k (by omega), if_neg (by omega), sb, sb]
def putX (g : AG) (s : Nat) (w x : Int) : AG := up (up (up g 29 s w) 30 s x) 3 2 ((s : Int) + 1)
theorem put_s {g : AG} {s : Nat} {w x : Int} (h : g 3 2 = s) (hs : s < 500) : Rules_put w x g = some (0, putX g s w x) := by
  unfold Rules_put putX
  have u1 : (up g 29 s w) 3 2 = s := by rw [up_at, if_neg (fun q => absurd q.1 (by decide))]; exact h
  have u2 : (up (up g 29 s w) 30 s x) 3 2 = s := by rw [up_at, if_neg (fun q => absurd q.1 (by decide))]; exact u1
  rw [h, nwN s (by omega), ixN s (by omega), if_neg (by omega), if_pos (by omega), sb, u1, nwN s (by omega), ixN s (by omega), if_pos (by omega), sb, u2, sb, sb]
theorem put_any {g : AG} {s : Nat} {w x : Int} (h : g 3 2 = s) (hs : s ≤ 500) : ∃ g', Rules_put w x g = some (0, g') ∧ FR [(3, 3), (29, 0), (30, 0)] g g' ∧ ∃ s' : Nat, s' ≤ 500 ∧ g' 3 2 = s' := by
  by_cases e : s < 500
  · refine ⟨_, put_s h e, Fr.up (Fr.up (Fr.up Fr.rf rfl) rfl) rfl, s + 1, by omega, ?_⟩
    unfold putX
    rw [up_at, if_pos ⟨rfl, rfl⟩]
    rfl
  · refine ⟨g, ?_, Fr.rf, s, hs, h⟩
    unfold Rules_put
    rw [h, nwN s (by omega), if_pos (by omega), sb]
theorem put_goOn {g : AG} {s k : Nat} {w x : Int} : putX (up g 4 6 ((k : Int) + 1)) s w x = up (putX g s w x) 4 6 ((k : Int) + 1) := by
  funext a b
  unfold putX
  simp only [up_at]
  by_cases c1 : a = 4 ∧ b = 6
  · rw [if_pos c1, if_pos c1, if_neg (by omega), if_neg (by omega), if_neg (by omega)]
  · rw [if_neg c1, if_neg c1]
theorem is_s {g : AG} {k : Nat} {c x : Int} (h6 : g 4 6 = k) (h7 : g 4 7 = 0) (hk : k ≤ 500) (hx : g 42 k = x) (nx : nw x = x) (nc : nw c = c) : Parser_is c g = some (if x = c then 1 else 0) := by
  unfold Parser_is
  rw [h7, nw_0, if_pos rfl, h6, nwN k (by omega), ixN k (by omega), if_pos (by omega), sb, hx, nx, nc]
  by_cases e : x = c
  · rw [if_pos e, sb, if_pos (Or.inr rfl)]
  · rw [if_neg e, sb, if_pos (Or.inl rfl)]
theorem fail_s {g : AG} {k : Nat} {w : Int} (h6 : g 4 6 = k) (h7 : g 4 7 = 0) (hk : k ≤ 500) : Parser_fail w g = some (0, up (up g 4 7 w) 4 8 (g 43 k)) := by
  unfold Parser_fail
  have u1 : (up g 4 7 w) 4 6 = k := by rw [up_at, if_neg (by omega)]; exact h6
  have u2 : (up g 4 7 w) 43 k = g 43 k := by rw [up_at, if_neg (fun q => absurd q.1 (by decide))]
  rw [h7, nw_0, if_pos rfl, sb, u1, nwN k (by omega), ixN k (by omega), if_pos (by omega), u2, sb, sb]
