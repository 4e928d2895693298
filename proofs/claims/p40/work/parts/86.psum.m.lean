section
/-! plain programs: E, T and U, both sides -/
def Stb (E : (Nat → Int) → Nat → Nat → Prop) : Prop := ∀ (cd cd' : Nat → Int) (a b : Nat), a ≤ b → (∀ j, j < 2 * b → cd' j = cd j) → E cd a b → E cd' a b
theorem stbN (h : Nat) : Stb (EvN h) := fun _ _ _ _ hab e q => q.cd hab e
theorem stbB (h : Nat) : Stb (EvB h) := fun _ _ _ _ hab e q => q.cd hab e
theorem stbT : Stb EvT := fun _ _ _ _ _ _ _ => trivial
def PBad (tp : Nat → Int) (L T : Nat) (X0 M0 rX : AG) (rM : Int × AG) : Prop := rM.1 = 0 ∧ FR RPX X0 rX ∧ FR RPM M0 rM.2 ∧ PFail tp L T rX rM.2
theorem Acc.start {tp : Nat → Int} {L T : Nat} {E : (Nat → Int) → Nat → Nat → Prop} {k s : Nat} {gX gM : AG} (R : PRel tp L T k s gX gM) (h : E (gM 141) s s) : Acc tp L T E k s gX gM k s gX gM := ⟨Fr.rf, Fr.rf, rfl, fun _ _ => rfl, R, Nat.le_refl k, Nat.le_refl s, Nat.le_refl _, h⟩
theorem Acc.le {tp : Nat → Int} {L T : Nat} {E : (Nat → Int) → Nat → Nat → Prop} {k0 s0 k s : Nat} {X0 M0 gX gM : AG} (A : Acc tp L T E k0 s0 X0 M0 k s gX gM) (h : s0 ≤ k0) : s ≤ k := by
  obtain ⟨_, _, _, _, _, a, b, c, _⟩ := A
  omega
theorem Acc.to {tp : Nat → Int} {L T : Nat} {E E' : (Nat → Int) → Nat → Nat → Prop} {k0 s0 k s : Nat} {X0 M0 gX gM : AG} (A : Acc tp L T E k0 s0 X0 M0 k s gX gM) (h : E (gM 141) s0 s → E' (gM 141) s0 s) : Acc tp L T E' k0 s0 X0 M0 k s gX gM := by
  obtain ⟨a1, a2, a3, a4, a5, a6, a7, a8, a9⟩ := A
  exact ⟨a1, a2, a3, a4, a5, a6, a7, a8, h a9⟩
theorem Acc.nx {tp : Nat → Int} {L T : Nat} (O : TkOk tp L T) {E : (Nat → Int) → Nat → Nat → Prop} {k0 s0 k s : Nat} {X0 M0 gX gM : AG} (A : Acc tp L T E k0 s0 X0 M0 k s gX gM) (hk : k < T) : ∃ gM', Parser_goOn gX = some (0, up gX 4 6 ((k : Int) + 1)) ∧ M_next0 gM = some (0, gM') ∧ Acc tp L T E k0 s0 X0 M0 (k + 1) s (up gX 4 6 ((k : Int) + 1)) gM' ∧ FR RNX gM gM' := by
  obtain ⟨a1, a2, a3, a4, a5, a6, a7, a8, a9⟩ := A
  obtain ⟨gM', e1, e2, R, f⟩ := a5.nx O hk
  have c : gM' 141 = gM 141 := f.cell (fun _ => rfl)
  exact ⟨gM', e1, e2, ⟨Fr.up a1 rfl, a2.tr (FR.mo f rfl), by rw [f 117 45 rfl]; exact a3, fun j hj => by rw [c]; exact a4 j hj, R, by omega, a7, by omega, by rw [c]; exact a9⟩, f⟩
theorem Acc.bad {tp : Nat → Int} {L T : Nat} (O : TkOk tp L T) {E : (Nat → Int) → Nat → Nat → Prop} {k0 s0 k s : Nat} {X0 M0 gX gM : AG} (A : Acc tp L T E k0 s0 X0 M0 k s gX gM) {w : Int} (h1 : 1 ≤ w) (h3 : w ≤ 3) : Parser_fail w gX = some (0, failX gX k w) ∧ M_bad w gM = some (0, badM gM w) ∧ PBad tp L T X0 M0 (failX gX k w) (0, badM gM w) := by
  obtain ⟨a1, a2, a3, a4, a5, a6, a7, a8, a9⟩ := A
  obtain ⟨e1, e2, F, f1, f2⟩ := a5.bad O h1 h3
  exact ⟨e1, e2, rfl, a1.tr (FR.mo f1 rfl), a2.tr (FR.mo f2 rfl), F⟩
theorem Acc.pbad {tp : Nat → Int} {L T : Nat} {E : (Nat → Int) → Nat → Nat → Prop} {k0 s0 k s : Nat} {X0 M0 gX gM rX : AG} {rM : Int × AG} (A : Acc tp L T E k0 s0 X0 M0 k s gX gM) (B : PBad tp L T gX gM rX rM) : PBad tp L T X0 M0 rX rM := ⟨B.1, A.1.tr B.2.1, A.2.1.tr B.2.2.1, B.2.2.2⟩
/-- the first part, the second behind it -/
theorem Acc.join {tp : Nat → Int} {L T : Nat} {E1 E2 E3 : (Nat → Int) → Nat → Nat → Prop} {k0 s0 k s k' s' : Nat} {X0 M0 gX gM gX' gM' : AG} (A : Acc tp L T E1 k0 s0 X0 M0 k s gX gM) (B : Acc tp L T E2 k s gX gM k' s' gX' gM') (st : Stb E1) (h : E1 (gM' 141) s0 s → E2 (gM' 141) s s' → E3 (gM' 141) s0 s') : Acc tp L T E3 k0 s0 X0 M0 k' s' gX' gM' := by
  obtain ⟨a1, a2, a3, a4, a5, a6, a7, a8, a9⟩ := A
  obtain ⟨b1, b2, b3, b4, b5, b6, b7, b8, b9⟩ := B
  exact ⟨a1.tr b1, a2.tr b2, b3.trans a3, fun j hj => (b4 j (by omega)).trans (a4 j hj), b5, by omega, by omega, by omega, h (st _ _ _ _ a7 (fun j hj => b4 j hj) a9) b9⟩
/-- the first part, the second behind it, and a step for both -/
theorem Acc.op {tp : Nat → Int} {L T : Nat} {E1 E2 E3 : (Nat → Int) → Nat → Nat → Prop} {k0 s0 k s k' s' : Nat} {X0 M0 gX gM gX' gM' : AG} (A : Acc tp L T E1 k0 s0 X0 M0 k s gX gM) (B : Acc tp L T E2 k s gX gM k' s' gX' gM') (st : Stb E1) (st2 : Stb E2) {c v w x : Int} (ho : opR c v w x) (hv : I32 v) (h0 : s0 ≤ k0) (hx : s + 1 + k0 ≤ s0 + k) (h : ∀ cd : Nat → Int, E1 cd s0 s → E2 cd s s' → cd (2 * s') = c → E3 cd s0 (s' + 1)) (hT : T ≤ 500) : Rules_put w x gX' = some (0, putX gX' s' w x) ∧ M_lay c v gM' = some (0, layM gM' s' c v) ∧ Acc tp L T E3 k0 s0 X0 M0 k' (s' + 1) (putX gX' s' w x) (layM gM' s' c v) := by
  obtain ⟨a1, a2, a3, a4, a5, a6, a7, a8, a9⟩ := A
  obtain ⟨b1, b2, b3, b4, b5, b6, b7, b8, b9⟩ := B
  have hk : k' ≤ T := b5.2.2.2.2.2.2.2.2.1
  have h3 := b5.2.2.2.1
  have h8 := b5.2.2.2.2.2.2.2.1
  have lo : ∀ j, j < 2 * s' → layM gM' s' c v 141 j = gM' 141 j := fun j hj => layM_lo hj
  refine ⟨put_s h3 (by omega), lay_s h8 (by omega), (a1.tr b1).tr (FR.mo putX_fr rfl), (a2.tr b2).tr (FR.mo layM_fr rfl), ?_, fun j hj => ?_, b5.lay (by omega) ho hv, by omega, by omega, by omega, ?_⟩
  · rw [layM_fr (g := gM') 117 45 rfl]; exact b3.trans a3
  · rw [lo j (by omega), b4 j (by omega)]; exact a4 j hj
  · exact h _ (st _ _ _ _ a7 (fun j hj => by rw [lo j (by omega)]; exact b4 j hj) a9) (st2 _ _ _ _ b7 (fun j hj => lo j hj) b9) (layM_at).1
/-- one step behind what stands -/
theorem Acc.op1 {tp : Nat → Int} {L T : Nat} {E1 E3 : (Nat → Int) → Nat → Nat → Prop} {k0 s0 k s : Nat} {X0 M0 gX gM : AG} (A : Acc tp L T E1 k0 s0 X0 M0 k s gX gM) (st : Stb E1) {c v w x : Int} (ho : opR c v w x) (hv : I32 v) (h0 : s0 ≤ k0) (hx : s + 1 + k0 ≤ s0 + k) (h : ∀ cd : Nat → Int, E1 cd s0 s → cd (2 * s) = c → E3 cd s0 (s + 1)) (hT : T ≤ 500) : Rules_put w x gX = some (0, putX gX s w x) ∧ M_lay c v gM = some (0, layM gM s c v) ∧ Acc tp L T E3 k0 s0 X0 M0 k (s + 1) (putX gX s w x) (layM gM s c v) :=
  Acc.op (E2 := EvT) A (Acc.start A.2.2.2.2.1 trivial) st stbT ho hv h0 hx (fun cd a _ b => h cd a b) hT
theorem op_num {v : Int} (h : 0 ≤ v) (h2 : v ≤ 9999) : opR 0 v 2 v := Or.inl ⟨rfl, rfl, rfl, h, h2⟩
theorem op_nam {s v : Int} (h : 1 ≤ s) (h2 : s ≤ 9) : opR s v 3 (s - 1) := Or.inr (Or.inl ⟨h, h2, rfl, rfl⟩)
theorem op_add {v c : Int} : opR 10 v 43 c := by unfold opR; omega
theorem op_less {v c : Int} : opR 11 v 45 c := by unfold opR; omega
theorem op_times {v c : Int} : opR 12 v 42 c := by unfold opR; omega
theorem op_part {v : Int} (h : 1 ≤ v) (h2 : v ≤ 9999) : opR 13 v 47 v := by unfold opR; omega
theorem op_bel {v c : Int} : opR 14 v 60 c := by unfold opR; omega
theorem op_same {v c : Int} : opR 15 v 61 c := by unfold opR; omega
theorem op_abo {v c : Int} : opR 16 v 62 c := by unfold opR; omega
theorem op_not {v c : Int} : opR 17 v 110 c := by unfold opR; omega
theorem op_and {v c : Int} : opR 18 v 109 c := by unfold opR; omega
theorem op_or {v c : Int} : opR 19 v 108 c := by unfold opR; omega
theorem i32_0 : I32 0 := by unfold I32; omega
theorem unit_rel {tp : Nat → Int} {L T : Nat} (O : TkOk tp L T) {k s : Nat} {gX gM : AG} (R : PRel tp L T k s gX gM) (hs : s ≤ k) : ∃ rX rM, Parser_readUnit gX = some (0, rX) ∧ M_unit gM = some rM ∧ ((rM.1 = 1 ∧ ∃ k' s', Acc tp L T (EvN 1) k s gX gM k' s' rX rM.2) ∨ PBad tp L T gX gM rX rM) := by
  obtain ⟨x, m, v, tk, hx, hm, nx, nm, hv, z1, z2, pl⟩ := R.see O
  have hT := O.T500
  have a2 := R.2.1
  have a3 := R.2.2.1
  have a4 := R.2.2.2.1
  have a7 := R.2.2.2.2.2.2.1
  have a8 := R.2.2.2.2.2.2.2.1
  have a9 := R.2.2.2.2.2.2.2.2.1
  have rg := tk_rng tk
  have kT : x ≠ 0 → k < T := fun h => Nat.lt_of_le_of_ne a9 (fun y => h (z2 y))
  have iv : I32 (gM 117 41) := by unfold I32; ((try clear nk); (try clear ik); (try clear headX); (try clear headM); (try clear wM); (try clear wX); (try clear both); omega)
  have nk : nw (k : Int) = k := nwN k (by ((try clear nk); (try clear ik); (try clear headX); (try clear headM); (try clear wM); (try clear wX); (try clear both); omega))
  have ik : ix (k : Int) = k := ixN k (by ((try clear nk); (try clear ik); (try clear headX); (try clear headM); (try clear wM); (try clear wX); (try clear both); omega))
  have headX : Parser_readUnit gX = (if x < 1000 then (if nw (X_within x 111 119) = 0 then (Parser_fail 1 gX >>= fun r5 => some (0, r5.2)) else (Rules_put 3 (x - 111) gX >>= fun r7 => Parser_readUnit_b r7.2)) else (Rules_put 2 (x - 1000) gX >>= fun r9 => Parser_readUnit_b r9.2)) := by
    unfold Parser_readUnit
    rw [a3, nw_0, if_pos rfl, a2, nk, ik, if_pos (by ((try clear nk); (try clear ik); (try clear headX); (try clear headM); (try clear wM); (try clear wX); (try clear both); omega)), hx, nx]
  have headM : M_unit gM = (if m = 2 then M_unit_b (M_isIn m 41 49) gM else if nw (M_isIn m 41 49) = 0 then (M_bad 1 gM >>= fun r3 => if r3.1 = 0 ∨ r3.1 = 1 then some (r3.1, r3.2) else none) else M_unit_b (M_isIn m 41 49) gM) := by
    unfold M_unit
    rw [hm, nm]
  have wM : (nw (M_isIn m 41 49) = 0) = (m < 41 ∨ 49 < m) := isIn0 (by ((try clear nk); (try clear ik); (try clear headX); (try clear headM); (try clear wM); (try clear wX); (try clear both); omega)) (by ((try clear nk); (try clear ik); (try clear headX); (try clear headM); (try clear wM); (try clear wX); (try clear both); omega)) (by decide) (by decide) (by decide) (by decide)
  have wX : (nw (X_within x 111 119) = 0) = (x < 111 ∨ 119 < x) := within0 (by ((try clear nk); (try clear ik); (try clear headX); (try clear headM); (try clear wM); (try clear wX); (try clear both); omega)) (by ((try clear nk); (try clear ik); (try clear headX); (try clear headM); (try clear wM); (try clear wX); (try clear both); omega)) (by decide) (by decide) (by decide) (by decide)
  -- a step is laid, then a token on
  have both : ∀ c w y : Int, k < T → opR c (gM 117 41) w y → 0 ≤ c ∧ c < 10 → (some (if nw (M_isIn m 41 49) = 0 then 0 else m - 40) : Option Int) = some c → ∃ rX rM, (Rules_put w y gX >>= fun r9 => Parser_readUnit_b r9.2) = some (0, rX) ∧ M_unit_b (M_isIn m 41 49) gM = some rM ∧ ((rM.1 = 1 ∧ ∃ k' s', Acc tp L T (EvN 1) k s gX gM k' s' rX rM.2) ∨ PBad tp L T gX gM rX rM) := by
    intro c w y hk ho hc ec
    have R1 := R.lay (s := s) (by ((try clear nk); (try clear ik); (try clear headX); (try clear headM); (try clear wM); (try clear wX); (try clear both); omega)) ho iv
    obtain ⟨gM', e1, e2, R2, f2⟩ := R1.nx O hk
    have c141 : gM' 141 = layM gM s c (gM 117 41) 141 := f2.cell (fun _ => rfl)
    refine ⟨up (putX gX s w y) 4 6 ((k : Int) + 1), (1, gM'), ?_, ?_, Or.inl ⟨rfl, k + 1, s + 1, Fr.up (FR.mo putX_fr rfl) rfl, (FR.mo layM_fr rfl).tr (FR.mo f2 rfl), ?_, fun j hj => ?_, R2, by ((try clear nk); (try clear ik); (try clear headX); (try clear headM); (try clear wM); (try clear wX); (try clear both); omega), by ((try clear nk); (try clear ik); (try clear headX); (try clear headM); (try clear wM); (try clear wX); (try clear both); omega), by ((try clear nk); (try clear ik); (try clear headX); (try clear headM); (try clear wM); (try clear wX); (try clear both); omega), ?_⟩⟩
    · rw [put_s a4 (by ((try clear nk); (try clear ik); (try clear headX); (try clear headM); (try clear wM); (try clear wX); (try clear both); omega)), sb]
      unfold Parser_readUnit_b
      rw [e1, sb]
    · unfold M_unit_b
      rw [hm, ec, sb, lay_s a8 (by ((try clear nk); (try clear ik); (try clear headX); (try clear headM); (try clear wM); (try clear wX); (try clear both); omega)), sb, e2, sb]
    · dsimp only
      rw [f2 117 45 rfl, layM_fr (g := gM) 117 45 rfl]
    · dsimp only
      rw [c141]; exact layM_lo hj
    · dsimp only
      rw [c141]
      exact EvN.put (by rw [(layM_at).1]; exact hc)
  by_cases c1 : 1000 ≤ x
  · have m2 := (tk_num tk).mp c1
    have vv := tk_val tk m2
    obtain ⟨rX, rM, e1, e2, r⟩ := both 0 2 (x - 1000) (kT (by ((try clear nk); (try clear ik); (try clear headX); (try clear headM); (try clear wM); (try clear wX); (try clear both); omega))) (by rw [hv m2, vv.1]; exact op_num (by ((try clear nk); (try clear ik); (try clear headX); (try clear headM); (try clear wM); (try clear wX); (try clear both); omega)) (by ((try clear nk); (try clear ik); (try clear headX); (try clear headM); (try clear wM); (try clear wX); (try clear both); omega))) (by ((try clear nk); (try clear ik); (try clear headX); (try clear headM); (try clear wM); (try clear wX); (try clear both); omega)) (by rw [if_pos (by rw [wM]; ((try clear nk); (try clear ik); (try clear headX); (try clear headM); (try clear wM); (try clear wX); (try clear both); omega))])
    refine ⟨rX, rM, ?_, ?_, r⟩
    · rw [headX, if_neg (by ((try clear nk); (try clear ik); (try clear headX); (try clear headM); (try clear wM); (try clear wX); (try clear both); omega))]; exact e1
    · rw [headM, if_pos m2]; exact e2
  · have m2 : m ≠ 2 := fun q => c1 ((tk_num tk).mpr q)
    by_cases c2 : 111 ≤ x ∧ x ≤ 119
    · have mn := (tk_nam tk).mp c2
      have mv := tk_nam2 tk mn
      obtain ⟨rX, rM, e1, e2, r⟩ := both (m - 40) 3 (x - 111) (kT (by ((try clear nk); (try clear ik); (try clear headX); (try clear headM); (try clear wM); (try clear wX); (try clear both); omega))) (by rw [show x - 111 = m - 40 - 1 by ((try clear nk); (try clear ik); (try clear headX); (try clear headM); (try clear wM); (try clear wX); (try clear both); omega)]; exact op_nam (by ((try clear nk); (try clear ik); (try clear headX); (try clear headM); (try clear wM); (try clear wX); (try clear both); omega)) (by ((try clear nk); (try clear ik); (try clear headX); (try clear headM); (try clear wM); (try clear wX); (try clear both); omega))) (by ((try clear nk); (try clear ik); (try clear headX); (try clear headM); (try clear wM); (try clear wX); (try clear both); omega)) (by rw [if_neg (by rw [wM]; ((try clear nk); (try clear ik); (try clear headX); (try clear headM); (try clear wM); (try clear wX); (try clear both); omega))])
      refine ⟨rX, rM, ?_, ?_, r⟩
      · rw [headX, if_pos (by ((try clear nk); (try clear ik); (try clear headX); (try clear headM); (try clear wM); (try clear wX); (try clear both); omega)), if_neg (by rw [wX]; ((try clear nk); (try clear ik); (try clear headX); (try clear headM); (try clear wM); (try clear wX); (try clear both); omega))]; exact e1
      · rw [headM, if_neg m2, if_neg (by rw [wM]; ((try clear nk); (try clear ik); (try clear headX); (try clear headM); (try clear wM); (try clear wX); (try clear both); omega))]; exact e2
    · have mn : ¬ (41 ≤ m ∧ m ≤ 49) := fun q => c2 ((tk_nam tk).mpr q)
      obtain ⟨e1, e2, B⟩ := (Acc.start (E := EvT) R trivial).bad O (w := 1) (by ((try clear nk); (try clear ik); (try clear headX); (try clear headM); (try clear wM); (try clear wX); (try clear both); omega)) (by ((try clear nk); (try clear ik); (try clear headX); (try clear headM); (try clear wM); (try clear wX); (try clear both); omega))
      refine ⟨_, _, ?_, ?_, Or.inr B⟩
      · rw [headX, if_pos (by ((try clear nk); (try clear ik); (try clear headX); (try clear headM); (try clear wM); (try clear wX); (try clear both); omega)), if_pos (by rw [wX]; ((try clear nk); (try clear ik); (try clear headX); (try clear headM); (try clear wM); (try clear wX); (try clear both); omega)), e1, sb]
      · rw [headM, if_neg m2, if_pos (by rw [wM]; ((try clear nk); (try clear ik); (try clear headX); (try clear headM); (try clear wM); (try clear wX); (try clear both); omega)), e2, sb, if_pos (Or.inl rfl)]
theorem part_rel {tp : Nat → Int} {L T : Nat} (O : TkOk tp L T) {k0 s0 k s : Nat} {X0 M0 gX gM : AG} (A : Acc tp L T (EvN 2) k0 s0 X0 M0 k s gX gM) (h0 : s0 ≤ k0) (hx : s + 1 + k0 ≤ s0 + k) : ∃ rX rM, Parser_readPart gX = some (0, rX) ∧ (M_number 1 9999 gM >>= fun r11 => if nw r11.1 = 0 then some ((0 : Int), r11.2) else (M_lay 13 (gM 117 41) r11.2 >>= fun r14 => some ((1 : Int), r14.2))) = some rM ∧ ((rM.1 = 1 ∧ ∃ k' s', k < k' ∧ Acc tp L T (EvN 2) k0 s0 X0 M0 k' s' rX rM.2) ∨ PBad tp L T X0 M0 rX rM) := by
  have R := A.2.2.2.2.1
  obtain ⟨x, m, v, tk, hxx, hm, nx, nm, hv, z1, z2, pl⟩ := R.see O
  have hT := O.T500
  have a2 := R.2.1
  have a3 := R.2.2.1
  have a9 := R.2.2.2.2.2.2.2.2.1
  have a7 := R.2.2.2.2.2.2.1
  have rg := tk_rng tk
  have kT : x ≠ 0 → k < T := fun h => Nat.lt_of_le_of_ne a9 (fun y => h (z2 y))
  have iv : I32 (gM 117 41) := by unfold I32; ((try clear nk); (try clear ik); (try clear nx1); (try clear headM); (try clear wM); omega)
  have nk : nw (k : Int) = k := nwN k (by ((try clear nk); (try clear ik); (try clear nx1); (try clear headM); (try clear wM); omega))
  have ik : ix (k : Int) = k := ixN k (by ((try clear nk); (try clear ik); (try clear nx1); (try clear headM); (try clear wM); omega))
  have nx1 : nw (x - 1000) = x - 1000 := nw_id (by ((try clear nk); (try clear ik); (try clear nx1); (try clear headM); (try clear wM); omega)) (by ((try clear nk); (try clear ik); (try clear nx1); (try clear headM); (try clear wM); omega))
  have headX : Parser_readPart gX = ((((if 0 ≤ x - 1000 then (if x - 1000 = 0 then (Parser_fail 2 gX >>= fun r8 => some r8.2) else (Rules_put 47 (x - 1000) gX >>= fun r4 => (Parser_goOn r4.2 >>= fun r6 => some r6.2))) else (Parser_fail 1 gX >>= fun r10 => some r10.2)) : Option AG)) >>= fun r12 => some (0, r12)) := by
    unfold Parser_readPart
    rw [a2, nk, ik, if_pos (by ((try clear nk); (try clear ik); (try clear nx1); (try clear headM); (try clear wM); omega)), hxx, nx1]
  have headM : M_number 1 9999 gM = (if m = 2 then (if nw (M_isIn (gM 117 41) 1 9999) = 0 then (M_bad 2 gM >>= fun r5 => if r5.1 = 0 ∨ r5.1 = 1 then some (r5.1, r5.2) else none) else (M_next0 gM >>= fun r3 => some (1, r3.2))) else (M_bad 1 gM >>= fun r8 => if r8.1 = 0 ∨ r8.1 = 1 then some (r8.1, r8.2) else none)) := by
    unfold M_number
    rw [hm, nm]
  have wM : (nw (M_isIn (gM 117 41) 1 9999) = 0) = (gM 117 41 < 1 ∨ 9999 < gM 117 41) := isIn0 (by ((try clear nk); (try clear ik); (try clear nx1); (try clear headM); (try clear wM); omega)) (by ((try clear nk); (try clear ik); (try clear nx1); (try clear headM); (try clear wM); omega)) (by decide) (by decide) (by decide) (by decide)
  by_cases c1 : 1000 ≤ x
  · have m2 := (tk_num tk).mp c1
    have vv := tk_val tk m2
    have hv2 := hv m2
    by_cases c2 : x - 1000 = 0
    · obtain ⟨e1, e2, B⟩ := A.bad O (w := 2) (by ((try clear nk); (try clear ik); (try clear nx1); (try clear headM); (try clear wM); omega)) (by ((try clear nk); (try clear ik); (try clear nx1); (try clear headM); (try clear wM); omega))
      refine ⟨_, _, ?_, ?_, Or.inr B⟩
      · rw [headX, if_pos (by ((try clear nk); (try clear ik); (try clear nx1); (try clear headM); (try clear wM); omega)), if_pos c2, e1, sb, sb]
      · rw [headM, if_pos m2, if_pos (by rw [wM]; ((try clear nk); (try clear ik); (try clear nx1); (try clear headM); (try clear wM); omega)), e2, sb, if_pos (Or.inl rfl), sb, nw_0, if_pos rfl]
    · have hk : k < T := kT (by ((try clear nk); (try clear ik); (try clear nx1); (try clear headM); (try clear wM); omega))
      have ho : opR 13 (gM 117 41) 47 (x - 1000) := by rw [hv2, vv.1]; exact op_part (by ((try clear nk); (try clear ik); (try clear nx1); (try clear headM); (try clear wM); omega)) (by ((try clear nk); (try clear ik); (try clear nx1); (try clear headM); (try clear wM); omega))
      obtain ⟨gM', e1, e2, A1, f1⟩ := A.nx O hk
      obtain ⟨p1, p2, A2⟩ := A1.op1 (E3 := EvN 2) (stbN 2) (c := 13) (v := gM 117 41) (w := 47) (x := x - 1000) ho iv h0 (by ((try clear nk); (try clear ik); (try clear nx1); (try clear headM); (try clear wM); omega)) (fun cd a b => EvN.part (by ((try clear nk); (try clear ik); (try clear nx1); (try clear headM); (try clear wM); omega)) a A.2.2.2.2.2.2.1 b) hT
      have a4 := R.2.2.2.1
      have s5 : s < 500 := by have := A.le h0; ((try clear nk); (try clear ik); (try clear nx1); (try clear headM); (try clear wM); omega)
      have g5 : (putX gX s 47 (x - 1000)) 4 5 = T + 1 := by rw [putX_fr (g := gX) 4 5 rfl]; exact R.1.1
      have g6 : (putX gX s 47 (x - 1000)) 4 6 = k := by rw [putX_fr (g := gX) 4 6 rfl]; exact a2
      refine ⟨_, (1, layM gM' s 13 (gM 117 41)), ?_, ?_, Or.inl ⟨rfl, k + 1, s + 1, by ((try clear nk); (try clear ik); (try clear nx1); (try clear headM); (try clear wM); omega), A2⟩⟩
      · rw [headX, if_pos (by ((try clear nk); (try clear ik); (try clear nx1); (try clear headM); (try clear wM); omega)), if_neg c2, put_s a4 s5, sb, goOn_s g5 g6 hk hT, sb, sb, put_goOn]
      · rw [headM, if_pos m2, if_neg (by rw [wM]; ((try clear nk); (try clear ik); (try clear nx1); (try clear headM); (try clear wM); omega)), e2, sb, sb, nw_1, if_neg (by decide), p2, sb]
  · have m2 : m ≠ 2 := fun q => c1 ((tk_num tk).mpr q)
    obtain ⟨e1, e2, B⟩ := A.bad O (w := 1) (by ((try clear nk); (try clear ik); (try clear nx1); (try clear headM); (try clear wM); omega)) (by ((try clear nk); (try clear ik); (try clear nx1); (try clear headM); (try clear wM); omega))
    refine ⟨_, _, ?_, ?_, Or.inr B⟩
    · rw [headX, if_neg (by ((try clear nk); (try clear ik); (try clear nx1); (try clear headM); (try clear wM); omega)), e1, sb, sb]
    · rw [headM, if_neg m2, e2, sb, if_pos (Or.inl rfl), sb, nw_0, if_pos rfl]
end
section
/-! plain programs: products and sums, both sides -/
def POut (tp : Nat → Int) (L T : Nat) (E : (Nat → Int) → Nat → Nat → Prop) (k0 s0 : Nat) (X0 M0 rX : AG) (rM : Int × AG) : Prop := (rM.1 = 1 ∧ ∃ k' s', Acc tp L T E k0 s0 X0 M0 k' s' rX rM.2) ∨ PBad tp L T X0 M0 rX rM
theorem PBad.x {tp : Nat → Int} {L T : Nat} {X0 M0 rX : AG} {rM : Int × AG} (B : PBad tp L T X0 M0 rX rM) : ∃ w p, XF tp L T w p rX ∧ ∀ g', XF tp L T w p g' → FR RPP rX g' → PBad tp L T X0 M0 g' (0, rM.2) := by
  obtain ⟨b1, b2, b3, w, p, F, h1, h2⟩ := B
  exact ⟨w, p, F, fun g' F' f => ⟨rfl, b2.tr (FR.mo f rfl), b3, w, p, F', h1, h2⟩⟩
theorem bindM {A : Option (Int × AG)} {f : AG → Option (Int × AG)} {rM : Int × AG} (h : (A >>= fun r11 => if nw r11.1 = 0 then some ((0 : Int), r11.2) else (f r11.2 >>= fun r14 => some ((1 : Int), r14.2))) = some rM) (G : AG → Option (Int × AG)) : (A >>= fun r11 => if nw r11.1 = 0 then some ((0 : Int), r11.2) else (f r11.2 >>= fun r14 => G r14.2)) = if rM.1 = 1 then G rM.2 else some (0, rM.2) := by
  cases A with
  | none => cases h
  | some r =>
    rw [sb] at h ⊢
    by_cases e : nw r.1 = 0
    · rw [if_pos e] at h ⊢
      have e2 := Option.some.inj h
      rw [← e2]
      dsimp only
      rw [if_neg (by decide)]
    · rw [if_neg e] at h ⊢
      cases hf : f r.2 with
      | none => rw [hf] at h; cases h
      | some r2 =>
        rw [hf, sb] at h
        have e2 := Option.some.inj h
        rw [sb, ← e2, if_pos rfl]
theorem nwc : nw 3 = 3 ∧ nw 4 = 4 ∧ nw 5 = 5 ∧ nw 6 = 6 ∧ nw 7 = 7 ∧ nw 8 = 8 ∧ nw 40 = 40 ∧ nw 41 = 41 ∧ nw 42 = 42 ∧ nw 43 = 43 ∧ nw 45 = 45 ∧ nw 47 = 47 ∧ nw 59 = 59 ∧ nw 60 = 60 ∧ nw 61 = 61 ∧ nw 62 = 62 := by decide +kernel
theorem nwd : nw 105 = 105 ∧ nw 106 = 106 ∧ nw 107 = 107 ∧ nw 108 = 108 ∧ nw 109 = 109 ∧ nw 110 = 110 ∧ nw 141 = 141 ∧ nw 159 = 159 := by decide +kernel
theorem prod_b {tp : Nat → Int} {L T : Nat} (O : TkOk tp L T) {k0 s0 : Nat} {X0 M0 : AG} (h0 : s0 ≤ k0) : ∀ (N k s i : Nat) (gX gM : AG), T - k = N → i ≤ k → Acc tp L T (EvN 2) k0 s0 X0 M0 k s gX gM → ∃ rX rM, Parser_readProduct_b 1 i gX = some (0, rX) ∧ M_product_b 1 gM = some rM ∧ POut tp L T (EvN 2) k0 s0 X0 M0 rX rM := by
  intro N
  induction N using Nat.strongRecOn with
  | ind N ih =>
  intro k s i gX gM hN hi A
  have R := A.2.2.2.2.1
  obtain ⟨x, m, v, tk, hxx, hm, nx, nm, hv, z1, z2, pl⟩ := R.see O
  have hT := O.T500
  have a2 := R.2.1
  have a3 := R.2.2.1
  have a9 := R.2.2.2.2.2.2.2.2.1
  have rg := tk_rng tk
  have kT : x ≠ 0 → k < T := fun h => Nat.lt_of_le_of_ne a9 (fun y => h (z2 y))
  have s8 := A.2.2.2.2.2.2.2.1
  have s7 := A.2.2.2.2.2.2.1
  have sk := A.le h0
  have ni : nw (i : Int) = i := nwN i (by ((try clear ni); (try clear mh); omega))
  have i42 : Parser_is 42 gX = some (if x = 42 then 1 else 0) := is_s a2 a3 (by ((try clear ni); (try clear mh); omega)) hxx nx nwc.2.2.2.2.2.2.2.2.1
  have i47 : Parser_is 47 gX = some (if x = 47 then 1 else 0) := is_s a2 a3 (by ((try clear ni); (try clear mh); omega)) hxx nx nwc.2.2.2.2.2.2.2.2.2.2.2.1
  have m42 : x = 42 ↔ m = 142 := tk_sg tk (by ((try clear ni); (try clear mh); omega)) (by ((try clear ni); (try clear mh); omega))
  have m47 : x = 47 ↔ m = 147 := tk_sg tk (by ((try clear ni); (try clear mh); omega)) (by ((try clear ni); (try clear mh); omega))
  by_cases c1 : x = 42
  · have hk : k < T := kT (by ((try clear ni); (try clear mh); omega))
    obtain ⟨gM1, e1, e2, A1, f1⟩ := A.nx O hk
    obtain ⟨rX1, rM1, u1, u2, ur⟩ := unit_rel O A1.2.2.2.2.1 (by ((try clear ni); (try clear mh); omega))
    have xh : Parser_readProduct_b 1 i gX = (Rules_put 42 0 rX1 >>= fun r10 => Parser_readProduct_b 1 ((i : Int) + 1) r10.2) := by
      rw [Parser_readProduct_b.eq_1 1, if_pos rfl, ni, if_neg (by ((try clear ni); (try clear mh); omega)), i42, if_pos c1, sb, nw_1, if_neg (by decide), Parser_readProduct_b.eq_1 2, if_neg (by decide), if_pos rfl, i42, if_pos c1, sb, e1, sb, nw_1, if_neg (by decide), u1, sb]
      cases Rules_put 42 0 rX1 with
      | none => rfl
      | some r => rfl
    have mh : M_product_b 1 gM = (if nw rM1.1 = 0 then some (0, rM1.2) else (M_lay 12 0 rM1.2 >>= fun r9 => M_product_b 1 r9.2)) := by
      have three : ∀ g : AG, M_product_b 3 g = M_product_b 1 g := fun g => by rw [M_product_b.eq_1 3, if_neg (by decide), if_neg (by decide), if_pos rfl]
      rw [M_product_b.eq_1 1, if_pos rfl, hm, nm, if_pos (m42.mp c1), M_product_b.eq_1 2, if_neg (by decide), if_pos rfl, hm, nm, if_neg (by ((try clear ni); (try clear mh); omega)), sb, e2, sb, nw_0, if_pos rfl, u2, sb]
      by_cases e : nw rM1.1 = 0
      · rw [if_pos e, if_pos e]
      · rw [if_neg e, if_neg e]
        cases M_lay 12 0 rM1.2 with
        | none => rfl
        | some r => rw [sb, sb, three]
    rcases ur with ⟨ok, k', s', B⟩ | bad
    · have bk := B.2.2.2.2.2.1
      have bs := B.2.2.2.2.2.2.1
      obtain ⟨p1, p2, A2⟩ := A1.op B (E3 := EvN 2) (stbN 2) (stbN 1) (c := 12) (v := 0) (w := 42) (x := 0) op_times i32_0 h0 (by ((try clear ni); (try clear mh); omega)) (fun cd a b c => EvN.two a b s7 bs (Or.inr (Or.inr c)) (by ((try clear ni); (try clear mh); omega)) (by ((try clear ni); (try clear mh); omega))) hT
      obtain ⟨rX, rM, e, e', r⟩ := ih (T - k') (by ((try clear ni); (try clear mh); omega)) k' (s' + 1) (i + 1) _ _ rfl (by ((try clear ni); (try clear mh); omega)) A2
      refine ⟨rX, rM, ?_, ?_, r⟩
      · rw [xh, p1, sb]; exact e
      · rw [mh, ok, nw_1, if_neg (by decide), p2, sb]; exact e'
    · obtain ⟨w, p, F, ext⟩ := (A1.pbad bad).x
      obtain ⟨g', e, F', f'⟩ := xf_put F 42 0
      refine ⟨g', (0, rM1.2), ?_, ?_, Or.inr (ext g' F' f')⟩
      · rw [xh, e, sb]; exact xf_product_b F' _
      · rw [mh, bad.1, nw_0, if_pos rfl]
  · by_cases c2 : x = 47
    · have hk : k < T := kT (by ((try clear ni); (try clear mh); omega))
      obtain ⟨gM1, e1, e2, A1, f1⟩ := A.nx O hk
      obtain ⟨rX1, rM1, u1, u2, ur⟩ := part_rel O A1 h0 (by ((try clear ni); (try clear mh); omega))
      have xh : Parser_readProduct_b 1 i gX = Parser_readProduct_b 1 ((i : Int) + 1) rX1 := by
        rw [Parser_readProduct_b.eq_1 1, if_pos rfl, ni, if_neg (by ((try clear ni); (try clear mh); omega)), i42, if_neg c1, sb, nw_0, if_pos rfl, i47, if_pos c2, sb, nw_1, if_neg (by decide), Parser_readProduct_b.eq_1 2, if_neg (by decide), if_pos rfl, i42, if_neg c1, sb, e1, sb, nw_0, if_pos rfl, u1, sb, sb]
      have mh : M_product_b 1 gM = if rM1.1 = 1 then M_product_b 3 rM1.2 else some (0, rM1.2) := by
        rw [M_product_b.eq_1 1, if_pos rfl, hm, nm, if_neg (fun q => c1 (m42.mpr q)), if_pos (m47.mp c2), M_product_b.eq_1 2, if_neg (by decide), if_pos rfl, hm, nm, if_pos (m47.mp c2), sb, e2, sb, nw_1, if_neg (by decide)]
        exact bindM u2 (fun g => M_product_b 3 g)
      rcases ur with ⟨ok, k', s', hk', A2⟩ | bad
      · obtain ⟨rX, rM, e, e', r⟩ := ih (T - k') (by have := A2.2.2.2.2.1.2.2.2.2.2.2.2.2.1; ((try clear ni); (try clear mh); omega)) k' s' (i + 1) _ _ rfl (by ((try clear ni); (try clear mh); omega)) A2
        refine ⟨rX, rM, ?_, ?_, r⟩
        · rw [xh]; exact e
        · rw [mh, if_pos ok, M_product_b.eq_1 3, if_neg (by decide), if_neg (by decide), if_pos rfl]; exact e'
      · obtain ⟨w, p, F, ext⟩ := bad.x
        refine ⟨rX1, (0, rM1.2), ?_, ?_, Or.inr (ext _ F Fr.rf)⟩
        · rw [xh]; exact xf_product_b F _
        · rw [mh, if_neg (by rw [bad.1]; decide)]
    · refine ⟨gX, (1, gM), ?_, ?_, Or.inl ⟨rfl, k, s, A⟩⟩
      · rw [Parser_readProduct_b.eq_1 1, if_pos rfl, i42, if_neg c1, sb, nw_0, if_pos rfl, i47, if_neg c2, sb, nw_0, if_pos rfl]
        by_cases y : 500 ≤ nw (i : Int)
        · rw [if_pos y]
        · rw [if_neg y]
      · rw [M_product_b.eq_1 1, if_pos rfl, hm, nm, if_neg (fun q => c1 (m42.mpr q)), if_neg (fun q => c2 (m47.mpr q))]
theorem prod_rel {tp : Nat → Int} {L T : Nat} (O : TkOk tp L T) {k s : Nat} {gX gM : AG} (R : PRel tp L T k s gX gM) (hs : s ≤ k) : ∃ rX rM, Parser_readProduct gX = some (0, rX) ∧ M_product gM = some rM ∧ POut tp L T (EvN 2) k s gX gM rX rM := by
  obtain ⟨rX1, rM1, u1, u2, ur⟩ := unit_rel O R hs
  rcases ur with ⟨ok, k', s', B⟩ | bad
  · obtain ⟨rX, rM, e, e', r⟩ := prod_b O hs (T - k') k' s' 0 rX1 rM1.2 rfl (by omega) (B.to (fun q => q.mono (by omega)))
    refine ⟨rX, rM, ?_, ?_, r⟩
    · unfold Parser_readProduct
      rw [u1, sb]
      exact e
    · unfold M_product
      rw [u2, sb, ok, nw_1, if_neg (by decide)]
      exact e'
  · obtain ⟨w, p, F, ext⟩ := bad.x
    refine ⟨rX1, (0, rM1.2), ?_, ?_, Or.inr (ext _ F Fr.rf)⟩
    · unfold Parser_readProduct
      rw [u1, sb]
      exact xf_product_b F _
    · unfold M_product
      rw [u2, sb, bad.1, nw_0, if_pos rfl]
theorem sum_b {tp : Nat → Int} {L T : Nat} (O : TkOk tp L T) {k0 s0 : Nat} {X0 M0 : AG} (h0 : s0 ≤ k0) : ∀ (N k s i : Nat) (gX gM : AG), T - k = N → i ≤ k → Acc tp L T (EvN 3) k0 s0 X0 M0 k s gX gM → ∃ rX rM, Parser_readSum_b 1 i gX = some (0, rX) ∧ M_sumUp_b 1 gM = some rM ∧ POut tp L T (EvN 3) k0 s0 X0 M0 rX rM := by
  intro N
  induction N using Nat.strongRecOn with
  | ind N ih =>
  intro k s i gX gM hN hi A
  have R := A.2.2.2.2.1
  obtain ⟨x, m, v, tk, hxx, hm, nx, nm, hv, z1, z2, pl⟩ := R.see O
  have hT := O.T500
  have a2 := R.2.1
  have a3 := R.2.2.1
  have a9 := R.2.2.2.2.2.2.2.2.1
  have rg := tk_rng tk
  have kT : x ≠ 0 → k < T := fun h => Nat.lt_of_le_of_ne a9 (fun y => h (z2 y))
  have s8 := A.2.2.2.2.2.2.2.1
  have s7 := A.2.2.2.2.2.2.1
  have sk := A.le h0
  have ni : nw (i : Int) = i := nwN i (by ((try clear ni); (try clear nk); (try clear ik); (try clear m2); (try clear mh); omega))
  have nk : nw (k : Int) = k := nwN k (by ((try clear ni); (try clear nk); (try clear ik); (try clear m2); (try clear mh); omega))
  have ik : ix (k : Int) = k := ixN k (by ((try clear ni); (try clear nk); (try clear ik); (try clear m2); (try clear mh); omega))
  have i43 : Parser_is 43 gX = some (if x = 43 then 1 else 0) := is_s a2 a3 (by ((try clear ni); (try clear nk); (try clear ik); (try clear m2); (try clear mh); omega)) hxx nx nwc.2.2.2.2.2.2.2.2.2.1
  have i45 : Parser_is 45 gX = some (if x = 45 then 1 else 0) := is_s a2 a3 (by ((try clear ni); (try clear nk); (try clear ik); (try clear m2); (try clear mh); omega)) hxx nx nwc.2.2.2.2.2.2.2.2.2.2.1
  have m43 : x = 43 ↔ m = 143 := tk_sg tk (by ((try clear ni); (try clear nk); (try clear ik); (try clear m2); (try clear mh); omega)) (by ((try clear ni); (try clear nk); (try clear ik); (try clear m2); (try clear mh); omega))
  have m45 : x = 45 ↔ m = 145 := tk_sg tk (by ((try clear ni); (try clear nk); (try clear ik); (try clear m2); (try clear mh); omega)) (by ((try clear ni); (try clear nk); (try clear ik); (try clear m2); (try clear mh); omega))
  by_cases c : x = 43 ∨ x = 45
  · have hk : k < T := kT (by ((try clear ni); (try clear nk); (try clear ik); (try clear m2); (try clear mh); omega))
    obtain ⟨gM1, e1, e2, A1, f1⟩ := A.nx O hk
    obtain ⟨rX1, rM1, u1, u2, ur⟩ := prod_rel O A1.2.2.2.2.1 (by ((try clear ni); (try clear nk); (try clear ik); (try clear m2); (try clear mh); omega))
    have x2 : Parser_readSum_b 2 i gX = (Rules_put x 0 rX1 >>= fun r6 => Parser_readSum_b 1 ((i : Int) + 1) r6.2) := by
      rw [Parser_readSum_b.eq_1 2, if_neg (by decide), if_pos rfl, a2, nk, ik, if_pos (by ((try clear ni); (try clear nk); (try clear ik); (try clear m2); (try clear mh); omega)), hxx, e1, sb, u1, sb]
    have xh : Parser_readSum_b 1 i gX = (Rules_put x 0 rX1 >>= fun r6 => Parser_readSum_b 1 ((i : Int) + 1) r6.2) := by
      rw [Parser_readSum_b.eq_1 1, if_pos rfl, ni, if_neg (by ((try clear ni); (try clear nk); (try clear ik); (try clear m2); (try clear mh); omega)), i43, sb, i45, sb, x2]
      by_cases c1 : x = 43
      · rw [if_pos c1, nw_1, if_neg (by decide)]
      · rw [if_neg c1, nw_0, if_pos rfl, if_pos (show x = 45 by ((try clear ni); (try clear nk); (try clear ik); (try clear m2); (try clear mh); omega)), nw_1, if_neg (by decide)]
    obtain ⟨cc, hcc⟩ : ∃ cc : Int, cc = if m = 143 then 10 else 11 := ⟨_, rfl⟩
    have m2 : M_sumUp_b 2 gM = (if nw rM1.1 = 0 then some (0, rM1.2) else (M_lay cc 0 rM1.2 >>= fun r8 => M_sumUp_b 1 r8.2)) := by
      rw [M_sumUp_b.eq_1 2, if_neg (by decide), if_pos rfl, hm, nm, sb, e2, sb, u2, sb, ← hcc]
    have mh : M_sumUp_b 1 gM = (if nw rM1.1 = 0 then some (0, rM1.2) else (M_lay cc 0 rM1.2 >>= fun r8 => M_sumUp_b 1 r8.2)) := by
      rw [M_sumUp_b.eq_1 1, if_pos rfl, hm, nm, m2]
      by_cases c1 : m = 143
      · rw [if_pos c1]
      · rw [if_neg c1, if_pos (m45.mp (by rcases c with c | c; exact absurd (m43.mp c) c1; exact c))]
    have ho : opR cc 0 x 0 ∧ (cc = 10 ∨ cc = 11 ∨ cc = 12) := by
      rcases c with c | c
      · rw [hcc, if_pos (m43.mp c), c]; exact ⟨op_add, Or.inl rfl⟩
      · have e := m45.mp c
        rw [hcc, if_neg (by ((try clear ni); (try clear nk); (try clear ik); (try clear m2); (try clear mh); omega)), c]; exact ⟨op_less, Or.inr (Or.inl rfl)⟩
    rcases ur with ⟨ok, k', s', B⟩ | bad
    · have bk := B.2.2.2.2.2.1
      have bs := B.2.2.2.2.2.2.1
      obtain ⟨p1, p2, A2⟩ := A1.op B (E3 := EvN 3) (stbN 3) (stbN 2) (c := cc) (v := 0) (w := x) (x := 0) ho.1 i32_0 h0 (by ((try clear ni); (try clear nk); (try clear ik); (try clear m2); (try clear mh); omega)) (fun cd a b c => EvN.two a b s7 bs (by rw [c]; exact ho.2) (by ((try clear ni); (try clear nk); (try clear ik); (try clear m2); (try clear mh); omega)) (by ((try clear ni); (try clear nk); (try clear ik); (try clear m2); (try clear mh); omega))) hT
      obtain ⟨rX, rM, e, e', r⟩ := ih (T - k') (by ((try clear ni); (try clear nk); (try clear ik); (try clear m2); (try clear mh); omega)) k' (s' + 1) (i + 1) _ _ rfl (by ((try clear ni); (try clear nk); (try clear ik); (try clear m2); (try clear mh); omega)) A2
      refine ⟨rX, rM, ?_, ?_, r⟩
      · rw [xh, p1, sb]; exact e
      · rw [mh, ok, nw_1, if_neg (by decide), p2, sb]; exact e'
    · obtain ⟨w, p, F, ext⟩ := (A1.pbad bad).x
      obtain ⟨g', e, F', f'⟩ := xf_put F x 0
      refine ⟨g', (0, rM1.2), ?_, ?_, Or.inr (ext g' F' f')⟩
      · rw [xh, e, sb]; exact xf_sum_b F' _
      · rw [mh, bad.1, nw_0, if_pos rfl]
  · refine ⟨gX, (1, gM), ?_, ?_, Or.inl ⟨rfl, k, s, A⟩⟩
    · rw [Parser_readSum_b.eq_1 1, if_pos rfl, i43, if_neg (show ¬ x = 43 by ((try clear ni); (try clear nk); (try clear ik); (try clear m2); (try clear mh); omega)), sb, nw_0, if_pos rfl, i45, if_neg (show ¬ x = 45 by ((try clear ni); (try clear nk); (try clear ik); (try clear m2); (try clear mh); omega)), sb, nw_0, if_pos rfl]
      by_cases y : 500 ≤ nw (i : Int)
      · rw [if_pos y]
      · rw [if_neg y]
    · rw [M_sumUp_b.eq_1 1, if_pos rfl, hm, nm, if_neg (fun q => c (Or.inl (m43.mpr q))), if_neg (fun q => c (Or.inr (m45.mpr q)))]
theorem sum_rel {tp : Nat → Int} {L T : Nat} (O : TkOk tp L T) {k s : Nat} {gX gM : AG} (R : PRel tp L T k s gX gM) (hs : s ≤ k) : ∃ rX rM, Parser_readSum gX = some (0, rX) ∧ M_sumUp gM = some rM ∧ POut tp L T (EvN 3) k s gX gM rX rM := by
  obtain ⟨rX1, rM1, u1, u2, ur⟩ := prod_rel O R hs
  rcases ur with ⟨ok, k', s', B⟩ | bad
  · obtain ⟨rX, rM, e, e', r⟩ := sum_b O hs (T - k') k' s' 0 rX1 rM1.2 rfl (by omega) (B.to (fun q => q.mono (by omega)))
    refine ⟨rX, rM, ?_, ?_, r⟩
    · unfold Parser_readSum
      rw [u1, sb]
      exact e
    · unfold M_sumUp
      rw [u2, sb, ok, nw_1, if_neg (by decide)]
      exact e'
  · obtain ⟨w, p, F, ext⟩ := bad.x
    refine ⟨rX1, (0, rM1.2), ?_, ?_, Or.inr (ext _ F Fr.rf)⟩
    · unfold Parser_readSum
      rw [u1, sb]
      exact xf_sum_b F _
    · unfold M_sumUp
      rw [u2, sb, bad.1, nw_0, if_pos rfl]
end
section
/-! plain programs: B, A and C, both sides -/
theorem PRel.dep {tp : Nat → Int} {L T k s : Nat} {gX gM : AG} (R : PRel tp L T k s gX gM) (v : Int) : PRel tp L T k s gX (up gM 117 45 v) := by
  obtain ⟨a1, a2, a3, a4, a5, a6, a7, a8, a9, a10, a11, a12⟩ := R
  have f : FR [(117, 46)] gM (up gM 117 45 v) := Fr.up Fr.rf rfl
  refine ⟨a1, a2, a3, a4, a5.fr f rfl, a6.fr f rfl, by rw [f 117 41 rfl]; exact a7, by rw [f 117 36 rfl]; exact a8, a9, a10, fun j hj => ?_, fun j hj => ?_, a12.2.1, by rw [f 117 42 rfl]; exact a12.2.2⟩
  · rw [f 141 _ rfl, f 141 _ rfl]; exact a11 j hj
  · rw [f 141 _ rfl]; exact a12.1 j hj
/-- behind a ( or a not, taken back -/
theorem Acc.opened {tp : Nat → Int} {L T : Nat} {E : (Nat → Int) → Nat → Nat → Prop} {k s k' s' : Nat} {gX gM gM1 gX' gM' : AG} {d : Int} (B : Acc tp L T E (k + 1) s (up gX 4 6 ((k : Int) + 1)) gM1 k' s' gX' gM') (f1 : FR [(117, 39), (117, 40), (117, 41), (117, 42), (117, 46)] gM gM1) (hd : gM 117 45 = d) : Acc tp L T E k s gX gM k' s' gX' (up gM' 117 45 d) ∧ s' + 1 + k ≤ s + k' := by
  obtain ⟨b1, b2, b3, b4, b5, b6, b7, b8, b9⟩ := B
  have f : FR [(117, 46)] gM' (up gM' 117 45 d) := Fr.up Fr.rf rfl
  have c : (up gM' 117 45 d) 141 = gM' 141 := f.cell (fun _ => rfl)
  have c1 : gM1 141 = gM 141 := f1.cell (fun _ => rfl)
  refine ⟨⟨(Fr.up (W := inR RPX) Fr.rf rfl).tr b1, ((FR.mo f1 rfl).tr b2).tr (FR.mo f rfl), by rw [up_at, if_pos ⟨rfl, rfl⟩, hd], fun j hj => ?_, b5.dep d, by omega, b7, by omega, ?_⟩, by omega⟩
  · rw [c, b4 j hj, c1]
  · rw [c]; exact b9
theorem opens_s {g : AG} {d : Nat} (h : g 117 45 = d) (hd : d < 8) : M_opens g = (M_next0 (up g 117 45 ((d : Int) + 1)) >>= fun r4 => some (1, r4.2)) := by
  unfold M_opens
  rw [h, nwN d (by omega), if_neg (by omega), sb]
theorem opens_8 {g : AG} (h : g 117 45 = 8) : M_opens g = some (0, badM g 3) := by
  unfold M_opens
  rw [h, nwc.2.2.2.2.2.1, if_pos rfl, bad_s, sb, if_pos (Or.inl rfl)]
theorem openX_s {g : AG} {d : Nat} (hd : d < 8) : Parser_openOneMore d g = (Parser_goOn g >>= fun r => some (0, r.2)) := by
  unfold Parser_openOneMore
  rw [nwN d (by omega), if_pos (by omega)]
  cases Parser_goOn g with
  | none => rfl
  | some r => rfl
theorem openX_8 {g : AG} : Parser_openOneMore 8 g = (Parser_fail 3 g >>= fun r => some (0, r.2)) := by
  unfold Parser_openOneMore
  rw [nwc.2.2.2.2.2.1, if_neg (by decide)]
  cases Parser_fail 3 g with
  | none => rfl
  | some r => rfl
def nots (sx : Nat) : Nat → AG → AG
  | 0, g => g
  | n + 1, g => putX (nots sx n g) (sx + n) 110 0
theorem nots_sh (sx : Nat) (g : AG) : ∀ n : Nat, nots (sx + 1) n (putX g sx 110 0) = nots sx (n + 1) g
  | 0 => rfl
  | n + 1 => by
    show putX (nots (sx + 1) n (putX g sx 110 0)) (sx + 1 + n) 110 0 = putX (nots sx (n + 1) g) (sx + (n + 1)) 110 0
    rw [nots_sh sx g n, show sx + 1 + n = sx + (n + 1) by omega]
theorem nots_s {rec : Int → AG → Option (Int × AG)} {a : Int} : ∀ (n i sx : Nat) (g : AG), i + n ≤ 100 → g 3 2 = sx → sx + n ≤ 500 → Parser_readOne_b rec a 3 ((i + n : Nat) : Int) i g = some (0, nots sx n g) := by
  intro n
  induction n with
  | zero =>
    intro i sx g h h2 h3
    rw [Parser_readOne_b, if_neg (by decide), if_neg (by decide), if_pos rfl, Nat.add_zero, if_pos (Int.le_refl _)]
    rfl
  | succ n ih =>
    intro i sx g h h2 h3
    have p := put_s (w := 110) (x := 0) h2 (by omega)
    have e := ih (i + 1) (sx + 1) (putX g sx 110 0) (by omega) (by unfold putX; rw [up_at, if_pos ⟨rfl, rfl⟩]; rfl) (by omega)
    rw [nots_sh] at e
    rw [Parser_readOne_b, if_neg (by decide), if_neg (by decide), if_pos rfl, nwN (i + (n + 1)) (by omega), nwN i (by omega), if_neg (by omega), p, sb, show i + (n + 1) = i + 1 + n by omega]
    exact e
theorem need_rel {tp : Nat → Int} {L T : Nat} (O : TkOk tp L T) {E : (Nat → Int) → Nat → Nat → Prop} {k0 s0 k s : Nat} {X0 M0 gX gM : AG} (A : Acc tp L T E k0 s0 X0 M0 k s gX gM) {c c' : Int} (hc : 40 ≤ c) (hc2 : c ≤ 62) (e : c' = c + 100) : ∃ rX rM, Parser_demand c gX = some (0, rX) ∧ M_need c' gM = some rM ∧ POut tp L T E k0 s0 X0 M0 rX rM := by
  have R := A.2.2.2.2.1
  obtain ⟨x, m, v, tk, hxx, hm, nx, nm, hv, z1, z2, pl⟩ := R.see O
  have hT := O.T500
  have a2 := R.2.1
  have a3 := R.2.2.1
  have a9 := R.2.2.2.2.2.2.2.2.1
  have kT : x ≠ 0 → k < T := fun h => Nat.lt_of_le_of_ne a9 (fun y => h (z2 y))
  have hs : x = c ↔ m = c + 100 := tk_sg tk hc hc2
  have nc : nw c = c := nw_id (by ((try clear nc); omega)) (by ((try clear nc); omega))
  have nc' : nw c' = c' := nw_id (by ((try clear nc); omega)) (by ((try clear nc); omega))
  have isc : Parser_is c gX = some (if x = c then 1 else 0) := is_s a2 a3 (by ((try clear nc); omega)) hxx nx nc
  by_cases q : x = c
  · obtain ⟨gM1, e1, e2, A1, f1⟩ := A.nx O (kT (by ((try clear nc); omega)))
    refine ⟨_, (1, gM1), ?_, ?_, Or.inl ⟨rfl, k + 1, s, A1⟩⟩
    · unfold Parser_demand
      rw [isc, if_pos q, sb, nw_1, if_neg (by decide), e1, sb, sb]
    · unfold M_need
      rw [hm, nm, nc', if_pos (by ((try clear nc); omega)), e2, sb]
  · obtain ⟨e1, e2, B⟩ := A.bad O (w := 1) (by ((try clear nc); omega)) (by ((try clear nc); omega))
    refine ⟨_, _, ?_, ?_, Or.inr B⟩
    · unfold Parser_demand
      rw [isc, if_neg q, sb, nw_0, if_pos rfl, e1, sb, sb]
    · unfold M_need
      rw [hm, nm, nc', if_neg (by ((try clear nc); omega)), e2, sb, if_pos (Or.inl rfl)]
def OneS (tp : Nat → Int) (L T d : Nat) : Prop := ∀ (f nX o m k s : Nat) (gX gM : AG), 9 ≤ f + d → 9 ≤ nX + d → o + m = d → PRel tp L T k s gX gM → s ≤ k → gM 117 45 = d →
  (∃ rX rM, Parser_readOne_b (Parser_readEither nX) o 1 d m gX = some (0, rX) ∧ M_one f gM = some rM ∧ PBad tp L T gX gM rX rM) ∨
  (∃ (rX gM' : AG) (j sx k' s' : Nat), Parser_readOne_b (Parser_readEither nX) o 1 d m gX = Parser_readOne_b (Parser_readEither nX) o 3 ((d + j : Nat) : Int) o rX ∧ M_one f gM = some (1, gM') ∧ rX 3 2 = sx ∧ sx + j = s' ∧ d + j ≤ 8 ∧ Acc tp L T (EvB (20 - 2 * d)) k s gX gM k' s' (nots sx j rX) gM')
def AnyS (tp : Nat → Int) (L T d : Nat) : Prop := ∀ (f nX k s : Nat) (gX gM : AG), 9 ≤ f + d → 10 ≤ nX + d → PRel tp L T k s gX gM → s ≤ k → gM 117 45 = d → ∃ rX rM, Parser_readEither nX d gX = some (0, rX) ∧ M_any (M_one f) gM = some rM ∧ POut tp L T (EvB (22 - 2 * d)) k s gX gM rX rM
theorem cmp_rel {tp : Nat → Int} {L T : Nat} (O : TkOk tp L T) {k s : Nat} {gX gM : AG} (R : PRel tp L T k s gX gM) (hs : s ≤ k) : ∃ rX rM, (Parser_readSum gX >>= fun r4 => if 0 ≤ nw (r4.2 4 6) ∧ nw (r4.2 4 6) < 501 then (Parser_demandComparing r4.2 >>= fun r7 => (Parser_readSum r7.2 >>= fun r9 => (Rules_put (r4.2 42 (ix (r4.2 4 6))) 0 r9.2 >>= fun r11 => some r11.2))) else none) = some rX ∧ (M_sumUp gM >>= fun r3 => (if nw r3.1 = 0 then some ((0 : Int), r3.2) else (some (if nw (r3.2 117 39) = 160 then (14 : Int) else (if nw (r3.2 117 39) = 161 then 15 else (if nw (r3.2 117 39) = 162 then 16 else -1))) >>= fun t6 => (if nw t6 = -1 then (M_bad 1 r3.2 >>= fun r16 => if r16.1 = 0 ∨ r16.1 = 1 then some (r16.1, r16.2) else none) else (M_next0 r3.2 >>= fun r9 => (M_sumUp r9.2 >>= fun r11 => (if nw r11.1 = 0 then some (0, r11.2) else (M_lay t6 0 r11.2 >>= fun r14 => some (1, r14.2))))))))) = some rM ∧ POut tp L T (EvB 4) k s gX gM rX rM := by
  have hT := O.T500
  obtain ⟨rX1, rM1, u1, u2, ur⟩ := sum_rel O R hs
  rcases ur with ⟨ok, k1, s1, A⟩ | bad
  · have s1k := A.le hs
    have R1 := A.2.2.2.2.1
    have s7 := A.2.2.2.2.2.2.1
    have s8 := A.2.2.2.2.2.2.2.1
    obtain ⟨x, m, v, tk, hxx, hm, nx, nm, hv, z1, z2, pl⟩ := R1.see O
    have a2 := R1.2.1
    have a3 := R1.2.2.1
    have a9 := R1.2.2.2.2.2.2.2.2.1
    have kT : x ≠ 0 → k1 < T := fun h => Nat.lt_of_le_of_ne a9 (fun y => h (z2 y))
    have rg := tk_rng tk
    have m60 : x = 60 ↔ m = 160 := tk_sg tk (by ((try clear nk); (try clear ik); (try clear xh); (try clear tokn); (try clear ex); (try clear mh); (try clear n6); (try clear mh2); omega)) (by ((try clear nk); (try clear ik); (try clear xh); (try clear tokn); (try clear ex); (try clear mh); (try clear n6); (try clear mh2); omega))
    have m61 : x = 61 ↔ m = 161 := tk_sg tk (by ((try clear nk); (try clear ik); (try clear xh); (try clear tokn); (try clear ex); (try clear mh); (try clear n6); (try clear mh2); omega)) (by ((try clear nk); (try clear ik); (try clear xh); (try clear tokn); (try clear ex); (try clear mh); (try clear n6); (try clear mh2); omega))
    have m62 : x = 62 ↔ m = 162 := tk_sg tk (by ((try clear nk); (try clear ik); (try clear xh); (try clear tokn); (try clear ex); (try clear mh); (try clear n6); (try clear mh2); omega)) (by ((try clear nk); (try clear ik); (try clear xh); (try clear tokn); (try clear ex); (try clear mh); (try clear n6); (try clear mh2); omega))
    have nk : nw (k1 : Int) = k1 := nwN k1 (by ((try clear nk); (try clear ik); (try clear xh); (try clear tokn); (try clear ex); (try clear mh); (try clear n6); (try clear mh2); omega))
    have ik : ix (k1 : Int) = k1 := ixN k1 (by ((try clear nk); (try clear ik); (try clear xh); (try clear tokn); (try clear ex); (try clear mh); (try clear n6); (try clear mh2); omega))
    have i60 : Parser_is 60 rX1 = some (if x = 60 then 1 else 0) := is_s a2 a3 (by ((try clear nk); (try clear ik); (try clear xh); (try clear tokn); (try clear ex); (try clear mh); (try clear n6); (try clear mh2); omega)) hxx nx nwc.2.2.2.2.2.2.2.2.2.2.2.2.2.1
    have i61 : Parser_is 61 rX1 = some (if x = 61 then 1 else 0) := is_s a2 a3 (by ((try clear nk); (try clear ik); (try clear xh); (try clear tokn); (try clear ex); (try clear mh); (try clear n6); (try clear mh2); omega)) hxx nx nwc.2.2.2.2.2.2.2.2.2.2.2.2.2.2.1
    have i62 : Parser_is 62 rX1 = some (if x = 62 then 1 else 0) := is_s a2 a3 (by ((try clear nk); (try clear ik); (try clear xh); (try clear tokn); (try clear ex); (try clear mh); (try clear n6); (try clear mh2); omega)) hxx nx nwc.2.2.2.2.2.2.2.2.2.2.2.2.2.2.2
    have xh : (Parser_readSum gX >>= fun r4 => if 0 ≤ nw (r4.2 4 6) ∧ nw (r4.2 4 6) < 501 then (Parser_demandComparing r4.2 >>= fun r7 => (Parser_readSum r7.2 >>= fun r9 => (Rules_put (r4.2 42 (ix (r4.2 4 6))) 0 r9.2 >>= fun r11 => some r11.2))) else none) = (Parser_demandComparing rX1 >>= fun r7 => (Parser_readSum r7.2 >>= fun r9 => (Rules_put x 0 r9.2 >>= fun r11 => some r11.2))) := by
      have tokn : 0 ≤ nw (rX1 4 6) ∧ nw (rX1 4 6) < 501 := by rw [a2, nk]; ((try clear nk); (try clear ik); (try clear xh); (try clear tokn); (try clear ex); (try clear mh); (try clear n6); (try clear mh2); omega)
      have ex : rX1 42 (ix (rX1 4 6)) = x := by rw [a2, ik]; exact hxx
      rw [u1, sb, if_pos tokn]
      show (Parser_demandComparing rX1 >>= fun r7 => (Parser_readSum r7.2 >>= fun r9 => (Rules_put (rX1 42 (ix (rX1 4 6))) 0 r9.2 >>= fun r11 => some r11.2))) = _
      rw [ex]
    obtain ⟨t6, ht6⟩ : ∃ t6 : Int, t6 = if m = 160 then (14 : Int) else (if m = 161 then 15 else (if m = 162 then 16 else -1)) := ⟨_, rfl⟩
    have mh : (M_sumUp gM >>= fun r3 => (if nw r3.1 = 0 then some ((0 : Int), r3.2) else (some (if nw (r3.2 117 39) = 160 then (14 : Int) else (if nw (r3.2 117 39) = 161 then 15 else (if nw (r3.2 117 39) = 162 then 16 else -1))) >>= fun t6 => (if nw t6 = -1 then (M_bad 1 r3.2 >>= fun r16 => if r16.1 = 0 ∨ r16.1 = 1 then some (r16.1, r16.2) else none) else (M_next0 r3.2 >>= fun r9 => (M_sumUp r9.2 >>= fun r11 => (if nw r11.1 = 0 then some (0, r11.2) else (M_lay t6 0 r11.2 >>= fun r14 => some (1, r14.2))))))))) = (if nw t6 = -1 then (M_bad 1 rM1.2 >>= fun r16 => if r16.1 = 0 ∨ r16.1 = 1 then some (r16.1, r16.2) else none) else (M_next0 rM1.2 >>= fun r9 => (M_sumUp r9.2 >>= fun r11 => (if nw r11.1 = 0 then some (0, r11.2) else (M_lay t6 0 r11.2 >>= fun r14 => some (1, r14.2)))))) := by
      rw [u2, sb, ok, nw_1, if_neg (by decide), hm, nm, sb, ← ht6]
    rw [xh, mh]
    by_cases c : x = 60 ∨ x = 61 ∨ x = 62
    · have ho : opR t6 0 x 0 ∧ (t6 = 14 ∨ t6 = 15 ∨ t6 = 16) := by
        rcases c with c | c | c
        · rw [ht6, if_pos (m60.mp c), c]; exact ⟨op_bel, Or.inl rfl⟩
        · have e := m61.mp c
          rw [ht6, if_neg (show ¬ m = 160 by ((try clear nk); (try clear ik); (try clear xh); (try clear tokn); (try clear ex); (try clear mh); (try clear n6); (try clear mh2); omega)), if_pos e, c]; exact ⟨op_same, Or.inr (Or.inl rfl)⟩
        · have e := m62.mp c
          rw [ht6, if_neg (show ¬ m = 160 by ((try clear nk); (try clear ik); (try clear xh); (try clear tokn); (try clear ex); (try clear mh); (try clear n6); (try clear mh2); omega)), if_neg (show ¬ m = 161 by ((try clear nk); (try clear ik); (try clear xh); (try clear tokn); (try clear ex); (try clear mh); (try clear n6); (try clear mh2); omega)), if_pos e, c]; exact ⟨op_abo, Or.inr (Or.inr rfl)⟩
      have n6 : nw t6 = t6 := nw_id (by ((try clear nk); (try clear ik); (try clear xh); (try clear tokn); (try clear ex); (try clear mh); (try clear n6); (try clear mh2); omega)) (by ((try clear nk); (try clear ik); (try clear xh); (try clear tokn); (try clear ex); (try clear mh); (try clear n6); (try clear mh2); omega))
      obtain ⟨gM1, e1, e2, A1, f1⟩ := A.nx O (kT (by ((try clear nk); (try clear ik); (try clear xh); (try clear tokn); (try clear ex); (try clear mh); (try clear n6); (try clear mh2); omega)))
      have xd : Parser_demandComparing rX1 = some (0, up rX1 4 6 ((k1 : Int) + 1)) := by
        unfold Parser_demandComparing
        rw [i60, i61, i62, sb]
        by_cases y : x = 60
        · rw [if_pos y, nw_1, if_neg (by decide), e1, sb, sb]
        · rw [if_neg y, nw_0, if_pos rfl, sb]
          by_cases y2 : x = 61
          · rw [if_pos y2, nw_1, if_neg (by decide), e1, sb, sb]
          · rw [if_neg y2, nw_0, if_pos rfl, sb, if_pos (show x = 62 by ((try clear nk); (try clear ik); (try clear xh); (try clear tokn); (try clear ex); (try clear mh); (try clear n6); (try clear mh2); omega)), nw_1, if_neg (by decide), e1, sb, sb]
      obtain ⟨rX2, rM2, v1, v2, vr⟩ := sum_rel O A1.2.2.2.2.1 (by ((try clear nk); (try clear ik); (try clear xh); (try clear tokn); (try clear ex); (try clear mh); (try clear n6); (try clear mh2); omega))
      have xh2 : (Parser_demandComparing rX1 >>= fun r7 => (Parser_readSum r7.2 >>= fun r9 => (Rules_put x 0 r9.2 >>= fun r11 => some r11.2))) = (Rules_put x 0 rX2 >>= fun r11 => some r11.2) := by rw [xd, sb, v1, sb]
      have mh2 : (if nw t6 = -1 then (M_bad 1 rM1.2 >>= fun r16 => if r16.1 = 0 ∨ r16.1 = 1 then some (r16.1, r16.2) else none) else (M_next0 rM1.2 >>= fun r9 => (M_sumUp r9.2 >>= fun r11 => (if nw r11.1 = 0 then some (0, r11.2) else (M_lay t6 0 r11.2 >>= fun r14 => some (1, r14.2)))))) = (if nw rM2.1 = 0 then some (0, rM2.2) else (M_lay t6 0 rM2.2 >>= fun r14 => some (1, r14.2))) := by
        rw [n6, if_neg (show ¬ t6 = -1 by ((try clear nk); (try clear ik); (try clear xh); (try clear tokn); (try clear ex); (try clear mh); (try clear n6); (try clear mh2); omega)), e2, sb, v2, sb]
      rw [xh2, mh2]
      rcases vr with ⟨ok2, k2, s2, B⟩ | bad
      · have bs := B.2.2.2.2.2.2.1
        obtain ⟨p1, p2, A2⟩ := A1.op B (E3 := EvB 4) (stbN 3) (stbN 3) (c := t6) (v := 0) (w := x) (x := 0) ho.1 i32_0 hs (by ((try clear nk); (try clear ik); (try clear xh); (try clear tokn); (try clear ex); (try clear mh); (try clear n6); (try clear mh2); omega)) (fun cd a b c => EvB.cmp a b s7 bs (by rw [c]; exact ho.2)) hT
        refine ⟨putX rX2 s2 x 0, (1, layM rM2.2 s2 t6 0), by rw [p1, sb], by rw [ok2, nw_1, if_neg (by decide), p2, sb], Or.inl ⟨rfl, k2, s2 + 1, A2⟩⟩
      · obtain ⟨w, p, F, ext⟩ := (A1.pbad bad).x
        obtain ⟨g', e, F', f'⟩ := xf_put F x 0
        exact ⟨g', (0, rM2.2), by rw [e, sb], by rw [bad.1, nw_0, if_pos rfl], Or.inr (ext g' F' f')⟩
    · have e6 : t6 = -1 := by
        rw [ht6, if_neg (fun q => c (Or.inl (m60.mpr q))), if_neg (fun q => c (Or.inr (Or.inl (m61.mpr q)))), if_neg (fun q => c (Or.inr (Or.inr (m62.mpr q))))]
      obtain ⟨e1, e2, B⟩ := A.bad O (w := 1) (by ((try clear nk); (try clear ik); (try clear xh); (try clear tokn); (try clear ex); (try clear mh); (try clear n6); (try clear mh2); omega)) (by ((try clear nk); (try clear ik); (try clear xh); (try clear tokn); (try clear ex); (try clear mh); (try clear n6); (try clear mh2); omega))
      have xd : Parser_demandComparing rX1 = some (0, failX rX1 k1 1) := by
        unfold Parser_demandComparing
        rw [i60, i61, i62, sb, if_neg (show ¬ x = 60 by ((try clear nk); (try clear ik); (try clear xh); (try clear tokn); (try clear ex); (try clear mh); (try clear n6); (try clear mh2); omega)), nw_0, if_pos rfl, sb, if_neg (show ¬ x = 61 by ((try clear nk); (try clear ik); (try clear xh); (try clear tokn); (try clear ex); (try clear mh); (try clear n6); (try clear mh2); omega)), nw_0, if_pos rfl, sb, if_neg (show ¬ x = 62 by ((try clear nk); (try clear ik); (try clear xh); (try clear tokn); (try clear ex); (try clear mh); (try clear n6); (try clear mh2); omega)), nw_0, if_pos rfl, e1, sb, sb]
      obtain ⟨w, p, F, ext⟩ := B.x
      obtain ⟨g', e, F', f'⟩ := xf_put F x 0
      refine ⟨g', (0, badM rM1.2 1), by rw [xd, sb, xf_sum F, sb, e, sb], by rw [e6, nw_m1, if_pos rfl, e2, sb, if_pos (Or.inl rfl)], Or.inr (ext g' F' f')⟩
  · obtain ⟨w, p, F, ext⟩ := bad.x
    obtain ⟨g', e, F', f'⟩ := xf_put F (rX1 42 (ix (rX1 4 6))) 0
    exact ⟨g', (0, rM1.2), by rw [u1, sb, if_pos F.tok, xf_cmp F, sb, xf_sum F, sb, e, sb], by rw [u2, sb, bad.1, nw_0, if_pos rfl], Or.inr (ext g' F' f')⟩
end
section
/-! plain programs: the two parsers' recursion -/
theorem one_step {tp : Nat → Int} {L T : Nat} (O : TkOk tp L T) {d : Nat} (hd : d ≤ 8) (H : d < 8 → OneS tp L T (d + 1) ∧ AnyS tp L T (d + 1)) : OneS tp L T d := by
  intro f nX o m k s gX gM hf hn hom R hs h45
  obtain ⟨f, rfl⟩ : ∃ f', f = f' + 1 := ⟨f - 1, by ((try clear nmm); (try clear mh); (try clear x2); omega)⟩
  obtain ⟨x, tm, v, tk, hxx, hm, nx, nm, hv, z1, z2, pl⟩ := R.see O
  have hT := O.T500
  have a2 := R.2.1
  have a3 := R.2.2.1
  have a4 := R.2.2.2.1
  have a9 := R.2.2.2.2.2.2.2.2.1
  have kT : x ≠ 0 → k < T := fun h => Nat.lt_of_le_of_ne a9 (fun y => h (z2 y))
  have m110 : x = 110 ↔ tm = 6 := tk_wd tk (by ((try clear nmm); (try clear mh); (try clear x2); omega)) (by ((try clear nmm); (try clear mh); (try clear x2); omega))
  have m40 : x = 40 ↔ tm = 140 := tk_sg tk (by ((try clear nmm); (try clear mh); (try clear x2); omega)) (by ((try clear nmm); (try clear mh); (try clear x2); omega))
  have nmm : nw (m : Int) = m := nwN m (by ((try clear nmm); (try clear mh); (try clear x2); omega))
  have i110 : Parser_is 110 gX = some (if x = 110 then 1 else 0) := is_s a2 a3 (by ((try clear nmm); (try clear mh); (try clear x2); omega)) hxx nx nwd.2.2.2.2.2.1
  have i40 : Parser_is 40 gX = some (if x = 40 then 1 else 0) := is_s a2 a3 (by ((try clear nmm); (try clear mh); (try clear x2); omega)) hxx nx nwc.2.2.2.2.2.2.1
  have hM : M_one (f + 1) gM = M_one_s (M_one f) gM := rfl
  have A0 : Acc tp L T EvT k s gX gM k s gX gM := Acc.start R trivial
  have m500 : ¬ (500 : Int) ≤ (m : Int) := by ((try clear nmm); (try clear mh); (try clear x2); omega)
  by_cases c1 : x = 110
  · have t6 := m110.mp c1
    have xh : Parser_readOne_b (Parser_readEither nX) o 1 d m gX = (Parser_openOneMore d gX >>= fun r5 => Parser_readOne_b (Parser_readEither nX) o 1 ((d : Int) + 1) ((m : Int) + 1) r5.2) := by
      rw [Parser_readOne_b.eq_1 _ _ 1, if_pos rfl, nmm, if_neg m500, i110, if_pos c1, sb, nw_1, if_neg (by decide)]
    by_cases c8 : d = 8
    · obtain ⟨e1, e2, B⟩ := A0.bad O (w := 3) (by ((try clear nmm); (try clear mh); (try clear x2); omega)) (by ((try clear nmm); (try clear mh); (try clear x2); omega))
      obtain ⟨w, p, F, ext⟩ := B.x
      obtain ⟨g', e, F', f'⟩ := xf_one_b (rec := Parser_readEither nX) F o (m + 1) (by ((try clear nmm); (try clear mh); (try clear x2); omega)) ((m : Int) + 1)
      refine Or.inl ⟨g', (0, badM gM 3), ?_, ?_, ext g' F' f'⟩
      · rw [xh, c8]
        show (Parser_openOneMore 8 gX >>= fun r5 => Parser_readOne_b (Parser_readEither nX) o 1 (8 + 1) ((m : Int) + 1) r5.2) = _
        rw [openX_8, e1, sb, sb]
        have e9 : ((o + (m + 1) : Nat) : Int) = 8 + 1 := by ((try clear nmm); (try clear mh); (try clear x2); omega)
        rw [e9] at e
        exact e
      · rw [hM]
        unfold M_one_s
        rw [hm, nm, if_pos t6, opens_8 (by rw [h45, c8]; rfl), sb, nw_0, if_pos rfl]
    · have d8 : d < 8 := by ((try clear nmm); (try clear mh); (try clear x2); omega)
      have hk : k < T := kT (by ((try clear nmm); (try clear mh); (try clear x2); omega))
      obtain ⟨gM1, e1, e2, R1, f1⟩ := (R.dep ((d : Int) + 1)).nx O hk
      have f1' : FR [(117, 39), (117, 40), (117, 41), (117, 42), (117, 46)] gM gM1 := (Fr.up (W := inR [(117, 39), (117, 40), (117, 41), (117, 42), (117, 46)]) Fr.rf rfl).tr (FR.mo f1 rfl)
      have d1 : gM1 117 45 = ((d + 1 : Nat) : Int) := by rw [f1 117 45 rfl, up_at, if_pos ⟨rfl, rfl⟩]; rfl
      have ih := (H d8).1 f nX o (m + 1) (k + 1) s (up gX 4 6 ((k : Int) + 1)) gM1 (by ((try clear nmm); (try clear mh); (try clear x2); omega)) (by ((try clear nmm); (try clear mh); (try clear x2); omega)) (by ((try clear nmm); (try clear mh); (try clear x2); omega)) R1 (by ((try clear nmm); (try clear mh); (try clear x2); omega)) d1
      have xh2 : Parser_readOne_b (Parser_readEither nX) o 1 d m gX = Parser_readOne_b (Parser_readEither nX) o 1 ((d + 1 : Nat) : Int) ((m + 1 : Nat) : Int) (up gX 4 6 ((k : Int) + 1)) := by
        rw [xh, openX_s d8, e1, sb, sb]
        rfl
      have mh : M_one (f + 1) gM = (M_one f gM1 >>= fun r36 => (if nw r36.1 = 0 then some (0, r36.2) else (some (up r36.2 117 45 (r36.2 117 45 - 1)) >>= fun g39 => (M_lay 17 0 g39 >>= fun r41 => some (1, r41.2))))) := by
        rw [hM]
        unfold M_one_s
        rw [hm, nm, if_pos t6, opens_s h45 d8, e2, sb, sb, nw_1, if_neg (by decide)]
      rcases ih with ⟨rX1, rM1, u1, u2, bad⟩ | ⟨rX1, gM', j, sx, k', s', u1, u2, u3, u4, u5, B⟩
      · refine Or.inl ⟨rX1, (0, rM1.2), by rw [xh2]; exact u1, by rw [mh, u2, sb, bad.1, nw_0, if_pos rfl], rfl, (Fr.up (W := inR RPX) Fr.rf rfl).tr bad.2.1, (FR.mo f1' rfl).tr bad.2.2.1, bad.2.2.2⟩
      · obtain ⟨A2, hx⟩ := B.opened f1' h45
        have dd : gM' 117 45 = ((d + 1 : Nat) : Int) := by rw [B.2.2.1]; exact d1
        obtain ⟨p1, p2, A3⟩ := A2.op1 (E3 := EvB (20 - 2 * d)) (stbB _) (c := 17) (v := 0) (w := 110) (x := 0) op_not i32_0 hs (by ((try clear nmm); (try clear mh); (try clear x2); omega)) (fun cd a b => EvB.no (by ((try clear nmm); (try clear mh); (try clear x2); omega)) (a.mono (by ((try clear nmm); (try clear mh); (try clear x2); omega))) A2.2.2.2.2.2.2.1 b) hT
        refine Or.inr ⟨rX1, layM (up gM' 117 45 (d : Int)) s' 17 0, j + 1, sx, k', s' + 1, ?_, ?_, u3, by ((try clear nmm); (try clear mh); (try clear x2); omega), by ((try clear nmm); (try clear mh); (try clear x2); omega), ?_⟩
        · rw [xh2, u1, show d + 1 + j = d + (j + 1) by ((try clear nmm); (try clear mh); (try clear x2); omega)]
        · rw [mh, u2, sb, nw_1, if_neg (by decide)]
          show (some (up gM' 117 45 (gM' 117 45 - 1)) >>= fun g39 => (M_lay 17 0 g39 >>= fun r41 => some ((1 : Int), r41.2))) = _
          rw [dd, show ((d + 1 : Nat) : Int) - 1 = (d : Int) by ((try clear nmm); (try clear mh); (try clear x2); omega), sb, p2, sb]
        · show Acc tp L T (EvB (20 - 2 * d)) k s gX gM k' (s' + 1) (putX (nots sx j rX1) (sx + j) 110 0) _
          rw [u4]
          exact A3
  · have t6 : ¬ tm = 6 := fun q => c1 (m110.mpr q)
    have xh : Parser_readOne_b (Parser_readEither nX) o 1 d m gX = Parser_readOne_b (Parser_readEither nX) o 2 d m gX := by
      rw [Parser_readOne_b.eq_1 _ _ 1, if_pos rfl, nmm, if_neg m500, i110, if_neg c1, sb, nw_0, if_pos rfl]
    have x2 : Parser_readOne_b (Parser_readEither nX) o 2 d m gX = ((((if nw (if x = 40 then 1 else 0) = 0 then (Parser_readSum gX >>= fun r4 => if 0 ≤ nw (r4.2 4 6) ∧ nw (r4.2 4 6) < 501 then (Parser_demandComparing r4.2 >>= fun r7 => (Parser_readSum r7.2 >>= fun r9 => (Rules_put (r4.2 42 (ix (r4.2 4 6))) 0 r9.2 >>= fun r11 => some r11.2))) else none) else (Parser_openOneMore d gX >>= fun r13 => (Parser_readEither nX ((d : Int) + 1) r13.2 >>= fun r15 => (Parser_demand 41 r15.2 >>= fun r17 => some r17.2)))) : Option AG)) >>= fun r19 => Parser_readOne_b (Parser_readEither nX) o 3 d o r19) := by
      rw [Parser_readOne_b.eq_1 _ _ 2, if_neg (by decide), if_pos rfl, i40, sb]
    have fin : ∀ (w p : Int) (g : AG), XF tp L T w p g → ∃ g', Parser_readOne_b (Parser_readEither nX) o 3 d o g = some (0, g') ∧ XF tp L T w p g' ∧ FR RPP g g' := by
      intro w p g F
      have e := xf_nots (rec := Parser_readEither nX) (a := (o : Int)) m o g (by ((try clear nmm); (try clear mh); (try clear x2); omega)) F
      rw [hom] at e
      exact e
    by_cases c2 : x = 40
    · have t40 := m40.mp c2
      by_cases c8 : d = 8
      · obtain ⟨e1, e2, B⟩ := A0.bad O (w := 3) (by ((try clear nmm); (try clear mh); (try clear x2); omega)) (by ((try clear nmm); (try clear mh); (try clear x2); omega))
        obtain ⟨w, p, F, ext⟩ := B.x
        obtain ⟨n', hn'⟩ : ∃ n', nX = n' + 1 := ⟨nX - 1, by ((try clear nmm); (try clear mh); (try clear x2); omega)⟩
        obtain ⟨g1, q1, F1, f1⟩ := xf_either F 9 n' (by ((try clear nmm); (try clear mh); (try clear x2); omega))
        obtain ⟨g2, q2, F2, f2⟩ := fin w p g1 F1
        refine Or.inl ⟨g2, (0, badM gM 3), ?_, ?_, ext g2 F2 (f1.tr f2)⟩
        · rw [← hn'] at q1
          have q1' : Parser_readEither nX (8 + 1) (failX gX k 3) = some (0, g1) := q1
          rw [xh, x2, if_pos c2, nw_1, if_neg (by decide), show ((d : Nat) : Int) = 8 by ((try clear nmm); (try clear mh); (try clear x2); omega), openX_8, e1, sb, sb, q1', sb, xf_demand F1, sb, sb]
          rw [show ((d : Nat) : Int) = 8 by ((try clear nmm); (try clear mh); (try clear x2); omega)] at q2
          exact q2
        · rw [hM]
          unfold M_one_s
          rw [hm, nm, if_neg t6, if_pos t40, opens_8 (by rw [h45, c8]; rfl), sb, nw_0, if_pos rfl]
      · have d8 : d < 8 := by ((try clear nmm); (try clear mh); (try clear x2); omega)
        have hk : k < T := kT (by ((try clear nmm); (try clear mh); (try clear x2); omega))
        obtain ⟨gM1, e1, e2, R1, f1⟩ := (R.dep ((d : Int) + 1)).nx O hk
        have f1' : FR [(117, 39), (117, 40), (117, 41), (117, 42), (117, 46)] gM gM1 := (Fr.up (W := inR [(117, 39), (117, 40), (117, 41), (117, 42), (117, 46)]) Fr.rf rfl).tr (FR.mo f1 rfl)
        have d1 : gM1 117 45 = ((d + 1 : Nat) : Int) := by rw [f1 117 45 rfl, up_at, if_pos ⟨rfl, rfl⟩]; rfl
        obtain ⟨rX1, rM1, u1, u2, ur⟩ := (H d8).2 f nX (k + 1) s (up gX 4 6 ((k : Int) + 1)) gM1 (by ((try clear nmm); (try clear mh); (try clear x2); omega)) (by ((try clear nmm); (try clear mh); (try clear x2); omega)) R1 (by ((try clear nmm); (try clear mh); (try clear x2); omega)) d1
        have u1' : Parser_readEither nX ((d : Int) + 1) (up gX 4 6 ((k : Int) + 1)) = some (0, rX1) := u1
        have xh2 : Parser_readOne_b (Parser_readEither nX) o 1 d m gX = (Parser_demand 41 rX1 >>= fun r17 => Parser_readOne_b (Parser_readEither nX) o 3 d o r17.2) := by
          rw [xh, x2, if_pos c2, nw_1, if_neg (by decide), openX_s d8, e1, sb, sb, u1', sb]
          cases Parser_demand 41 rX1 with
          | none => rfl
          | some r => rfl
        have mh : M_one (f + 1) gM = (if nw rM1.1 = 0 then some (0, rM1.2) else (M_need 141 rM1.2 >>= fun r28 => (if nw r28.1 = 0 then some (0, r28.2) else (some (up r28.2 117 45 (r28.2 117 45 - 1)) >>= fun g31 => some (1, g31))))) := by
          rw [hM]
          unfold M_one_s
          rw [hm, nm, if_neg t6, if_pos t40, opens_s h45 d8, e2, sb, sb, nw_1, if_neg (by decide), u2, sb]
        rcases ur with ⟨ok, k1, s1, A1⟩ | bad
        · obtain ⟨rX2, rM2, v1, v2, vr⟩ := need_rel O A1 (c := 41) (c' := 141) (by ((try clear nmm); (try clear mh); (try clear x2); omega)) (by ((try clear nmm); (try clear mh); (try clear x2); omega)) (by ((try clear nmm); (try clear mh); (try clear x2); omega))
          rcases vr with ⟨ok2, k2, s2, A2⟩ | bad
          · obtain ⟨A3, hx⟩ := A2.opened f1' h45
            have dd : rM2.2 117 45 = ((d + 1 : Nat) : Int) := by rw [A2.2.2.1]; exact d1
            refine Or.inr ⟨rX2, up rM2.2 117 45 (d : Int), 0, s2, k2, s2, ?_, ?_, A3.2.2.2.2.1.2.2.2.1, rfl, by ((try clear nmm); (try clear mh); (try clear x2); omega), ?_⟩
            · rw [xh2, v1, sb]; rfl
            · rw [mh, ok, nw_1, if_neg (by decide), v2, sb, ok2, nw_1, if_neg (by decide), dd, show ((d + 1 : Nat) : Int) - 1 = (d : Int) by ((try clear nmm); (try clear mh); (try clear x2); omega), sb]
            · exact A3.to (fun q => q.mono (by ((try clear nmm); (try clear mh); (try clear x2); omega)))
          · obtain ⟨b1, b2, b3, w, p, F, b4, b5⟩ := bad
            obtain ⟨g2, q2, F2, f2⟩ := fin w p rX2 F
            refine Or.inl ⟨g2, (0, rM2.2), by rw [xh2, v1, sb]; exact q2, by rw [mh, ok, nw_1, if_neg (by decide), v2, sb, b1, nw_0, if_pos rfl], rfl, ((Fr.up (W := inR RPX) Fr.rf rfl).tr b2).tr (FR.mo f2 rfl), (FR.mo f1' rfl).tr b3, w, p, F2, b4, b5⟩
        · obtain ⟨b1, b2, b3, w, p, F, b4, b5⟩ := bad
          obtain ⟨g2, q2, F2, f2⟩ := fin w p rX1 F
          refine Or.inl ⟨g2, (0, rM1.2), by rw [xh2, xf_demand F, sb]; exact q2, by rw [mh, b1, nw_0, if_pos rfl], rfl, ((Fr.up (W := inR RPX) Fr.rf rfl).tr b2).tr (FR.mo f2 rfl), (FR.mo f1' rfl).tr b3, w, p, F2, b4, b5⟩
    · obtain ⟨rX1, rM1, u1, u2, ur⟩ := cmp_rel O R hs
      have t40 : ¬ tm = 140 := fun q => c2 (m40.mpr q)
      have xh2 : Parser_readOne_b (Parser_readEither nX) o 1 d m gX = Parser_readOne_b (Parser_readEither nX) o 3 d o rX1 := by
        rw [xh, x2, if_neg c2, nw_0, if_pos rfl, u1, sb]
      have mh : M_one (f + 1) gM = some rM1 := by
        rw [hM]
        unfold M_one_s
        rw [hm, nm, if_neg t6, if_neg t40]
        exact u2
      rcases ur with ⟨ok, k1, s1, A1⟩ | bad
      · refine Or.inr ⟨rX1, rM1.2, 0, s1, k1, s1, ?_, ?_, A1.2.2.2.2.1.2.2.2.1, rfl, by ((try clear nmm); (try clear mh); (try clear x2); omega), A1.to (fun q => q.mono (by ((try clear nmm); (try clear mh); (try clear x2); omega)))⟩
        · rw [xh2]; rfl
        · rw [mh, ← ok]
      · obtain ⟨w, p, F, ext⟩ := bad.x
        obtain ⟨g2, q2, F2, f2⟩ := fin w p rX1 F
        refine Or.inl ⟨g2, (0, rM1.2), by rw [xh2]; exact q2, by rw [mh, ← bad.1], ext g2 F2 f2⟩
end
section
/-! plain programs: the two parsers, B and A -/
theorem one_full {tp : Nat → Int} {L T d : Nat} (O : TkOk tp L T) (H : OneS tp L T d) {f nX k s : Nat} {gX gM : AG} (hf : 9 ≤ f + d) (hn : 9 ≤ nX + d) (hd8 : d ≤ 8) (R : PRel tp L T k s gX gM) (hs : s ≤ k) (h45 : gM 117 45 = d) : ∃ rX rM, Parser_readOne (Parser_readEither nX) d gX = some (0, rX) ∧ M_one f gM = some rM ∧ POut tp L T (EvB (20 - 2 * d)) k s gX gM rX rM := by
  rcases H f nX d 0 k s gX gM hf hn (by omega) R hs h45 with ⟨rX, rM, u1, u2, bad⟩ | ⟨rX, gM', j, sx, k', s', u1, u2, u3, u4, u5, A⟩
  · exact ⟨rX, rM, u1, u2, Or.inr bad⟩
  · have s5 : s' ≤ 500 := A.2.2.2.2.1.2.2.2.2.2.2.2.2.2.1
    refine ⟨nots sx j rX, (1, gM'), ?_, u2, Or.inl ⟨rfl, k', s', A⟩⟩
    have u1' : Parser_readOne (Parser_readEither nX) d gX = _ := u1
    rw [u1']
    exact nots_s j d sx rX (by omega) u3 (by omega)
theorem all_b {tp : Nat → Int} {L T : Nat} (O : TkOk tp L T) {rec : Int → AG → Option (Int × AG)} {recM : AG → Option (Int × AG)} {d h1 h : Nat} (hh : h1 + 1 ≤ h) (H1 : ∀ (k s : Nat) (gX gM : AG), PRel tp L T k s gX gM → s ≤ k → gM 117 45 = d → ∃ rX rM, Parser_readOne rec d gX = some (0, rX) ∧ recM gM = some rM ∧ POut tp L T (EvB h1) k s gX gM rX rM) {k0 s0 : Nat} {X0 M0 : AG} (h0 : s0 ≤ k0) (hd0 : M0 117 45 = d) : ∀ (N k s i : Nat) (gX gM : AG), T - k = N → i ≤ k → Acc tp L T (EvB h) k0 s0 X0 M0 k s gX gM → ∃ rX rM, Parser_readAll_b rec d i gX = some (0, rX) ∧ M_every_b recM gM = some rM ∧ POut tp L T (EvB h) k0 s0 X0 M0 rX rM := by
  intro N
  induction N using Nat.strongRecOn with
  | ind N ih =>
  intro k s i gX gM hN hi A
  have R := A.2.2.2.2.1
  obtain ⟨x, m, v, tk, hxx, hm, nx, nm, hv, z1, z2, pl⟩ := R.see O
  have hT := O.T500
  have a2 := R.2.1
  have a3 := R.2.2.1
  have a9 := R.2.2.2.2.2.2.2.2.1
  have rg := tk_rng tk
  have kT : x ≠ 0 → k < T := fun h => Nat.lt_of_le_of_ne a9 (fun y => h (z2 y))
  have s8 := A.2.2.2.2.2.2.2.1
  have s7 := A.2.2.2.2.2.2.1
  have sk := A.le h0
  have ni : nw (i : Int) = i := nwN i (by ((try clear ni); (try clear mh); omega))
  have isT : Parser_is 109 gX = some (if x = 109 then 1 else 0) := is_s a2 a3 (by ((try clear ni); (try clear mh); omega)) hxx nx nwd.2.2.2.2.1
  have mT : x = 109 ↔ m = 5 := tk_wd tk (by ((try clear ni); (try clear mh); omega)) (by ((try clear ni); (try clear mh); omega))
  by_cases c1 : x = 109
  · have hk : k < T := kT (by ((try clear ni); (try clear mh); omega))
    obtain ⟨gM1, e1, e2, A1, f1⟩ := A.nx O hk
    obtain ⟨rX1, rM1, u1, u2, ur⟩ := H1 (k + 1) s _ _ A1.2.2.2.2.1 (by ((try clear ni); (try clear mh); omega)) (by rw [A1.2.2.1]; exact hd0)
    have xh : Parser_readAll_b rec d i gX = (Rules_put 109 0 rX1 >>= fun r9 => Parser_readAll_b rec d ((i : Int) + 1) r9.2) := by
      rw [Parser_readAll_b.eq_1, ni, if_neg (by ((try clear ni); (try clear mh); omega)), isT, if_pos c1, sb, nw_1, if_neg (by decide), e1, sb, u1, sb]
    have mh : M_every_b recM gM = (if nw rM1.1 = 0 then some (0, rM1.2) else (M_lay 18 0 rM1.2 >>= fun r7 => M_every_b recM r7.2)) := by
      rw [M_every_b.eq_1, hm, nm, if_pos (mT.mp c1), e2, sb, u2, sb]
    rcases ur with ⟨ok, k', s', B⟩ | bad
    · have bk := B.2.2.2.2.2.1
      have bs := B.2.2.2.2.2.2.1
      obtain ⟨p1, p2, A2⟩ := A1.op B (E3 := EvB h) (stbB h) (stbB h1) (c := 18) (v := 0) (w := 109) (x := 0) op_and i32_0 h0 (by ((try clear ni); (try clear mh); omega)) (fun cd a b c => EvB.two a b s7 bs (Or.inl c) (by ((try clear ni); (try clear mh); omega)) (by ((try clear ni); (try clear mh); omega))) hT
      obtain ⟨rX, rM, e, e', r⟩ := ih (T - k') (by ((try clear ni); (try clear mh); omega)) k' (s' + 1) (i + 1) _ _ rfl (by ((try clear ni); (try clear mh); omega)) A2
      refine ⟨rX, rM, ?_, ?_, r⟩
      · rw [xh, p1, sb]; exact e
      · rw [mh, ok, nw_1, if_neg (by decide), p2, sb]; exact e'
    · obtain ⟨w, p, F, ext⟩ := (A1.pbad bad).x
      obtain ⟨g', e, F', f'⟩ := xf_put F 109 0
      refine ⟨g', (0, rM1.2), ?_, ?_, Or.inr (ext g' F' f')⟩
      · rw [xh, e, sb]; exact xf_all_b F' _ _
      · rw [mh, bad.1, nw_0, if_pos rfl]
  · refine ⟨gX, (1, gM), ?_, ?_, Or.inl ⟨rfl, k, s, A⟩⟩
    · rw [Parser_readAll_b.eq_1, isT, if_neg c1, sb, nw_0, if_pos rfl]
      by_cases y : 500 ≤ nw (i : Int)
      · rw [if_pos y]
      · rw [if_neg y]
    · rw [M_every_b.eq_1, hm, nm, if_neg (fun q => c1 (mT.mpr q))]
theorem all_rel {tp : Nat → Int} {L T : Nat} (O : TkOk tp L T) {rec : Int → AG → Option (Int × AG)} {recM : AG → Option (Int × AG)} {d h1 h : Nat} (hd8 : d ≤ 8) (hh : h1 + 1 ≤ h) (H1 : ∀ (k s : Nat) (gX gM : AG), PRel tp L T k s gX gM → s ≤ k → gM 117 45 = d → ∃ rX rM, Parser_readOne rec d gX = some (0, rX) ∧ recM gM = some rM ∧ POut tp L T (EvB h1) k s gX gM rX rM) {k s : Nat} {gX gM : AG} (R : PRel tp L T k s gX gM) (hs : s ≤ k) (h45 : gM 117 45 = d) : ∃ rX rM, Parser_readAll rec d gX = some (0, rX) ∧ M_every recM gM = some rM ∧ POut tp L T (EvB h) k s gX gM rX rM := by
  obtain ⟨rX1, rM1, u1, u2, ur⟩ := H1 k s gX gM R hs h45
  rcases ur with ⟨ok, k', s', B⟩ | bad
  · obtain ⟨rX, rM, e, e', r⟩ := all_b O hh H1 hs h45 (T - k') k' s' 0 rX1 rM1.2 rfl (by omega) (B.to (fun q => q.mono (by omega)))
    refine ⟨rX, rM, ?_, ?_, r⟩
    · unfold Parser_readAll
      rw [u1, sb]
      exact e
    · unfold M_every
      rw [u2, sb, ok, nw_1, if_neg (by decide)]
      exact e'
  · obtain ⟨w, p, F, ext⟩ := bad.x
    refine ⟨rX1, (0, rM1.2), ?_, ?_, Or.inr (ext _ F Fr.rf)⟩
    · unfold Parser_readAll
      rw [u1, sb]
      exact xf_all_b F _ _
    · unfold M_every
      rw [u2, sb, bad.1, nw_0, if_pos rfl]
theorem any_b {tp : Nat → Int} {L T : Nat} (O : TkOk tp L T) {rec : Int → AG → Option (Int × AG)} {recM : AG → Option (Int × AG)} {d h1 h : Nat} (hh : h1 + 1 ≤ h) (H1 : ∀ (k s : Nat) (gX gM : AG), PRel tp L T k s gX gM → s ≤ k → gM 117 45 = d → ∃ rX rM, Parser_readAll rec d gX = some (0, rX) ∧ M_every recM gM = some rM ∧ POut tp L T (EvB h1) k s gX gM rX rM) {k0 s0 : Nat} {X0 M0 : AG} (h0 : s0 ≤ k0) (hd0 : M0 117 45 = d) : ∀ (N k s i : Nat) (gX gM : AG), T - k = N → i ≤ k → Acc tp L T (EvB h) k0 s0 X0 M0 k s gX gM → ∃ rX rM, Parser_readEither_b rec d i gX = some (0, rX) ∧ M_any_b recM gM = some rM ∧ POut tp L T (EvB h) k0 s0 X0 M0 rX rM := by
  intro N
  induction N using Nat.strongRecOn with
  | ind N ih =>
  intro k s i gX gM hN hi A
  have R := A.2.2.2.2.1
  obtain ⟨x, m, v, tk, hxx, hm, nx, nm, hv, z1, z2, pl⟩ := R.see O
  have hT := O.T500
  have a2 := R.2.1
  have a3 := R.2.2.1
  have a9 := R.2.2.2.2.2.2.2.2.1
  have rg := tk_rng tk
  have kT : x ≠ 0 → k < T := fun h => Nat.lt_of_le_of_ne a9 (fun y => h (z2 y))
  have s8 := A.2.2.2.2.2.2.2.1
  have s7 := A.2.2.2.2.2.2.1
  have sk := A.le h0
  have ni : nw (i : Int) = i := nwN i (by ((try clear ni); (try clear mh); omega))
  have isT : Parser_is 108 gX = some (if x = 108 then 1 else 0) := is_s a2 a3 (by ((try clear ni); (try clear mh); omega)) hxx nx nwd.2.2.2.1
  have mT : x = 108 ↔ m = 4 := tk_wd tk (by ((try clear ni); (try clear mh); omega)) (by ((try clear ni); (try clear mh); omega))
  by_cases c1 : x = 108
  · have hk : k < T := kT (by ((try clear ni); (try clear mh); omega))
    obtain ⟨gM1, e1, e2, A1, f1⟩ := A.nx O hk
    obtain ⟨rX1, rM1, u1, u2, ur⟩ := H1 (k + 1) s _ _ A1.2.2.2.2.1 (by ((try clear ni); (try clear mh); omega)) (by rw [A1.2.2.1]; exact hd0)
    have xh : Parser_readEither_b rec d i gX = (Rules_put 108 0 rX1 >>= fun r9 => Parser_readEither_b rec d ((i : Int) + 1) r9.2) := by
      rw [Parser_readEither_b.eq_1, ni, if_neg (by ((try clear ni); (try clear mh); omega)), isT, if_pos c1, sb, nw_1, if_neg (by decide), e1, sb, u1, sb]
    have mh : M_any_b recM gM = (if nw rM1.1 = 0 then some (0, rM1.2) else (M_lay 19 0 rM1.2 >>= fun r7 => M_any_b recM r7.2)) := by
      rw [M_any_b.eq_1, hm, nm, if_pos (mT.mp c1), e2, sb, u2, sb]
    rcases ur with ⟨ok, k', s', B⟩ | bad
    · have bk := B.2.2.2.2.2.1
      have bs := B.2.2.2.2.2.2.1
      obtain ⟨p1, p2, A2⟩ := A1.op B (E3 := EvB h) (stbB h) (stbB h1) (c := 19) (v := 0) (w := 108) (x := 0) op_or i32_0 h0 (by ((try clear ni); (try clear mh); omega)) (fun cd a b c => EvB.two a b s7 bs (Or.inr c) (by ((try clear ni); (try clear mh); omega)) (by ((try clear ni); (try clear mh); omega))) hT
      obtain ⟨rX, rM, e, e', r⟩ := ih (T - k') (by ((try clear ni); (try clear mh); omega)) k' (s' + 1) (i + 1) _ _ rfl (by ((try clear ni); (try clear mh); omega)) A2
      refine ⟨rX, rM, ?_, ?_, r⟩
      · rw [xh, p1, sb]; exact e
      · rw [mh, ok, nw_1, if_neg (by decide), p2, sb]; exact e'
    · obtain ⟨w, p, F, ext⟩ := (A1.pbad bad).x
      obtain ⟨g', e, F', f'⟩ := xf_put F 108 0
      refine ⟨g', (0, rM1.2), ?_, ?_, Or.inr (ext g' F' f')⟩
      · rw [xh, e, sb]; exact xf_either_b F' _ _
      · rw [mh, bad.1, nw_0, if_pos rfl]
  · refine ⟨gX, (1, gM), ?_, ?_, Or.inl ⟨rfl, k, s, A⟩⟩
    · rw [Parser_readEither_b.eq_1, isT, if_neg c1, sb, nw_0, if_pos rfl]
      by_cases y : 500 ≤ nw (i : Int)
      · rw [if_pos y]
      · rw [if_neg y]
    · rw [M_any_b.eq_1, hm, nm, if_neg (fun q => c1 (mT.mpr q))]
theorem any_step {tp : Nat → Int} {L T d : Nat} (O : TkOk tp L T) (hd8 : d ≤ 8) (H : OneS tp L T d) : AnyS tp L T d := by
  intro f nX k s gX gM hf hn R hs h45
  obtain ⟨n, rfl⟩ : ∃ n, nX = n + 1 := ⟨nX - 1, by omega⟩
  have H1 : ∀ (k s : Nat) (gX gM : AG), PRel tp L T k s gX gM → s ≤ k → gM 117 45 = d → ∃ rX rM, Parser_readOne (Parser_readEither n) d gX = some (0, rX) ∧ M_one f gM = some rM ∧ POut tp L T (EvB (20 - 2 * d)) k s gX gM rX rM := fun k s gX gM R hs h45 => one_full O H hf (by omega) hd8 R hs h45
  have H2 : ∀ (k s : Nat) (gX gM : AG), PRel tp L T k s gX gM → s ≤ k → gM 117 45 = d → ∃ rX rM, Parser_readAll (Parser_readEither n) d gX = some (0, rX) ∧ M_every (M_one f) gM = some rM ∧ POut tp L T (EvB (21 - 2 * d)) k s gX gM rX rM := fun k s gX gM R hs h45 => all_rel O hd8 (by omega) H1 R hs h45
  obtain ⟨rX1, rM1, u1, u2, ur⟩ := H2 k s gX gM R hs h45
  have top : Parser_readEither (n + 1) d gX = Parser_readEither_b (Parser_readEither n) d 0 rX1 := by
    show Parser_readEither_s (Parser_readEither n) d gX = _
    unfold Parser_readEither_s
    rw [nwN d (by omega), if_pos (by omega), u1, sb]
  rcases ur with ⟨ok, k', s', B⟩ | bad
  · obtain ⟨rX, rM, e, e', r⟩ := any_b O (h := 22 - 2 * d) (by omega) H2 hs h45 (T - k') k' s' 0 rX1 rM1.2 rfl (by omega) (B.to (fun q => q.mono (by omega)))
    refine ⟨rX, rM, ?_, ?_, r⟩
    · rw [top]
      exact e
    · unfold M_any
      rw [u2, sb, ok, nw_1, if_neg (by decide)]
      exact e'
  · obtain ⟨w, p, F, ext⟩ := bad.x
    refine ⟨rX1, (0, rM1.2), ?_, ?_, Or.inr (ext _ F Fr.rf)⟩
    · rw [top]
      exact xf_either_b F _ _
    · unfold M_any
      rw [u2, sb, bad.1, nw_0, if_pos rfl]
theorem both_all {tp : Nat → Int} {L T : Nat} (O : TkOk tp L T) : ∀ D d : Nat, d + D = 8 → OneS tp L T d ∧ AnyS tp L T d := by
  intro D
  induction D with
  | zero =>
    intro d h
    have o := one_step O (d := d) (by omega) (fun q => by omega)
    exact ⟨o, any_step O (by omega) o⟩
  | succ D ih =>
    intro d h
    have o := one_step O (d := d) (by omega) (fun _ => ih (d + 1) (by omega))
    exact ⟨o, any_step O (by omega) o⟩
theorem any_0 {tp : Nat → Int} {L T : Nat} (O : TkOk tp L T) {k s : Nat} {gX gM : AG} (R : PRel tp L T k s gX gM) (hs : s ≤ k) (h45 : gM 117 45 = 0) : ∃ rX rM, Parser_readEither 12 0 gX = some (0, rX) ∧ M_any (M_one 12) gM = some rM ∧ POut tp L T (EvB 22) k s gX gM rX rM := (both_all O 8 0 rfl).2 12 12 k s gX gM (by omega) (by omega) R hs h45
end
section
/-! plain programs: numbers, hours, the end of a line -/
abbrev RDX : Reg := [(4, 6), (42, 0), (43, 0), (4, 7), (4, 8), (4, 9), (3, 3), (29, 0), (30, 0)]
abbrev RDM : Reg := [(117, 38), (146, 0), (117, 39), (117, 40), (117, 41), (117, 42), (117, 43), (117, 37), (141, 0)]
theorem PRel.frx {W : Reg} {tp : Nat → Int} {L T k s : Nat} {gX gM gX' : AG} (R : PRel tp L T k s gX gM) (f : FR W gX gX') (d : djR RDX W = true) : PRel tp L T k s gX' gM := by
  obtain ⟨a1, a2, a3, a4, a5, a6, a7, a8, a9, a10, a11, a12⟩ := R
  have c := f.cg d
  refine ⟨⟨by rw [c 4 5 rfl]; exact a1.1, fun j hj => by rw [c 42 j rfl, c 43 j rfl]; exact a1.2 j hj⟩, by rw [c 4 6 rfl]; exact a2, by rw [c 4 7 rfl]; exact a3, by rw [c 3 2 rfl]; exact a4, a5, a6, a7, a8, a9, a10, fun j hj => ?_, a12.1, by rw [c 4 8 rfl]; exact a12.2.1, a12.2.2⟩
  rw [c 29 j rfl, c 30 j rfl]
  exact a11 j hj
theorem PRel.frm {W : Reg} {tp : Nat → Int} {L T k s : Nat} {gX gM gM' : AG} (R : PRel tp L T k s gX gM) (f : FR W gM gM') (d : djR RDM W = true) : PRel tp L T k s gX gM' := by
  obtain ⟨a1, a2, a3, a4, a5, a6, a7, a8, a9, a10, a11, a12⟩ := R
  have c := f.cg d
  refine ⟨a1, a2, a3, a4, ⟨by rw [c 117 37 rfl]; exact a5.1, fun j hj => by rw [c 146 j rfl]; exact a5.2 j hj⟩, ⟨by rw [c 117 40 rfl]; exact a6.1, by rw [c 117 38 rfl]; exact a6.2.1, by rw [c 117 39 rfl]; exact a6.2.2.1, by rw [c 117 41 rfl]; exact a6.2.2.2⟩, by rw [c 117 41 rfl]; exact a7, by rw [c 117 36 rfl]; exact a8, a9, a10, fun j hj => ?_, fun j hj => ?_, a12.2.1, by rw [c 117 42 rfl]; exact a12.2.2⟩
  · rw [c 141 (2 * j) rfl, c 141 (2 * j + 1) rfl]; exact a11 j hj
  · rw [c 141 j rfl]; exact a12.1 j hj
theorem num_rel {tp : Nat → Int} {L T : Nat} (O : TkOk tp L T) {E : (Nat → Int) → Nat → Nat → Prop} {k0 s0 k s : Nat} {X0 M0 gX gM : AG} (A : Acc tp L T E k0 s0 X0 M0 k s gX gM) {c : Int} (hc : 0 ≤ c) (hc2 : c ≤ 99) : ∃ y rX rM, Parser_numberUpTo c gX = some (y, rX) ∧ M_number 0 c gM = some rM ∧ ((rM.1 = 1 ∧ y = gM 117 41 ∧ 0 ≤ y ∧ y ≤ c ∧ Acc tp L T E k0 s0 X0 M0 (k + 1) s rX rM.2 ∧ rM.2 117 36 = s) ∨ PBad tp L T X0 M0 rX rM) := by
  have R := A.2.2.2.2.1
  obtain ⟨x, m, v, tk, hxx, hm, nx, nm, hv, z1, z2, pl⟩ := R.see O
  have hT := O.T500
  have a2 := R.2.1
  have a3 := R.2.2.1
  have a9 := R.2.2.2.2.2.2.2.2.1
  have a7 := R.2.2.2.2.2.2.1
  have rg := tk_rng tk
  have kT : x ≠ 0 → k < T := fun h => Nat.lt_of_le_of_ne a9 (fun y => h (z2 y))
  have nk : nw (k : Int) = k := nwN k (by ((try clear nk); (try clear ik); (try clear nx1); (try clear nc); (try clear headX); (try clear wM); (try clear headM); (try clear n47); omega))
  have ik : ix (k : Int) = k := ixN k (by ((try clear nk); (try clear ik); (try clear nx1); (try clear nc); (try clear headX); (try clear wM); (try clear headM); (try clear n47); omega))
  have nx1 : nw (x - 1000) = x - 1000 := nw_id (by ((try clear nk); (try clear ik); (try clear nx1); (try clear nc); (try clear headX); (try clear wM); (try clear headM); (try clear n47); omega)) (by ((try clear nk); (try clear ik); (try clear nx1); (try clear nc); (try clear headX); (try clear wM); (try clear headM); (try clear n47); omega))
  have nc : nw c = c := nw_id (by ((try clear nk); (try clear ik); (try clear nx1); (try clear nc); (try clear headX); (try clear wM); (try clear headM); (try clear n47); omega)) (by ((try clear nk); (try clear ik); (try clear nx1); (try clear nc); (try clear headX); (try clear wM); (try clear headM); (try clear n47); omega))
  have headX : Parser_numberUpTo c gX = ((((if 0 ≤ x - 1000 then (if x - 1000 ≤ c then some gX else (Parser_fail 2 gX >>= fun r4 => some r4.2)) else (Parser_fail 1 gX >>= fun r6 => some r6.2)) : Option AG)) >>= fun r8 => (if nw (r8 4 7) = 0 then (Parser_goOn r8 >>= fun r11 => some (x - 1000, r11.2)) else some (0, r8))) := by
    unfold Parser_numberUpTo
    rw [a2, nk, ik, if_pos (by ((try clear nk); (try clear ik); (try clear nx1); (try clear nc); (try clear headX); (try clear wM); (try clear headM); (try clear n47); omega)), hxx, nx1, nc]
  have wM : (nw (M_isIn (gM 117 41) 0 c) = 0) = (gM 117 41 < 0 ∨ c < gM 117 41) := isIn0 (by ((try clear nk); (try clear ik); (try clear nx1); (try clear nc); (try clear headX); (try clear wM); (try clear headM); (try clear n47); omega)) (by ((try clear nk); (try clear ik); (try clear nx1); (try clear nc); (try clear headX); (try clear wM); (try clear headM); (try clear n47); omega)) (by decide) (by decide) (by ((try clear nk); (try clear ik); (try clear nx1); (try clear nc); (try clear headX); (try clear wM); (try clear headM); (try clear n47); omega)) (by ((try clear nk); (try clear ik); (try clear nx1); (try clear nc); (try clear headX); (try clear wM); (try clear headM); (try clear n47); omega))
  have headM : M_number 0 c gM = (if m = 2 then (if nw (M_isIn (gM 117 41) 0 c) = 0 then (M_bad 2 gM >>= fun r5 => if r5.1 = 0 ∨ r5.1 = 1 then some (r5.1, r5.2) else none) else (M_next0 gM >>= fun r3 => some (1, r3.2))) else (M_bad 1 gM >>= fun r8 => if r8.1 = 0 ∨ r8.1 = 1 then some (r8.1, r8.2) else none)) := by
    unfold M_number
    rw [hm, nm]
  have n47 : nw (gX 4 7) = 0 := by rw [a3, nw_0]
  by_cases c1 : 1000 ≤ x
  · have m2 := (tk_num tk).mp c1
    have vv := tk_val tk m2
    have hv2 := hv m2
    by_cases c2 : x - 1000 ≤ c
    · obtain ⟨gM', e1, e2, A1, f1⟩ := A.nx O (kT (by ((try clear nk); (try clear ik); (try clear nx1); (try clear nc); (try clear headX); (try clear wM); (try clear headM); (try clear n47); omega)))
      refine ⟨x - 1000, _, (1, gM'), ?_, ?_, Or.inl ⟨rfl, by ((try clear nk); (try clear ik); (try clear nx1); (try clear nc); (try clear headX); (try clear wM); (try clear headM); (try clear n47); omega), by ((try clear nk); (try clear ik); (try clear nx1); (try clear nc); (try clear headX); (try clear wM); (try clear headM); (try clear n47); omega), c2, A1, A1.2.2.2.2.1.2.2.2.2.2.2.2.1⟩⟩
      · rw [headX, if_pos (by ((try clear nk); (try clear ik); (try clear nx1); (try clear nc); (try clear headX); (try clear wM); (try clear headM); (try clear n47); omega)), if_pos c2, sb, if_pos n47, e1, sb]
      · rw [headM, if_pos m2, if_neg (by rw [wM]; ((try clear nk); (try clear ik); (try clear nx1); (try clear nc); (try clear headX); (try clear wM); (try clear headM); (try clear n47); omega)), e2, sb]
    · obtain ⟨e1, e2, B⟩ := A.bad O (w := 2) (by ((try clear nk); (try clear ik); (try clear nx1); (try clear nc); (try clear headX); (try clear wM); (try clear headM); (try clear n47); omega)) (by ((try clear nk); (try clear ik); (try clear nx1); (try clear nc); (try clear headX); (try clear wM); (try clear headM); (try clear n47); omega))
      obtain ⟨w, p, F, ext⟩ := B.x
      refine ⟨0, _, _, ?_, ?_, Or.inr B⟩
      · rw [headX, if_pos (by ((try clear nk); (try clear ik); (try clear nx1); (try clear nc); (try clear headX); (try clear wM); (try clear headM); (try clear n47); omega)), if_neg c2, e1, sb, sb, if_neg F.nw7]
      · rw [headM, if_pos m2, if_pos (by rw [wM]; ((try clear nk); (try clear ik); (try clear nx1); (try clear nc); (try clear headX); (try clear wM); (try clear headM); (try clear n47); omega)), e2, sb, if_pos (Or.inl rfl)]
  · have m2 : m ≠ 2 := fun q => c1 ((tk_num tk).mpr q)
    obtain ⟨e1, e2, B⟩ := A.bad O (w := 1) (by ((try clear nk); (try clear ik); (try clear nx1); (try clear nc); (try clear headX); (try clear wM); (try clear headM); (try clear n47); omega)) (by ((try clear nk); (try clear ik); (try clear nx1); (try clear nc); (try clear headX); (try clear wM); (try clear headM); (try clear n47); omega))
    obtain ⟨w, p, F, ext⟩ := B.x
    refine ⟨0, _, _, ?_, ?_, Or.inr B⟩
    · rw [headX, if_neg (by ((try clear nk); (try clear ik); (try clear nx1); (try clear nc); (try clear headX); (try clear wM); (try clear headM); (try clear n47); omega)), e1, sb, sb, if_neg F.nw7]
    · rw [headM, if_neg m2, e2, sb, if_pos (Or.inl rfl)]
/-- the class, behind what a line says: its condition, its end -/
def tlX (x : Int) (n : Nat) (r25 : AG) : Option (Int × AG) :=
  (some (up r25 33 n (r25 3 2)) >>= fun (g27 : AG) => (((if x = 101 then some g27 else (Parser_is 107 g27 >>= fun (r30 : Int) => (if nw r30 = 0 then some g27 else (Parser_goOn g27 >>= fun (r33 : Int × AG) => (Parser_readEither 12 0 r33.2 >>= fun (r35 : Int × AG) => some r35.2))))) : Option AG)) >>= fun (r37 : AG) => (some (up r37 34 n (r37 3 2)) >>= fun (g39 : AG) => (Parser_demand 59 g39 >>= fun (r41 : Int × AG) => (some (up r41.2 3 3 (r41.2 3 3 + 1)) >>= fun (g43 : AG) => some (0, g43)))))
abbrev RTX : Reg := [(33, 0), (34, 0), (3, 4)]
theorem xf_tl {tp : Nat → Int} {L T : Nat} {w p : Int} {g : AG} (F : XF tp L T w p g) (x : Int) (n : Nat) : ∃ g', tlX x n g = some (0, g') ∧ XF tp L T w p g' ∧ FR RTX g g' := by
  obtain ⟨s, s1, s2⟩ := F.2.2.2.2.1
  have f1 : FR RTX g (up g 33 n (g 3 2)) := Fr.up Fr.rf rfl
  have F1 : XF tp L T w p (up g 33 n (g 3 2)) := F.fr f1 rfl ⟨s, s1, by rw [f1 3 2 rfl]; exact s2⟩
  obtain ⟨g2, hg2⟩ : ∃ g2 : AG, g2 = up g 33 n (g 3 2) := ⟨_, rfl⟩
  rw [← hg2] at F1 f1
  have f2 : FR RTX g (up g2 34 n (g2 3 2)) := Fr.up f1 rfl
  have f2' : FR RTX g2 (up g2 34 n (g2 3 2)) := Fr.up Fr.rf rfl
  have F2 : XF tp L T w p (up g2 34 n (g2 3 2)) := F1.fr f2' rfl ⟨s, s1, by rw [f2 3 2 rfl]; exact s2⟩
  obtain ⟨g3, hg3⟩ : ∃ g3 : AG, g3 = up g2 34 n (g2 3 2) := ⟨_, rfl⟩
  rw [← hg3] at F2 f2
  have f3 : FR RTX g (up g3 3 3 (g3 3 3 + 1)) := Fr.up f2 rfl
  have f3' : FR RTX g3 (up g3 3 3 (g3 3 3 + 1)) := Fr.up Fr.rf rfl
  refine ⟨up g3 3 3 (g3 3 3 + 1), ?_, F2.fr f3' rfl ⟨s, s1, by rw [f3 3 2 rfl]; exact s2⟩, f3⟩
  have mid : (((if x = 101 then some g2 else (Parser_is 107 g2 >>= fun (r30 : Int) => (if nw r30 = 0 then some g2 else (Parser_goOn g2 >>= fun (r33 : Int × AG) => (Parser_readEither 12 0 r33.2 >>= fun (r35 : Int × AG) => some r35.2))))) : Option AG)) = some g2 := by
    by_cases c : x = 101
    · rw [if_pos c]
    · rw [if_neg c, xf_is F1, sb, nw_0, if_pos rfl]
  unfold tlX
  rw [sb, ← hg2, mid, sb, sb, ← hg3, xf_demand F2, sb, sb]
abbrev RWX : Reg := [(4, 7), (4, 8), (4, 9), (3, 3), (29, 0), (30, 0), (33, 0), (34, 0), (3, 4)]
abbrev RWM : Reg := [(117, 39), (117, 40), (117, 41), (117, 42), (117, 43), (117, 44), (117, 37), (117, 46), (141, 0), (139, 0), (140, 0)]
/-- behind the value of a line: when B ; or ; -/
theorem when_rel {tp : Nat → Int} {L T : Nat} (O : TkOk tp L T) {k s n : Nat} {gX gM : AG} (R : PRel tp L T k s gX gM) (hs : s ≤ k) (h45 : gM 117 45 = 0) (hn : n < 16) (h33 : gX 3 3 = n) {x : Int} (hx : x ≠ 101) : ∃ rX rM, tlX x n gX = some (0, rX) ∧ M_aLine_b n 1 gM = some rM ∧
    ((rM.1 = 1 ∧ ∃ k' s', PRel tp L T k' s' rX rM.2 ∧ s ≤ s' ∧ s' ≤ k' ∧ k < k' ∧ (rX 33 n = s ∧ rX 34 n = s' ∧ rM.2 139 n = s ∧ rM.2 140 n = s') ∧ (s < s' → EvB 22 (rM.2 141) s s') ∧ (∀ j, j < 2 * s → rM.2 141 j = gM 141 j) ∧ rX 3 3 = ((n + 1 : Nat) : Int) ∧ (∀ l, l ≠ n → rX 33 l = gX 33 l ∧ rX 34 l = gX 34 l ∧ rM.2 139 l = gM 139 l ∧ rM.2 140 l = gM 140 l)) ∨ (rM.1 = 0 ∧ PFail tp L T rX rM.2)) ∧ FR RWX gX rX ∧ FR RWM gM rM.2 := by
  have hT := O.T500
  have a8 := R.2.2.2.2.2.2.2.1
  have a4 := R.2.2.2.1
  obtain ⟨gA, hgA⟩ : ∃ gA : AG, gA = up gX 33 n (s : Int) := ⟨_, rfl⟩
  obtain ⟨mA, hmA⟩ : ∃ mA : AG, mA = up gM 139 n (s : Int) := ⟨_, rfl⟩
  have fA : FR [(33, 0)] gX gA := by rw [hgA]; exact Fr.up Fr.rf rfl
  have gmA : FR [(139, 0)] gM mA := by rw [hmA]; exact Fr.up Fr.rf rfl
  have RA : PRel tp L T k s gA mA := (R.frx fA rfl).frm gmA rfl
  have nn : nw (n : Int) = n := nwN n (by ((try clear nn); (try clear inn); (try clear xt); (try clear mt); (try clear mh); omega))
  have inn : ix (n : Int) = n := ixN n (by ((try clear nn); (try clear inn); (try clear xt); (try clear mt); (try clear mh); omega))
  have d45 : mA 117 45 = 0 := by rw [gmA 117 45 rfl]; exact h45
  obtain ⟨y, m, v, tk, hxx, hm, nx, nm, hv, z1, z2, pl⟩ := RA.see O
  have a2 := RA.2.1
  have a3 := RA.2.2.1
  have a9 := RA.2.2.2.2.2.2.2.2.1
  have kT : y ≠ 0 → k < T := fun h => Nat.lt_of_le_of_ne a9 (fun q => h (z2 q))
  have i107 : Parser_is 107 gA = some (if y = 107 then 1 else 0) := is_s a2 a3 (by ((try clear nn); (try clear inn); (try clear xt); (try clear mt); (try clear mh); omega)) hxx nx nwd.2.2.1
  have mT : y = 107 ↔ m = 3 := tk_wd tk (by ((try clear nn); (try clear inn); (try clear xt); (try clear mt); (try clear mh); omega)) (by ((try clear nn); (try clear inn); (try clear xt); (try clear mt); (try clear mh); omega))
  -- the last part: ;
  have last : ∀ (k1 s1 : Nat) (g1 m1 : AG), Acc tp L T EvT k s gA mA k1 s1 g1 m1 → (s < s1 → EvB 22 (m1 141) s s1) → ∃ rX rM, (some (up g1 34 n (g1 3 2)) >>= fun (g39 : AG) => (Parser_demand 59 g39 >>= fun (r41 : Int × AG) => (some (up r41.2 3 3 (r41.2 3 3 + 1)) >>= fun (g43 : AG) => some ((0 : Int), g43)))) = some (0, rX) ∧ M_aLine_b n 2 m1 = some rM ∧
    ((rM.1 = 1 ∧ ∃ k' s', PRel tp L T k' s' rX rM.2 ∧ s ≤ s' ∧ s' ≤ k' ∧ k < k' ∧ (rX 33 n = s ∧ rX 34 n = s' ∧ rM.2 139 n = s ∧ rM.2 140 n = s') ∧ (s < s' → EvB 22 (rM.2 141) s s') ∧ (∀ j, j < 2 * s → rM.2 141 j = gM 141 j) ∧ rX 3 3 = ((n + 1 : Nat) : Int) ∧ (∀ l, l ≠ n → rX 33 l = gX 33 l ∧ rX 34 l = gX 34 l ∧ rM.2 139 l = gM 139 l ∧ rM.2 140 l = gM 140 l)) ∨ (rM.1 = 0 ∧ PFail tp L T rX rM.2)) ∧ FR RWX gX rX ∧ FR RWM gM rM.2 := by
    intro k1 s1 g1 m1 A1 ev
    have R1 := A1.2.2.2.2.1
    have b8 := R1.2.2.2.2.2.2.2.1
    have b4 := R1.2.2.2.1
    have k1k := A1.2.2.2.2.2.1
    have ss := A1.2.2.2.2.2.2.1
    have sk := A1.2.2.2.2.2.2.2.1
    obtain ⟨gB, hgB⟩ : ∃ gB : AG, gB = up g1 34 n (s1 : Int) := ⟨_, rfl⟩
    obtain ⟨mB, hmB⟩ : ∃ mB : AG, mB = up m1 140 n (s1 : Int) := ⟨_, rfl⟩
    have fB : FR [(34, 0)] g1 gB := by rw [hgB]; exact Fr.up Fr.rf rfl
    have gmB : FR [(140, 0)] m1 mB := by rw [hmB]; exact Fr.up Fr.rf rfl
    have RB : PRel tp L T k1 s1 gB mB := (R1.frx fB rfl).frm gmB rfl
    obtain ⟨rX1, rM1, u1, u2, ur⟩ := need_rel O (Acc.start (E := EvT) RB trivial) (c := 59) (c' := 159) (by ((try clear nn); (try clear inn); (try clear xt); (try clear mt); (try clear mh); omega)) (by ((try clear nn); (try clear inn); (try clear xt); (try clear mt); (try clear mh); omega)) (by ((try clear nn); (try clear inn); (try clear xt); (try clear mt); (try clear mh); omega))
    obtain ⟨rX, hrX⟩ : ∃ rX : AG, rX = up rX1 3 3 (rX1 3 3 + 1) := ⟨_, rfl⟩
    have fX : FR [(3, 4)] rX1 rX := by rw [hrX]; exact Fr.up Fr.rf rfl
    have xh : (some (up g1 34 n (g1 3 2)) >>= fun (g39 : AG) => (Parser_demand 59 g39 >>= fun (r41 : Int × AG) => (some (up r41.2 3 3 (r41.2 3 3 + 1)) >>= fun (g43 : AG) => some ((0 : Int), g43)))) = some (0, rX) := by
      rw [sb, b4, ← hgB, u1, sb, sb, hrX]
    rcases ur with ⟨ok, k2, s2, A2⟩ | bad
    · have R2 := A2.2.2.2.2.1
      have c7 := A2.2.2.2.2.2.1
      have c8 := A2.2.2.2.2.2.2.1
      have c9 := A2.2.2.2.2.2.2.2.1
      have lt : k1 < k2 ∧ s2 = s1 := by
        unfold M_need at u2
        obtain ⟨y2, m2, v2, tk2, hxx2, hm2, nx2, nm2, hv2, z12, z22, pl2⟩ := RB.see O
        rw [hm2, nm2, nwd.2.2.2.2.2.2.2] at u2
        by_cases q : m2 = 159
        · have y59 : y2 ≠ 0 := fun q2 => by have := (tk_0 tk2).mp q2; ((try clear nn); (try clear inn); (try clear xt); (try clear mt); (try clear mh); omega)
          have kT2 : k1 < T := Nat.lt_of_le_of_ne RB.2.2.2.2.2.2.2.2.1 (fun q => y59 (z22 q))
          obtain ⟨gM', e1, e2, A3, f3⟩ := (Acc.start (E := EvT) RB trivial).nx O kT2
          rw [if_pos q, e2, sb] at u2
          have e := Option.some.inj u2
          rw [← e] at R2
          have p1 := R2.2.2.2.2.2.2.2.1
          have p2 := A3.2.2.2.2.1.2.2.2.2.2.2.2.1
          have p3 : ((s2 : Nat) : Int) = (s1 : Nat) := p1.symm.trans p2
          refine ⟨?_, by ((try clear nn); (try clear inn); (try clear xt); (try clear mt); (try clear mh); omega)⟩
          have x6 := R2.2.1
          have iy : Parser_is 59 gB = some (if y2 = 59 then 1 else 0) := is_s RB.2.1 RB.2.2.1 (by ((try clear nn); (try clear inn); (try clear xt); (try clear mt); (try clear mh); omega)) hxx2 nx2 nwc.2.2.2.2.2.2.2.2.2.2.2.2.1
          have y59' : y2 = 59 := (tk_sg tk2 (c := 59) (by ((try clear nn); (try clear inn); (try clear xt); (try clear mt); (try clear mh); omega)) (by ((try clear nn); (try clear inn); (try clear xt); (try clear mt); (try clear mh); omega))).mpr (by ((try clear nn); (try clear inn); (try clear xt); (try clear mt); (try clear mh); omega))
          unfold Parser_demand at u1
          rw [iy, if_pos y59', sb, nw_1, if_neg (by decide), e1, sb, sb] at u1
          have e4 := Option.some.inj u1
          have e5 : up gB 4 6 ((k1 : Int) + 1) = rX1 := congrArg Prod.snd e4
          rw [← e5, up_at, if_pos ⟨rfl, rfl⟩] at x6
          ((try clear nn); (try clear inn); (try clear xt); (try clear mt); (try clear mh); omega)
        · exfalso
          rw [if_neg q, bad_s, sb, if_pos (Or.inl rfl)] at u2
          have e := Option.some.inj u2
          rw [← e] at ok
          cases ok
      obtain ⟨lt1, rfl⟩ := lt
      have fX' : FR RWX gX rX := (FR.mo fA rfl).tr ((FR.mo A1.1 rfl).tr ((FR.mo fB rfl).tr ((FR.mo A2.1 rfl).tr (FR.mo fX rfl))))
      have fM' : FR RWM gM rM1.2 := (FR.mo gmA rfl).tr ((FR.mo A1.2.1 rfl).tr ((FR.mo gmB rfl).tr (FR.mo A2.2.1 rfl)))
      have q33 : ∀ l, rX 33 l = gA 33 l := fun l => by rw [fX 33 l rfl, A2.1 33 l rfl, fB 33 l rfl, A1.1 33 l rfl]
      have q34 : ∀ l, rX 34 l = gB 34 l := fun l => by rw [fX 34 l rfl, A2.1 34 l rfl]
      have p34 : ∀ l, g1 34 l = gX 34 l := fun l => by rw [A1.1 34 l rfl, fA 34 l rfl]
      have q39 : ∀ l, rM1.2 139 l = mA 139 l := fun l => by rw [A2.2.1 139 l rfl, gmB 139 l rfl, A1.2.1 139 l rfl]
      have q40 : ∀ l, rM1.2 140 l = mB 140 l := fun l => by rw [A2.2.1 140 l rfl]
      have p40 : ∀ l, m1 140 l = gM 140 l := fun l => by rw [A1.2.1 140 l rfl, gmA 140 l rfl]
      have lo : ∀ j, j < 2 * s2 → rM1.2 141 j = m1 141 j := fun j hj => by rw [A2.2.2.2.1 j hj, gmB 141 j rfl]
      refine ⟨rX, rM1, xh, ?_, Or.inl ⟨ok, k2, s2, R2.frx fX rfl, ss, by ((try clear nn); (try clear inn); (try clear xt); (try clear mt); (try clear mh); omega), by ((try clear nn); (try clear inn); (try clear xt); (try clear mt); (try clear mh); omega), ⟨?_, ?_, ?_, ?_⟩, fun h => (ev h).cd ss lo, fun j hj => ?_, ?_, fun l hl => ⟨?_, ?_, ?_, ?_⟩⟩, fX', fM'⟩
      · rw [M_aLine_b.eq_1 _ 2, if_neg (by decide), if_pos rfl, nn, inn, b8, if_pos (by ((try clear nn); (try clear inn); (try clear xt); (try clear mt); (try clear mh); omega)), sb, ← hmB, u2, sb, ok, if_pos (Or.inr rfl), ← ok]
      · rw [q33, hgA, up_at, if_pos ⟨rfl, rfl⟩]
      · rw [q34, hgB, up_at, if_pos ⟨rfl, rfl⟩]
      · rw [q39, hmA, up_at, if_pos ⟨rfl, rfl⟩]
      · rw [q40, hmB, up_at, if_pos ⟨rfl, rfl⟩]
      · rw [lo j (by ((try clear nn); (try clear inn); (try clear xt); (try clear mt); (try clear mh); omega)), A1.2.2.2.1 j hj, gmA 141 j rfl]
      · have e3 : rX1 3 3 = n := by rw [A2.1 3 3 rfl, fB 3 3 rfl, A1.1 3 3 rfl, fA 3 3 rfl]; exact h33
        rw [hrX, up_at, if_pos ⟨rfl, rfl⟩, e3]; rfl
      · rw [q33, hgA, up_at, if_neg (fun q => hl q.2)]
      · rw [q34, hgB, up_at, if_neg (fun q => hl q.2), p34]
      · rw [q39, hmA, up_at, if_neg (fun q => hl q.2)]
      · rw [q40, hmB, up_at, if_neg (fun q => hl q.2), p40]
    · obtain ⟨b1, b2, b3, w, p, F, b4', b5⟩ := bad
      obtain ⟨s', t1, t2⟩ := F.2.2.2.2.1
      refine ⟨rX, rM1, xh, ?_, Or.inr ⟨b1, w, p, F.fr fX rfl ⟨s', t1, by rw [fX 3 2 rfl]; exact t2⟩, b4', b5⟩, (FR.mo fA rfl).tr ((FR.mo A1.1 rfl).tr ((FR.mo fB rfl).tr ((FR.mo b2 rfl).tr (FR.mo fX rfl)))), (FR.mo gmA rfl).tr ((FR.mo A1.2.1 rfl).tr ((FR.mo gmB rfl).tr (FR.mo b3 rfl)))⟩
      rw [M_aLine_b.eq_1 _ 2, if_neg (by decide), if_pos rfl, nn, inn, b8, if_pos (by ((try clear nn); (try clear inn); (try clear xt); (try clear mt); (try clear mh); omega)), sb, ← hmB, u2, sb, b1, if_pos (Or.inl rfl), ← b1]
  have xt : tlX x n gX = ((((Parser_is 107 gA >>= fun (r30 : Int) => (if nw r30 = 0 then some gA else (Parser_goOn gA >>= fun (r33 : Int × AG) => (Parser_readEither 12 0 r33.2 >>= fun (r35 : Int × AG) => some r35.2)))) : Option AG)) >>= fun (g1 : AG) => (some (up g1 34 n (g1 3 2)) >>= fun (g39 : AG) => (Parser_demand 59 g39 >>= fun (r41 : Int × AG) => (some (up r41.2 3 3 (r41.2 3 3 + 1)) >>= fun (g43 : AG) => some ((0 : Int), g43))))) := by
    unfold tlX
    rw [a4, sb, ← hgA, if_neg hx]
  have mt : M_aLine_b n 1 gM = (if m = 3 then (M_next0 mA >>= fun r5 => (M_any (M_one 12) r5.2 >>= fun r7 => (if nw r7.1 = 0 then some (0, r7.2) else M_aLine_b n 2 r7.2))) else M_aLine_b n 2 mA) := by
    rw [M_aLine_b.eq_1 _ 1, if_pos rfl, nn, inn, a8, if_pos (by ((try clear nn); (try clear inn); (try clear xt); (try clear mt); (try clear mh); omega)), sb, ← hmA, hm, nm]
  have A0 : Acc tp L T EvT k s gA mA k s gA mA := Acc.start RA trivial
  by_cases c : y = 107
  · obtain ⟨gM1, e1, e2, A1, f1⟩ := A0.nx O (kT (by ((try clear nn); (try clear inn); (try clear xt); (try clear mt); (try clear mh); omega)))
    obtain ⟨rX1, rM1, u1, u2, ur⟩ := any_0 O A1.2.2.2.2.1 (by ((try clear nn); (try clear inn); (try clear xt); (try clear mt); (try clear mh); omega)) (by rw [A1.2.2.1]; exact d45)
    have xh : tlX x n gX = (some (up rX1 34 n (rX1 3 2)) >>= fun (g39 : AG) => (Parser_demand 59 g39 >>= fun (r41 : Int × AG) => (some (up r41.2 3 3 (r41.2 3 3 + 1)) >>= fun (g43 : AG) => some ((0 : Int), g43)))) := by
      rw [xt, i107, if_pos c, sb, nw_1, if_neg (by decide), e1, sb, u1, sb, sb]
    have mh : M_aLine_b n 1 gM = (if nw rM1.1 = 0 then some (0, rM1.2) else M_aLine_b n 2 rM1.2) := by
      rw [mt, if_pos (mT.mp c), e2, sb, u2, sb]
    rcases ur with ⟨ok, k1, s1, B⟩ | bad
    · obtain ⟨rX, rM, v1, v2, vr⟩ := last k1 s1 rX1 rM1.2 (A1.join B stbT (fun _ _ => trivial)) (fun _ => B.2.2.2.2.2.2.2.2)
      exact ⟨rX, rM, by rw [xh]; exact v1, by rw [mh, ok, nw_1, if_neg (by decide)]; exact v2, vr⟩
    · obtain ⟨b1, b2, b3, w, p, F, b4', b5⟩ := bad
      obtain ⟨s', t1, t2⟩ := F.2.2.2.2.1
      have f2 : FR [(34, 0)] rX1 (up rX1 34 n (rX1 3 2)) := Fr.up Fr.rf rfl
      have F2 : XF tp L T w p (up rX1 34 n (rX1 3 2)) := F.fr f2 rfl ⟨s', t1, by rw [f2 3 2 rfl]; exact t2⟩
      obtain ⟨g2, hg2⟩ : ∃ g2 : AG, g2 = up rX1 34 n (rX1 3 2) := ⟨_, rfl⟩
      rw [← hg2] at F2 f2
      have f3 : FR [(3, 4)] g2 (up g2 3 3 (g2 3 3 + 1)) := Fr.up Fr.rf rfl
      have F3 : XF tp L T w p (up g2 3 3 (g2 3 3 + 1)) := F2.fr f3 rfl ⟨s', t1, by rw [f3 3 2 rfl, f2 3 2 rfl]; exact t2⟩
      exact ⟨_, (0, rM1.2), by rw [xh, sb, ← hg2, xf_demand F2, sb, sb], by rw [mh, b1, nw_0, if_pos rfl], Or.inr ⟨rfl, w, p, F3, b4', b5⟩, (FR.mo fA rfl).tr ((FR.mo A1.1 rfl).tr ((FR.mo b2 rfl).tr ((FR.mo f2 rfl).tr (FR.mo f3 rfl)))), (FR.mo gmA rfl).tr ((FR.mo A1.2.1 rfl).tr (FR.mo b3 rfl))⟩
  · obtain ⟨rX, rM, v1, v2, vr⟩ := last k s gA mA A0 (fun h => by ((try clear nn); (try clear inn); (try clear xt); (try clear mt); (try clear mh); omega))
    exact ⟨rX, rM, by rw [xt, i107, if_neg c, sb, nw_0, if_pos rfl, sb]; exact v1, by rw [mt, if_neg (fun q => c (mT.mpr q))]; exact v2, vr⟩
end
section
/-! plain programs: a tunnel line -/
def TnR (gX gM : AG) : Prop := ∀ i : Nat, i < 15 → ∀ u : Nat, u < 2 → tnOk (gM 145 (2 * i + u)) (gM 143 (2 * (2 * i + u))) (gM 143 (2 * (2 * i + u) + 1)) (gX 37 (15 * u + i)) (gX 38 (15 * u + i)) (tb (gX 3 10) (15 * u + i))
theorem TnR.fr {W V : Reg} {gX gM gX' gM' : AG} (h : TnR gX gM) (fx : FR W gX gX') (dx : djR [(37, 0), (38, 0), (3, 11)] W = true) (fm : FR V gM gM') (dm : djR [(143, 0), (145, 0)] V = true) : TnR gX' gM' := by
  intro i hi u hu
  have cx := fx.cg dx
  have cm := fm.cg dm
  rw [cx 37 _ rfl, cx 38 _ rfl, cx 3 10 rfl, cm 143 _ rfl, cm 143 _ rfl, cm 145 _ rfl]
  exact h i hi u hu
abbrev RUX : Reg := [(4, 7), (4, 8), (4, 9), (3, 3), (29, 0), (30, 0), (37, 0), (38, 0), (3, 11)]
abbrev RUM : Reg := [(117, 39), (117, 40), (117, 41), (117, 42), (117, 43), (117, 44), (117, 37), (117, 46), (141, 0), (143, 0), (145, 0)]
theorem tun_rel {tp : Nat → Int} {L T : Nat} (O : TkOk tp L T) {k s : Nat} {gX gM : AG} (R : PRel tp L T k s gX gM) (TN : TnR gX gM) : ∃ rX rM, Parser_readTunnel gX = some (0, rX) ∧ M_aTunnel gM = some rM ∧
    ((rM.1 = 1 ∧ ∃ k', PRel tp L T k' s rX rM.2 ∧ k ≤ k' ∧ TnR rX rM.2 ∧ ∀ j, j < 2 * s → rM.2 141 j = gM 141 j) ∨ (rM.1 = 0 ∧ PFail tp L T rX rM.2)) ∧ FR RUX gX rX ∧ FR RUM gM rM.2 := by
  have hT := O.T500
  obtain ⟨y, rX1, rM1, u1, u2, ur⟩ := num_rel O (Acc.start (E := EvT) R trivial) (c := 14) (by ((try clear et3); (try clear has); (try clear xb); (try clear mb); (try clear n145); (try clear mh3); (try clear mh5); omega)) (by ((try clear et3); (try clear has); (try clear xb); (try clear mb); (try clear n145); (try clear mh3); (try clear mh5); omega))
  rcases ur with ⟨ok, hy, hy0, hy1, A1, h36⟩ | bad
  · obtain ⟨i, hi⟩ := natOf hy0
    subst hi
    have i14 : i ≤ 14 := by ((try clear et3); (try clear has); (try clear xb); (try clear mb); (try clear n145); (try clear mh3); (try clear mh5); omega)
    have R1 := A1.2.2.2.2.1
    obtain ⟨x, m, v, tk, hxx, hm, nx, nm, hv, z1, z2, pl⟩ := R1.see O
    have a2 := R1.2.1
    have a3 := R1.2.2.1
    have a9 := R1.2.2.2.2.2.2.2.2.1
    have kT : x ≠ 0 → k + 1 < T := fun h => Nat.lt_of_le_of_ne a9 (fun q => h (z2 q))
    have m105 : x = 105 ↔ m = 7 := tk_ud tk (by ((try clear et3); (try clear has); (try clear xb); (try clear mb); (try clear n145); (try clear mh3); (try clear mh5); omega)) (by ((try clear et3); (try clear has); (try clear xb); (try clear mb); (try clear n145); (try clear mh3); (try clear mh5); omega))
    have m106 : x = 106 ↔ m = 8 := tk_ud tk (by ((try clear et3); (try clear has); (try clear xb); (try clear mb); (try clear n145); (try clear mh3); (try clear mh5); omega)) (by ((try clear et3); (try clear has); (try clear xb); (try clear mb); (try clear n145); (try clear mh3); (try clear mh5); omega))
    have i105 : Parser_is 105 rX1 = some (if x = 105 then 1 else 0) := is_s a2 a3 (by ((try clear et3); (try clear has); (try clear xb); (try clear mb); (try clear n145); (try clear mh3); (try clear mh5); omega)) hxx nx nwd.1
    have i106 : Parser_is 106 rX1 = some (if x = 106 then 1 else 0) := is_s a2 a3 (by ((try clear et3); (try clear has); (try clear xb); (try clear mb); (try clear n145); (try clear mh3); (try clear mh5); omega)) hxx nx nwd.2.1
    have t1 : TnR rX1 rM1.2 := TN.fr A1.1 rfl A1.2.1 rfl
    by_cases c : x = 105 ∨ x = 106
    · obtain ⟨u, hu⟩ : ∃ u : Nat, u = if x = 105 then 0 else 1 := ⟨_, rfl⟩
      have u2' : u < 2 := by
        rw [hu]
        by_cases q : x = 105
        · rw [if_pos q]; ((try clear et3); (try clear has); (try clear xb); (try clear mb); (try clear n145); (try clear mh3); (try clear mh5); omega)
        · rw [if_neg q]; ((try clear et3); (try clear has); (try clear xb); (try clear mb); (try clear n145); (try clear mh3); (try clear mh5); omega)
      have et3 : (if nw (if x = 105 then 1 else 0) = 0 then 15 + (i : Int) else (i : Int)) = ((15 * u + i : Nat) : Int) := by
        rw [hu]
        by_cases q : x = 105
        · rw [if_pos q, if_pos q, nw_1, if_neg (by decide)]; ((try clear et3); (try clear has); (try clear xb); (try clear mb); (try clear n145); (try clear mh3); (try clear mh5); omega)
        · rw [if_neg q, if_neg q, nw_0, if_pos rfl]; ((try clear et3); (try clear has); (try clear xb); (try clear mb); (try clear n145); (try clear mh3); (try clear mh5); omega)
      have et1 : (2 * (i : Int) + if m = 7 then 0 else 1) = ((2 * i + u : Nat) : Int) := by
        rw [hu]
        by_cases q : x = 105
        · rw [if_pos q, if_pos (m105.mp q)]; ((try clear et3); (try clear has); (try clear xb); (try clear mb); (try clear n145); (try clear mh3); (try clear mh5); omega)
        · rw [if_neg q, if_neg (fun z => q (m105.mpr z))]; ((try clear et3); (try clear has); (try clear xb); (try clear mb); (try clear n145); (try clear mh3); (try clear mh5); omega)
      have xh : Parser_readTunnel gX = Parser_readTunnel_b i rX1 := by
        unfold Parser_readTunnel
        rw [u1, sb]
        dsimp only
        rw [i105, sb, i106, sb]
        by_cases q : x = 105
        · rw [if_pos q, nw_1, if_neg (by decide)]
        · rw [if_neg q, nw_0, if_pos rfl, if_pos (show x = 106 by ((try clear et3); (try clear has); (try clear xb); (try clear mb); (try clear n145); (try clear mh3); (try clear mh5); omega)), nw_1, if_neg (by decide)]
      have mh : M_aTunnel gM = M_aTunnel_b i rM1.2 := by
        unfold M_aTunnel
        rw [u2, sb, ok, nw_1, if_neg (by decide), hm, nm, ← hy]
        by_cases q : x = 105
        · rw [if_pos (m105.mp q)]
        · rw [if_neg (fun z => q (m105.mpr z)), if_pos (m106.mp (by ((try clear et3); (try clear has); (try clear xb); (try clear mb); (try clear n145); (try clear mh3); (try clear mh5); omega)))]
      have tq := t1 i (by ((try clear et3); (try clear has); (try clear xb); (try clear mb); (try clear n145); (try clear mh3); (try clear mh5); omega)) u u2'
      obtain ⟨r, hr⟩ : ∃ r, r = 15 * u + i := ⟨_, rfl⟩
      obtain ⟨q, hq⟩ : ∃ q, q = 2 * i + u := ⟨_, rfl⟩
      have r30 : r < 30 := by ((try clear et3); (try clear has); (try clear xb); (try clear mb); (try clear n145); (try clear mh3); (try clear mh5); omega)
      have q30 : q < 30 := by ((try clear et3); (try clear has); (try clear xb); (try clear mb); (try clear n145); (try clear mh3); (try clear mh5); omega)
      rw [← hr, ← hq] at tq
      have bq := bit_q (rX1 3 10) r (by ((try clear et3); (try clear has); (try clear xb); (try clear mb); (try clear n145); (try clear mh3); (try clear mh5); omega))
      have has : nw (Rules_hasTunnel_3 (r : Int) rX1) = if tb (rX1 3 10) r = true then 1 else 0 := by
        unfold Rules_hasTunnel_3
        rw [bq]
        by_cases z : tb (rX1 3 10) r = true
        · rw [if_pos z, if_neg (by decide), nw_1]
        · rw [if_neg z, if_pos rfl, nw_0]
      have xb : Parser_readTunnel_b i rX1 = (if nw (Rules_hasTunnel_3 (r : Int) rX1) = 0 then (Parser_goOn rX1 >>= fun r6 => (some (up r6.2 3 10 (orI (r6.2 3 10) (shlI 1 r))) >>= fun g8 => (Parser_numberUpTo 24 g8 >>= fun r10 => (some (up r10.2 37 r r10.1) >>= fun g13 => (Parser_numberUpTo 24 g13 >>= fun r15 => (some (up r15.2 38 r r15.1) >>= fun g17 => some ((0 : Int), g17))))))) else (Parser_fail 3 rX1 >>= fun r19 => some (0, r19.2))) := by
        unfold Parser_readTunnel_b
        rw [i105, sb, et3, ← hr, sb, nwN r (by ((try clear et3); (try clear has); (try clear xb); (try clear mb); (try clear n145); (try clear mh3); (try clear mh5); omega)), ixN r (by ((try clear et3); (try clear has); (try clear xb); (try clear mb); (try clear n145); (try clear mh3); (try clear mh5); omega))]
        have hr30 : 0 ≤ (r : Int) ∧ (r : Int) < 30 := by ((try clear et3); (try clear has); (try clear xb); (try clear mb); (try clear n145); (try clear mh3); (try clear mh5); omega)
        simp only [if_pos hr30]
      have mb : M_aTunnel_b i rM1.2 = (if nw (rM1.2 145 q) = 0 then (some (up rM1.2 145 q 1) >>= fun g5 => (M_next0 g5 >>= fun r7 => (M_hours_117_143_143 ((2 * q : Nat) : Int) ((2 * q + 1 : Nat) : Int) r7.2 >>= fun r9 => if r9.1 = 0 ∨ r9.1 = 1 then some (r9.1, r9.2) else none))) else (M_bad 3 rM1.2 >>= fun r12 => if r12.1 = 0 ∨ r12.1 = 1 then some (r12.1, r12.2) else none)) := by
        unfold M_aTunnel_b
        rw [hm, nm, sb, et1, ← hq, nwN q (by ((try clear et3); (try clear has); (try clear xb); (try clear mb); (try clear n145); (try clear mh3); (try clear mh5); omega)), ixN q (by ((try clear et3); (try clear has); (try clear xb); (try clear mb); (try clear n145); (try clear mh3); (try clear mh5); omega)), if_pos (by ((try clear et3); (try clear has); (try clear xb); (try clear mb); (try clear n145); (try clear mh3); (try clear mh5); omega))]
        have e1 : 2 * (q : Int) = ((2 * q : Nat) : Int) := by ((try clear et3); (try clear has); (try clear xb); (try clear mb); (try clear n145); (try clear mh3); (try clear mh5); omega)
        have e2 : ((2 * q : Nat) : Int) + 1 = ((2 * q + 1 : Nat) : Int) := rfl
        rw [e1, e2]
      rw [xh, mh, xb, mb, has]
      by_cases z : tb (rX1 3 10) r = true
      · obtain ⟨e1, e2, B⟩ := A1.bad O (w := 3) (by ((try clear et3); (try clear has); (try clear xb); (try clear mb); (try clear n145); (try clear mh3); (try clear mh5); omega)) (by ((try clear et3); (try clear has); (try clear xb); (try clear mb); (try clear n145); (try clear mh3); (try clear mh5); omega))
        have n145 : nw (rM1.2 145 q) = 1 := by rw [tq.1, if_pos z]; exact nw_1
        refine ⟨failX rX1 (k + 1) 3, (0, badM rM1.2 3), by rw [if_pos z, if_neg (by decide), e1, sb], by rw [n145, if_neg (by decide), e2, sb, if_pos (Or.inl rfl)], Or.inr ⟨rfl, B.2.2.2⟩, FR.mo B.2.1 rfl, FR.mo B.2.2.1 rfl⟩
      · have n145 : nw (rM1.2 145 q) = 0 := by rw [tq.1, if_neg z]; exact nw_0
        obtain ⟨m5, hm5⟩ : ∃ m5 : AG, m5 = up rM1.2 145 q 1 := ⟨_, rfl⟩
        have fm5 : FR [(145, 0)] rM1.2 m5 := by rw [hm5]; exact Fr.up Fr.rf rfl
        obtain ⟨m6, e1, e2, R2, f6⟩ := (R1.frm fm5 rfl).nx O (kT (by ((try clear et3); (try clear has); (try clear xb); (try clear mb); (try clear n145); (try clear mh3); (try clear mh5); omega)))
        obtain ⟨g8, hg8⟩ : ∃ g8 : AG, g8 = up (up rX1 4 6 (((k + 1 : Nat) : Int) + 1)) 3 10 (orI ((up rX1 4 6 (((k + 1 : Nat) : Int) + 1)) 3 10) (shlI 1 r)) := ⟨_, rfl⟩
        have f8 : FR [(3, 11)] (up rX1 4 6 (((k + 1 : Nat) : Int) + 1)) g8 := by rw [hg8]; exact Fr.up Fr.rf rfl
        obtain ⟨m7, hm7⟩ : ∃ m7 : AG, m7 = up m6 143 (2 * q) (m6 117 41) := ⟨_, rfl⟩
        have fm7 : FR [(143, 0)] m6 m7 := by rw [hm7]; exact Fr.up Fr.rf rfl
        have R3 := (R2.frx f8 rfl).frm fm7 rfl
        obtain ⟨y1, rX3, rM3, v1, v2, vr⟩ := num_rel O (Acc.start (E := EvT) R3 trivial) (c := 24) (by ((try clear et3); (try clear has); (try clear xb); (try clear mb); (try clear n145); (try clear mh3); (try clear mh5); omega)) (by ((try clear et3); (try clear has); (try clear xb); (try clear mb); (try clear n145); (try clear mh3); (try clear mh5); omega))
        have fX8 : FR RUX gX g8 := (FR.mo A1.1 rfl).tr ((Fr.up (W := inR RUX) Fr.rf rfl).tr (FR.mo f8 rfl))
        have fM7 : FR RUM gM m7 := (FR.mo A1.2.1 rfl).tr ((FR.mo fm5 rfl).tr ((FR.mo f6 rfl).tr (FR.mo fm7 rfl)))
        have c41 : m7 117 41 = m6 117 41 := fm7 117 41 rfl
        have xh3 : (Parser_goOn rX1 >>= fun r6 => (some (up r6.2 3 10 (orI (r6.2 3 10) (shlI 1 r))) >>= fun g8 => (Parser_numberUpTo 24 g8 >>= fun r10 => (some (up r10.2 37 r r10.1) >>= fun g13 => (Parser_numberUpTo 24 g13 >>= fun r15 => (some (up r15.2 38 r r15.1) >>= fun g17 => some ((0 : Int), g17))))))) = (Parser_numberUpTo 24 (up rX3 37 r y1) >>= fun r15 => (some (up r15.2 38 r r15.1) >>= fun g17 => some ((0 : Int), g17))) := by
          rw [e1, sb, sb, ← hg8, v1, sb, sb]
        have mh3 : (some (up rM1.2 145 q 1) >>= fun g5 => (M_next0 g5 >>= fun r7 => (M_hours_117_143_143 ((2 * q : Nat) : Int) ((2 * q + 1 : Nat) : Int) r7.2 >>= fun r9 => if r9.1 = 0 ∨ r9.1 = 1 then some (r9.1, r9.2) else none))) = ((if nw rM3.1 = 0 then some ((0 : Int), rM3.2) else (some (up rM3.2 143 (2 * q + 1) (rM3.2 117 41)) >>= fun g8 => (M_number 0 24 g8 >>= fun r10 => if r10.1 = 0 ∨ r10.1 = 1 then some (r10.1, r10.2) else none))) >>= fun r9 => if r9.1 = 0 ∨ r9.1 = 1 then some (r9.1, r9.2) else none) := by
          rw [sb, ← hm5, e2, sb]
          unfold M_hours_117_143_143
          dsimp only
          rw [nwN (2 * q) (by ((try clear et3); (try clear has); (try clear xb); (try clear mb); (try clear n145); (try clear mh3); (try clear mh5); omega)), ixN (2 * q) (by ((try clear et3); (try clear has); (try clear xb); (try clear mb); (try clear n145); (try clear mh3); (try clear mh5); omega)), nwN (2 * q + 1) (by ((try clear et3); (try clear has); (try clear xb); (try clear mb); (try clear n145); (try clear mh3); (try clear mh5); omega)), ixN (2 * q + 1) (by ((try clear et3); (try clear has); (try clear xb); (try clear mb); (try clear n145); (try clear mh3); (try clear mh5); omega)), if_pos (by ((try clear et3); (try clear has); (try clear xb); (try clear mb); (try clear n145); (try clear mh3); (try clear mh5); omega)), sb, ← hm7, v2, sb, if_pos (show 0 ≤ ((2 * q + 1 : Nat) : Int) ∧ ((2 * q + 1 : Nat) : Int) < 60 by ((try clear et3); (try clear has); (try clear xb); (try clear mb); (try clear n145); (try clear mh3); (try clear mh5); omega))]
        rw [if_neg z, if_pos rfl, n145, if_pos rfl, xh3, mh3]
        rcases vr with ⟨ok3, hy3, y30, y31, A3, _⟩ | bad3
        · have R4 := A3.2.2.2.2.1
          obtain ⟨g13, hg13⟩ : ∃ g13 : AG, g13 = up rX3 37 r y1 := ⟨_, rfl⟩
          have f13 : FR [(37, 0)] rX3 g13 := by rw [hg13]; exact Fr.up Fr.rf rfl
          obtain ⟨m8, hm8⟩ : ∃ m8 : AG, m8 = up rM3.2 143 (2 * q + 1) (rM3.2 117 41) := ⟨_, rfl⟩
          have fm8 : FR [(143, 0)] rM3.2 m8 := by rw [hm8]; exact Fr.up Fr.rf rfl
          have R5 := (R4.frx f13 rfl).frm fm8 rfl
          obtain ⟨y2, rX5, rM5, w1, w2, wr⟩ := num_rel O (Acc.start (E := EvT) R5 trivial) (c := 24) (by ((try clear et3); (try clear has); (try clear xb); (try clear mb); (try clear n145); (try clear mh3); (try clear mh5); omega)) (by ((try clear et3); (try clear has); (try clear xb); (try clear mb); (try clear n145); (try clear mh3); (try clear mh5); omega))
          have fX13 : FR RUX gX g13 := fX8.tr ((FR.mo A3.1 rfl).tr (FR.mo f13 rfl))
          have fM8 : FR RUM gM m8 := fM7.tr ((FR.mo A3.2.1 rfl).tr (FR.mo fm8 rfl))
          have c41b : m8 117 41 = rM3.2 117 41 := fm8 117 41 rfl
          obtain ⟨rX, hrX⟩ : ∃ rX : AG, rX = up rX5 38 r y2 := ⟨_, rfl⟩
          have frX : FR [(38, 0)] rX5 rX := by rw [hrX]; exact Fr.up Fr.rf rfl
          have xh5 : (Parser_numberUpTo 24 (up rX3 37 r y1) >>= fun r15 => (some (up r15.2 38 r r15.1) >>= fun g17 => some ((0 : Int), g17))) = some (0, rX) := by
            rw [← hg13, w1, sb, sb, hrX]
          have b01 : rM5.1 = 0 ∨ rM5.1 = 1 := by
            rcases wr with ⟨q, _⟩ | q
            · exact Or.inr q
            · exact Or.inl q.1
          have mh5 : ((if nw rM3.1 = 0 then some ((0 : Int), rM3.2) else (some (up rM3.2 143 (2 * q + 1) (rM3.2 117 41)) >>= fun g8 => (M_number 0 24 g8 >>= fun r10 => if r10.1 = 0 ∨ r10.1 = 1 then some (r10.1, r10.2) else none))) >>= fun r9 => if r9.1 = 0 ∨ r9.1 = 1 then some (r9.1, r9.2) else none) = some rM5 := by
            rw [ok3, nw_1, if_neg (by decide), sb, ← hm8, w2, sb, if_pos b01, sb]
            exact if_pos b01
          rw [xh5, mh5]
          rcases wr with ⟨ok5, hy5, y50, y51, A5, _⟩ | bad5
          · have R6 := (A5.2.2.2.2.1).frx frX rfl
            have fin : FR RUX gX rX := fX13.tr ((FR.mo A5.1 rfl).tr (FR.mo frX rfl))
            have finM : FR RUM gM rM5.2 := fM8.tr (FR.mo A5.2.1 rfl)
            refine ⟨rX, rM5, rfl, rfl, Or.inl ⟨ok5, k + 1 + 1 + 1 + 1, R6, by ((try clear et3); (try clear has); (try clear xb); (try clear mb); (try clear n145); (try clear mh3); (try clear mh5); omega), ?_, ?_⟩, fin, finM⟩
            · intro i' hi' u' hu'
              have old := t1 i' hi' u' hu'
              have x310 : rX 3 10 = orI (rX1 3 10) (shlI 1 r) := by
                rw [frX 3 10 rfl, A5.1 3 10 rfl, f13 3 10 rfl, A3.1 3 10 rfl, hg8, up_at, if_pos ⟨rfl, rfl⟩, up_at, if_neg (by ((try clear et3); (try clear has); (try clear xb); (try clear mb); (try clear n145); (try clear mh3); (try clear mh5); omega))]
              have x37 : ∀ l, rX 37 l = if l = r then y1 else rX1 37 l := fun l => by
                rw [frX 37 l rfl, A5.1 37 l rfl, hg13, up_at]
                by_cases e : l = r
                · rw [if_pos ⟨rfl, e⟩, if_pos e]
                · rw [if_neg (fun q => e q.2), if_neg e, A3.1 37 l rfl, f8 37 l rfl, up_at, if_neg (fun q => absurd q.1 (by decide))]
              have x38 : ∀ l, rX 38 l = if l = r then y2 else rX1 38 l := fun l => by
                rw [hrX, up_at]
                by_cases e : l = r
                · rw [if_pos ⟨rfl, e⟩, if_pos e]
                · rw [if_neg (fun q => e q.2), if_neg e, A5.1 38 l rfl, f13 38 l rfl, A3.1 38 l rfl, f8 38 l rfl, up_at, if_neg (fun q => absurd q.1 (by decide))]
              have x145 : ∀ l, rM5.2 145 l = if l = q then 1 else rM1.2 145 l := fun l => by
                rw [A5.2.1 145 l rfl, fm8 145 l rfl, A3.2.1 145 l rfl, fm7 145 l rfl, f6 145 l rfl, hm5, up_at]
                by_cases e : l = q
                · rw [if_pos ⟨rfl, e⟩, if_pos e]
                · rw [if_neg (fun q => e q.2), if_neg e]
              have x143 : ∀ l, rM5.2 143 l = if l = 2 * q + 1 then y2 else if l = 2 * q then y1 else rM1.2 143 l := fun l => by
                rw [A5.2.1 143 l rfl, hm8, up_at]
                by_cases e : l = 2 * q + 1
                · rw [if_pos ⟨rfl, e⟩, if_pos e, hy5, c41b]
                · rw [if_neg (fun q => e q.2), if_neg e, A3.2.1 143 l rfl, hm7, up_at]
                  by_cases e2 : l = 2 * q
                  · rw [if_pos ⟨rfl, e2⟩, if_pos e2, hy3, c41]
                  · rw [if_neg (fun q => e2 q.2), if_neg e2, f6 143 l rfl, fm5 143 l rfl]
              have etb : tb (rX 3 10) (15 * u' + i') = (tb (rX1 3 10) (15 * u' + i') || decide (15 * u' + i' = r)) := by
                rw [x310, tb_or, tb_shl1 r (by ((try clear et3); (try clear has); (try clear xb); (try clear mb); (try clear n145); (try clear mh3); (try clear mh5); omega)) (by ((try clear et3); (try clear has); (try clear xb); (try clear mb); (try clear n145); (try clear mh3); (try clear mh5); omega))]
              rw [etb, x37, x38, x145, x143, x143]
              by_cases e : u' = u ∧ i' = i
              · rw [e.1, e.2, ← hr, ← hq, if_pos rfl, if_pos rfl, if_pos rfl, if_neg (by ((try clear et3); (try clear has); (try clear xb); (try clear mb); (try clear n145); (try clear mh3); (try clear mh5); omega)), if_pos rfl, if_pos rfl, decide_eq_true rfl, Bool.or_true]
                exact ⟨rfl, fun _ => ⟨rfl, rfl⟩, fun h => absurd h (by decide), ⟨y30, y31⟩, ⟨y50, y51⟩⟩
              · rw [if_neg (show ¬ 2 * i' + u' = q by ((try clear et3); (try clear has); (try clear xb); (try clear mb); (try clear n145); (try clear mh3); (try clear mh5); omega)), if_neg (show ¬ 2 * (2 * i' + u') = 2 * q + 1 by ((try clear et3); (try clear has); (try clear xb); (try clear mb); (try clear n145); (try clear mh3); (try clear mh5); omega)), if_neg (show ¬ 2 * (2 * i' + u') = 2 * q by ((try clear et3); (try clear has); (try clear xb); (try clear mb); (try clear n145); (try clear mh3); (try clear mh5); omega)), if_neg (show ¬ 2 * (2 * i' + u') + 1 = 2 * q + 1 by ((try clear et3); (try clear has); (try clear xb); (try clear mb); (try clear n145); (try clear mh3); (try clear mh5); omega)), if_neg (show ¬ 2 * (2 * i' + u') + 1 = 2 * q by ((try clear et3); (try clear has); (try clear xb); (try clear mb); (try clear n145); (try clear mh3); (try clear mh5); omega)), if_neg (show ¬ 15 * u' + i' = r by ((try clear et3); (try clear has); (try clear xb); (try clear mb); (try clear n145); (try clear mh3); (try clear mh5); omega)), if_neg (show ¬ 15 * u' + i' = r by ((try clear et3); (try clear has); (try clear xb); (try clear mb); (try clear n145); (try clear mh3); (try clear mh5); omega)), decide_eq_false (show ¬ 15 * u' + i' = r by ((try clear et3); (try clear has); (try clear xb); (try clear mb); (try clear n145); (try clear mh3); (try clear mh5); omega)), Bool.or_false]
                exact old
            · intro j hj
              rw [A5.2.2.2.1 j hj, fm8 141 j rfl, A3.2.2.2.1 j hj, fm7 141 j rfl, f6 141 j rfl, fm5 141 j rfl, A1.2.2.2.1 j hj]
          · obtain ⟨b1, b2, b3, w, p, F, b4, b5⟩ := bad5
            obtain ⟨s', t1', t2'⟩ := F.2.2.2.2.1
            exact ⟨rX, rM5, rfl, rfl, Or.inr ⟨b1, w, p, F.fr frX rfl ⟨s', t1', by rw [frX 3 2 rfl]; exact t2'⟩, b4, b5⟩, fX13.tr ((FR.mo b2 rfl).tr (FR.mo frX rfl)), fM8.tr (FR.mo b3 rfl)⟩
        · obtain ⟨b1, b2, b3, w, p, F, b4, b5⟩ := bad3
          obtain ⟨s', t1', t2'⟩ := F.2.2.2.2.1
          obtain ⟨g13, hg13⟩ : ∃ g13 : AG, g13 = up rX3 37 r y1 := ⟨_, rfl⟩
          have f13 : FR [(37, 0)] rX3 g13 := by rw [hg13]; exact Fr.up Fr.rf rfl
          have F2 : XF tp L T w p g13 := F.fr f13 rfl ⟨s', t1', by rw [f13 3 2 rfl]; exact t2'⟩
          obtain ⟨rX, hrX⟩ : ∃ rX : AG, rX = up g13 38 r 0 := ⟨_, rfl⟩
          have frX : FR [(38, 0)] g13 rX := by rw [hrX]; exact Fr.up Fr.rf rfl
          have F3 : XF tp L T w p rX := F2.fr frX rfl ⟨s', t1', by rw [frX 3 2 rfl, f13 3 2 rfl]; exact t2'⟩
          refine ⟨rX, (0, rM3.2), by rw [← hg13, xf_num F2, sb, sb, hrX], by rw [b1, nw_0, if_pos rfl, sb, if_pos (Or.inl rfl)], Or.inr ⟨rfl, w, p, F3, b4, b5⟩, fX8.tr ((FR.mo b2 rfl).tr ((FR.mo f13 rfl).tr (FR.mo frX rfl))), fM7.tr (FR.mo b3 rfl)⟩
    · obtain ⟨e1, e2, B⟩ := A1.bad O (w := 1) (by ((try clear et3); (try clear has); (try clear xb); (try clear mb); (try clear n145); (try clear mh3); (try clear mh5); omega)) (by ((try clear et3); (try clear has); (try clear xb); (try clear mb); (try clear n145); (try clear mh3); (try clear mh5); omega))
      refine ⟨failX rX1 (k + 1) 1, (0, badM rM1.2 1), ?_, ?_, Or.inr ⟨rfl, B.2.2.2⟩, FR.mo B.2.1 rfl, FR.mo B.2.2.1 rfl⟩
      · unfold Parser_readTunnel
        rw [u1, sb]
        dsimp only
        rw [i105, sb, i106, sb, if_neg (show ¬ x = 105 by ((try clear et3); (try clear has); (try clear xb); (try clear mb); (try clear n145); (try clear mh3); (try clear mh5); omega)), nw_0, if_pos rfl, if_neg (show ¬ x = 106 by ((try clear et3); (try clear has); (try clear xb); (try clear mb); (try clear n145); (try clear mh3); (try clear mh5); omega)), nw_0, if_pos rfl, e1, sb]
      · unfold M_aTunnel
        rw [u2, sb, ok, nw_1, if_neg (by decide), hm, nm, if_neg (fun q => c (Or.inl (m105.mpr q))), if_neg (fun q => c (Or.inr (m106.mpr q))), e2, sb, if_pos (Or.inl rfl)]
  · obtain ⟨b1, b2, b3, w, p, F, b4, b5⟩ := bad
    refine ⟨rX1, (0, rM1.2), ?_, ?_, Or.inr ⟨rfl, w, p, F, b4, b5⟩, FR.mo b2 rfl, FR.mo b3 rfl⟩
    · unfold Parser_readTunnel
      rw [u1, sb]
      dsimp only
      rw [xf_is F, sb, nw_0, if_pos rfl, xf_is F, sb, nw_0, if_pos rfl, xf_fail F, sb]
    · unfold M_aTunnel
      rw [u2, sb, b1, nw_0, if_pos rfl]
end
section
/-! plain programs: a line, both sides -/
def LnR (s : Nat) (gX gM : AG) (l : Nat) : Prop := gX 31 l = gM 135 l + 100 ∧ (0 ≤ gM 135 l ∧ gM 135 l ≤ 4) ∧ (gM 138 l = gX 32 l ∧ gM 139 l = gX 33 l ∧ gM 140 l = gX 34 l) ∧ (∃ a b c : Nat, gX 32 l = a ∧ gX 33 l = b ∧ gX 34 l = c ∧ a ≤ b ∧ b ≤ c ∧ c ≤ s ∧ (2 ≤ gM 135 l → EvN 3 (gM 141) a b) ∧ (b < c → EvB 22 (gM 141) b c)) ∧ (gM 135 l = 0 → gM 136 l = gX 35 l ∧ gM 137 l = gX 36 l ∧ (0 ≤ gX 35 l ∧ gX 35 l ≤ 24) ∧ (0 ≤ gX 36 l ∧ gX 36 l ≤ 24))
theorem LnR.tr {s s' l : Nat} {gX gM gX' gM' : AG} (h : LnR s gX gM l) (hs : s ≤ s') (x1 : gX' 31 l = gX 31 l) (x2 : gX' 32 l = gX 32 l) (x3 : gX' 33 l = gX 33 l) (x4 : gX' 34 l = gX 34 l) (x5 : gX' 35 l = gX 35 l) (x6 : gX' 36 l = gX 36 l) (m5 : gM' 135 l = gM 135 l) (m6 : gM' 136 l = gM 136 l) (m7 : gM' 137 l = gM 137 l) (m8 : gM' 138 l = gM 138 l) (m9 : gM' 139 l = gM 139 l) (m0 : gM' 140 l = gM 140 l) (lo : ∀ j, j < 2 * s → gM' 141 j = gM 141 j) : LnR s' gX' gM' l := by
  obtain ⟨h1, h2, h3, ⟨a, b, c, e1, e2, e3, l1, l2, l3, v1, v2⟩, h5⟩ := h
  unfold LnR
  rw [x1, x2, x3, x4, x5, x6, m5, m6, m7, m8, m9, m0]
  exact ⟨h1, h2, h3, ⟨a, b, c, e1, e2, e3, l1, l2, by omega, fun q => (v1 q).cd l1 (fun j hj => lo j (by omega)), fun q => (v2 q).cd l2 (fun j hj => lo j (by omega))⟩, h5⟩
abbrev RLX : Reg := [(4, 7), (4, 8), (4, 9), (3, 3), (3, 4), (3, 11), (29, 0), (30, 0), (31, 0), (32, 0), (33, 0), (34, 0), (35, 0), (36, 0), (37, 0), (38, 0)]
abbrev RLN : Reg := [(117, 39), (117, 40), (117, 41), (117, 42), (117, 43), (117, 44), (117, 37), (117, 46), (135, 0), (136, 0), (137, 0), (138, 0), (139, 0), (140, 0), (141, 0), (143, 0), (145, 0)]
def LOut (tp : Nat → Int) (L T k n : Nat) (gX gM rX : AG) (rM : Int × AG) : Prop := ((rM.1 = 1 ∧ n < 16 ∧ ∃ k' s', PRel tp L T k' s' rX rM.2 ∧ s' ≤ k' ∧ k < k' ∧ rX 3 3 = ((n + 1 : Nat) : Int) ∧ (∀ l, l < n + 1 → LnR s' rX rM.2 l) ∧ TnR rX rM.2) ∨ (rM.1 = 0 ∧ PFail tp L T rX rM.2)) ∧ FR RLX gX rX ∧ FR RLN gM rM.2
theorem line_end {tp : Nat → Int} {L T : Nat} (O : TkOk tp L T) {k k2 s2 n : Nat} {gX gM g1 m1 : AG} (R : PRel tp L T k2 s2 g1 m1) (hs : s2 ≤ k2) (hk : k ≤ k2) (fx : FR RLX gX g1) (fm : FR RLN gM m1) (h45 : m1 117 45 = 0) (hn : n < 16) (h33 : g1 3 3 = n) {x : Int} (hx : x ≠ 101) (LN : ∀ l, l < n → LnR s2 g1 m1 l) (TN : TnR g1 m1) {s : Nat} (q1 : g1 31 n = m1 135 n + 100) (q2 : 0 ≤ m1 135 n ∧ m1 135 n ≤ 4) (q3 : m1 138 n = s) (q4 : g1 32 n = s) (hss : s ≤ s2) (ev : 2 ≤ m1 135 n → EvN 3 (m1 141) s s2) (hh : m1 135 n = 0 → m1 136 n = g1 35 n ∧ m1 137 n = g1 36 n ∧ (0 ≤ g1 35 n ∧ g1 35 n ≤ 24) ∧ (0 ≤ g1 36 n ∧ g1 36 n ≤ 24)) : ∃ rX rM, tlX x n g1 = some (0, rX) ∧ M_aLine_b n 1 m1 = some rM ∧ LOut tp L T k n gX gM rX rM := by
  obtain ⟨rX, rM, u1, u2, ur, f1, f2⟩ := when_rel O R hs h45 hn h33 hx
  refine ⟨rX, rM, u1, u2, ?_, fx.tr (FR.mo f1 rfl), fm.tr (FR.mo f2 rfl)⟩
  rcases ur with ⟨ok, k', s', R', r1, r2, r3, ⟨p1, p2, p3, p4⟩, r5, r6, r7, r8⟩ | bad
  · refine Or.inl ⟨ok, hn, k', s', R', r2, by omega, r7, fun l hl => ?_, TN.fr f1 rfl f2 rfl⟩
    by_cases e : l = n
    · subst e
      have c5 : rM.2 135 l = m1 135 l := f2 135 l rfl
      unfold LnR
      rw [c5, f1 31 l rfl, f1 32 l rfl, f1 35 l rfl, f1 36 l rfl, f2 136 l rfl, f2 137 l rfl, f2 138 l rfl, p1, p2, p3, p4, q3, q4]
      exact ⟨q1, q2, ⟨rfl, rfl, rfl⟩, ⟨s, s2, s', rfl, rfl, rfl, hss, r1, Nat.le_refl _, fun q => (ev q).cd hss r6, r5⟩, hh⟩
    · have r8l := r8 l e
      exact (LN l (by omega)).tr r1 (f1 31 l rfl) (f1 32 l rfl) r8l.1 r8l.2.1 (f1 35 l rfl) (f1 36 l rfl) (f2 135 l rfl) (f2 136 l rfl) (f2 137 l rfl) (f2 138 l rfl) r8l.2.2.1 r8l.2.2.2 r6
  · exact Or.inr bad
theorem line_rel {tp : Nat → Int} {L T : Nat} (O : TkOk tp L T) {k s n : Nat} {gX gM : AG} (R : PRel tp L T k s gX gM) (hs : s ≤ k) (hn : n ≤ 16) (h33 : gX 3 3 = n) (h35 : gM 117 35 = n) (LN : ∀ l, l < n → LnR s gX gM l) (TN : TnR gX gM) : ∃ rX rM, Parser_readLine gX = some (0, rX) ∧ M_aLine gM = some rM ∧ LOut tp L T k n gX gM rX rM := by
  have hT := O.T500
  obtain ⟨x, m, v, tk, hxx, hm, nx, nm, hv, z1, z2, pl⟩ := R.see O
  have a2 := R.2.1
  have a3 := R.2.2.1
  have a9 := R.2.2.2.2.2.2.2.2.1
  have rg := tk_rng tk
  have kT : x ≠ 0 → k < T := fun h => Nat.lt_of_le_of_ne a9 (fun q => h (z2 q))
  have lin := tk_lin tk
  have nk : nw (k : Int) = k := nwN k (by ((try clear nk); (try clear ik); (try clear nn); (try clear inn); (try clear wX); (try clear wM); (try clear tokn); (try clear ex); (try clear mh); (try clear nm20); (try clear et); (try clear hM); omega))
  have ik : ix (k : Int) = k := ixN k (by ((try clear nk); (try clear ik); (try clear nn); (try clear inn); (try clear wX); (try clear wM); (try clear tokn); (try clear ex); (try clear mh); (try clear nm20); (try clear et); (try clear hM); omega))
  have nn : nw (n : Int) = n := nwN n (by ((try clear nk); (try clear ik); (try clear nn); (try clear inn); (try clear wX); (try clear wM); (try clear tokn); (try clear ex); (try clear mh); (try clear nm20); (try clear et); (try clear hM); omega))
  have inn : ix (n : Int) = n := ixN n (by ((try clear nk); (try clear ik); (try clear nn); (try clear inn); (try clear wX); (try clear wM); (try clear tokn); (try clear ex); (try clear mh); (try clear nm20); (try clear et); (try clear hM); omega))
  have wX : (nw (X_within x 100 104) = 0) = (x < 100 ∨ 104 < x) := within0 (by ((try clear nk); (try clear ik); (try clear nn); (try clear inn); (try clear wX); (try clear wM); (try clear tokn); (try clear ex); (try clear mh); (try clear nm20); (try clear et); (try clear hM); omega)) (by ((try clear nk); (try clear ik); (try clear nn); (try clear inn); (try clear wX); (try clear wM); (try clear tokn); (try clear ex); (try clear mh); (try clear nm20); (try clear et); (try clear hM); omega)) (by decide) (by decide) (by decide) (by decide)
  have wM : (nw (M_isIn m 20 24) = 0) = (m < 20 ∨ 24 < m) := isIn0 (by ((try clear nk); (try clear ik); (try clear nn); (try clear inn); (try clear wX); (try clear wM); (try clear tokn); (try clear ex); (try clear mh); (try clear nm20); (try clear et); (try clear hM); omega)) (by ((try clear nk); (try clear ik); (try clear nn); (try clear inn); (try clear wX); (try clear wM); (try clear tokn); (try clear ex); (try clear mh); (try clear nm20); (try clear et); (try clear hM); omega)) (by decide) (by decide) (by decide) (by decide)
  have tokn : 0 ≤ nw (gX 4 6) ∧ nw (gX 4 6) < 501 := by rw [a2, nk]; ((try clear nk); (try clear ik); (try clear nn); (try clear inn); (try clear wX); (try clear wM); (try clear tokn); (try clear ex); (try clear mh); (try clear nm20); (try clear et); (try clear hM); omega)
  have ex : gX 42 (ix (gX 4 6)) = x := by rw [a2, ik]; exact hxx
  by_cases c : 100 ≤ x ∧ x ≤ 104
  · have cm := lin.mp c
    have mv := tk_lin2 tk cm
    by_cases c16 : n = 16
    · obtain ⟨e1, e2, B⟩ := (Acc.start (E := EvT) R trivial).bad O (w := 3) (by ((try clear nk); (try clear ik); (try clear nn); (try clear inn); (try clear wX); (try clear wM); (try clear tokn); (try clear ex); (try clear mh); (try clear nm20); (try clear et); (try clear hM); omega)) (by ((try clear nk); (try clear ik); (try clear nn); (try clear inn); (try clear wX); (try clear wM); (try clear tokn); (try clear ex); (try clear mh); (try clear nm20); (try clear et); (try clear hM); omega))
      refine ⟨_, (0, badM gM 3), ?_, ?_, Or.inr ⟨rfl, B.2.2.2⟩, FR.mo B.2.1 rfl, FR.mo B.2.2.1 rfl⟩
      · unfold Parser_readLine
        rw [if_pos tokn, ex, if_neg (by rw [wX]; ((try clear nk); (try clear ik); (try clear nn); (try clear inn); (try clear wX); (try clear wM); (try clear tokn); (try clear ex); (try clear mh); (try clear nm20); (try clear et); (try clear hM); omega)), h33, nn, if_neg (by ((try clear nk); (try clear ik); (try clear nn); (try clear inn); (try clear wX); (try clear wM); (try clear tokn); (try clear ex); (try clear mh); (try clear nm20); (try clear et); (try clear hM); omega)), e1, sb]
      · unfold M_aLine
        rw [hm, if_neg (by rw [wM]; ((try clear nk); (try clear ik); (try clear nn); (try clear inn); (try clear wX); (try clear wM); (try clear tokn); (try clear ex); (try clear mh); (try clear nm20); (try clear et); (try clear hM); omega)), h35, nn, if_pos (by ((try clear nk); (try clear ik); (try clear nn); (try clear inn); (try clear wX); (try clear wM); (try clear tokn); (try clear ex); (try clear mh); (try clear nm20); (try clear et); (try clear hM); omega)), e2, sb, if_pos (Or.inl rfl)]
    · have n16 : n < 16 := by ((try clear nk); (try clear ik); (try clear nn); (try clear inn); (try clear wX); (try clear wM); (try clear tokn); (try clear ex); (try clear mh); (try clear nm20); (try clear et); (try clear hM); omega)
      have hk : k < T := kT (by ((try clear nk); (try clear ik); (try clear nn); (try clear inn); (try clear wX); (try clear wM); (try clear tokn); (try clear ex); (try clear mh); (try clear nm20); (try clear et); (try clear hM); omega))
      obtain ⟨mA, e1, e2, R1, f1⟩ := (R.dep 0).nx O hk
      have a4 := R.2.2.2.1
      obtain ⟨gA, hgA⟩ : ∃ gA : AG, gA = up gX 4 6 ((k : Int) + 1) := ⟨_, rfl⟩
      rw [← hgA] at e1 R1
      have fA : FR RLX gX gA := by rw [hgA]; exact Fr.up Fr.rf rfl
      obtain ⟨g9, hg9⟩ : ∃ g9 : AG, g9 = up (up gA 31 n x) 32 n (s : Int) := ⟨_, rfl⟩
      have f9 : FR [(31, 0), (32, 0)] gA g9 := by rw [hg9]; exact Fr.up (Fr.up Fr.rf rfl) rfl
      have u9 : (up gA 31 n x) 3 2 = s := by rw [up_at, if_neg (fun q => absurd q.1 (by decide))]; exact R1.2.2.2.1
      have fmA : FR RLN gM mA := (Fr.up (W := inR RLN) Fr.rf rfl).tr (FR.mo f1 rfl)
      have m36 : mA 117 36 = s := R1.2.2.2.2.2.2.2.1
      obtain ⟨m8, hm8⟩ : ∃ m8 : AG, m8 = up mA 135 n (m - 20) := ⟨_, rfl⟩
      obtain ⟨m10, hm10⟩ : ∃ m10 : AG, m10 = up m8 138 n (s : Int) := ⟨_, rfl⟩
      obtain ⟨m12, hm12⟩ : ∃ m12 : AG, m12 = up m10 139 n (s : Int) := ⟨_, rfl⟩
      obtain ⟨m14, hm14⟩ : ∃ m14 : AG, m14 = up m12 140 n (s : Int) := ⟨_, rfl⟩
      have v8 : m8 117 36 = s := by rw [hm8, up_at, if_neg (fun q => absurd q.1 (by decide))]; exact m36
      have v10 : m10 117 36 = s := by rw [hm10, up_at, if_neg (fun q => absurd q.1 (by decide))]; exact v8
      have v12 : m12 117 36 = s := by rw [hm12, up_at, if_neg (fun q => absurd q.1 (by decide))]; exact v10
      have f14 : FR [(135, 0), (138, 0), (139, 0), (140, 0)] mA m14 := by
        rw [hm14, hm12, hm10, hm8]
        exact Fr.up (Fr.up (Fr.up (Fr.up Fr.rf rfl) rfl) rfl) rfl
      have R9 : PRel tp L T (k + 1) s g9 m14 := (R1.frx f9 rfl).frm f14 rfl
      have fX9 : FR RLX gX g9 := fA.tr (FR.mo f9 rfl)
      have fM14 : FR RLN gM m14 := fmA.tr (FR.mo f14 rfl)
      have d45 : m14 117 45 = 0 := by rw [f14 117 45 rfl, f1 117 45 rfl, up_at, if_pos ⟨rfl, rfl⟩]
      have c35 : m14 117 35 = n := by rw [fM14 117 35 rfl]; exact h35
      have b33 : g9 3 3 = n := by rw [f9 3 3 rfl, hgA, up_at, if_neg (by ((try clear nk); (try clear ik); (try clear nn); (try clear inn); (try clear wX); (try clear wM); (try clear tokn); (try clear ex); (try clear mh); (try clear nm20); (try clear et); (try clear hM); omega))]; exact h33
      have x31 : g9 31 n = x := by rw [hg9, up_at, if_neg (fun q => absurd q.1 (by decide)), up_at, if_pos ⟨rfl, rfl⟩]
      have x32 : g9 32 n = s := by rw [hg9, up_at, if_pos ⟨rfl, rfl⟩]
      have y135 : m14 135 n = m - 20 := by rw [hm14, up_at, if_neg (fun q => absurd q.1 (by decide)), hm12, up_at, if_neg (fun q => absurd q.1 (by decide)), hm10, up_at, if_neg (fun q => absurd q.1 (by decide)), hm8, up_at, if_pos ⟨rfl, rfl⟩]
      have y138 : m14 138 n = s := by rw [hm14, up_at, if_neg (fun q => absurd q.1 (by decide)), hm12, up_at, if_neg (fun q => absurd q.1 (by decide)), hm10, up_at, if_pos ⟨rfl, rfl⟩]
      have y139 : m14 139 n = s := by rw [hm14, up_at, if_neg (fun q => absurd q.1 (by decide)), hm12, up_at, if_pos ⟨rfl, rfl⟩]
      have y140 : m14 140 n = s := by rw [hm14, up_at, if_pos ⟨rfl, rfl⟩]
      have z135 : ∀ l, l ≠ n → m14 135 l = gM 135 l ∧ m14 138 l = gM 138 l ∧ m14 139 l = gM 139 l ∧ m14 140 l = gM 140 l := fun l hl => by
        refine ⟨?_, ?_, ?_, ?_⟩
        · rw [hm14, up_at, if_neg (fun q => hl q.2), hm12, up_at, if_neg (fun q => hl q.2), hm10, up_at, if_neg (fun q => hl q.2), hm8, up_at, if_neg (fun q => hl q.2), f1 135 l rfl, up_at, if_neg (fun q => absurd q.1 (by decide))]
        · rw [hm14, up_at, if_neg (fun q => hl q.2), hm12, up_at, if_neg (fun q => hl q.2), hm10, up_at, if_neg (fun q => hl q.2), hm8, up_at, if_neg (fun q => hl q.2), f1 138 l rfl, up_at, if_neg (fun q => absurd q.1 (by decide))]
        · rw [hm14, up_at, if_neg (fun q => hl q.2), hm12, up_at, if_neg (fun q => hl q.2), hm10, up_at, if_neg (fun q => hl q.2), hm8, up_at, if_neg (fun q => hl q.2), f1 139 l rfl, up_at, if_neg (fun q => absurd q.1 (by decide))]
        · rw [hm14, up_at, if_neg (fun q => hl q.2), hm12, up_at, if_neg (fun q => hl q.2), hm10, up_at, if_neg (fun q => hl q.2), hm8, up_at, if_neg (fun q => hl q.2), f1 140 l rfl, up_at, if_neg (fun q => absurd q.1 (by decide))]
      have w31 : ∀ l, l ≠ n → g9 31 l = gX 31 l ∧ g9 32 l = gX 32 l := fun l hl => by
        refine ⟨?_, ?_⟩
        · rw [hg9, up_at, if_neg (fun q => hl q.2), up_at, if_neg (fun q => hl q.2), hgA, up_at, if_neg (fun q => absurd q.1 (by decide))]
        · rw [hg9, up_at, if_neg (fun q => hl q.2), up_at, if_neg (fun q => hl q.2), hgA, up_at, if_neg (fun q => absurd q.1 (by decide))]
      have w33 : ∀ a l, a = 33 ∨ a = 34 ∨ a = 35 ∨ a = 36 → g9 a l = gX a l := fun a l ha => by
        rcases ha with rfl | rfl | rfl | rfl <;> rw [f9 _ l rfl, hgA, up_at, if_neg (fun q => absurd q.1 (by decide))]
      have z141 : ∀ j, m14 141 j = gM 141 j := fun j => by rw [f14 141 j rfl, f1 141 j rfl, up_at, if_neg (fun q => absurd q.1 (by decide))]
      have z136 : ∀ l, m14 136 l = gM 136 l ∧ m14 137 l = gM 137 l := fun l => ⟨by rw [f14 136 l rfl, f1 136 l rfl, up_at, if_neg (fun q => absurd q.1 (by decide))], by rw [f14 137 l rfl, f1 137 l rfl, up_at, if_neg (fun q => absurd q.1 (by decide))]⟩
      have LN9 : ∀ l, l < n → LnR s g9 m14 l := fun l hl => by
        have e : l ≠ n := by ((try clear nk); (try clear ik); (try clear nn); (try clear inn); (try clear wX); (try clear wM); (try clear tokn); (try clear ex); (try clear mh); (try clear nm20); (try clear et); (try clear hM); omega)
        have zl := z135 l e
        have wl := w31 l e
        exact (LN l hl).tr (Nat.le_refl s) wl.1 wl.2 (w33 33 l (Or.inl rfl)) (w33 34 l (Or.inr (Or.inl rfl))) (w33 35 l (Or.inr (Or.inr (Or.inl rfl)))) (w33 36 l (Or.inr (Or.inr (Or.inr rfl)))) zl.1 (z136 l).1 (z136 l).2 zl.2.1 zl.2.2.1 zl.2.2.2 (fun j _ => z141 j)
      have TN9 : TnR g9 m14 := by
        have t1 : TnR gA mA := TN.fr (W := [(4, 7)]) (V := [(117, 46), (117, 39), (117, 40), (117, 41), (117, 42)]) (by rw [hgA]; exact Fr.up Fr.rf rfl) rfl ((Fr.up (W := inR [(117, 46), (117, 39), (117, 40), (117, 41), (117, 42)]) Fr.rf rfl).tr (FR.mo f1 rfl)) rfl
        exact t1.fr f9 rfl f14 rfl
      have bn : 0 ≤ (n : Int) ∧ (n : Int) < 16 := by ((try clear nk); (try clear ik); (try clear nn); (try clear inn); (try clear wX); (try clear wM); (try clear tokn); (try clear ex); (try clear mh); (try clear nm20); (try clear et); (try clear hM); omega)
      have xh : Parser_readLine gX = ((((if x = 101 then (Parser_readTunnel g9 >>= fun r23 => some r23.2) else (if x = 100 then (Parser_numberUpTo 24 g9 >>= fun r15 => (some (up r15.2 35 n r15.1) >>= fun g17 => (Parser_numberUpTo 24 g17 >>= fun r19 => (some (up r19.2 36 n r19.1) >>= fun g21 => some g21)))) else (Parser_readSum g9 >>= fun r13 => some r13.2))) : Option AG)) >>= fun r25 => tlX x n r25) := by
        unfold Parser_readLine
        rw [if_pos tokn, ex, if_neg (by rw [wX]; ((try clear nk); (try clear ik); (try clear nn); (try clear inn); (try clear wX); (try clear wM); (try clear tokn); (try clear ex); (try clear mh); (try clear nm20); (try clear et); (try clear hM); omega)), h33, nn, inn, if_pos (show (n : Int) < 16 by ((try clear nk); (try clear ik); (try clear nn); (try clear inn); (try clear wX); (try clear wM); (try clear tokn); (try clear ex); (try clear mh); (try clear nm20); (try clear et); (try clear hM); omega)), e1, sb, if_pos bn, sb]
        dsimp only
        rw [u9, sb, ← hg9, nx]
        rfl
      have mh : M_aLine gM = (if m - 20 = 1 then (M_aTunnel m14 >>= fun r24 => ((((if nw r24.1 = 0 then some (0, r24.2) else (M_need 159 r24.2 >>= fun r27 => (some (if nw r27.1 = 0 then 0 else 1) >>= fun t29 => some (t29, r27.2))))) : Option (Int × AG)) >>= fun r32 => if r32.1 = 0 ∨ r32.1 = 1 then some (r32.1, r32.2) else none)) else (if m - 20 = 0 then (M_hours_117_136_137 n n m14 >>= fun r21 => (if nw r21.1 = 0 then some (0, r21.2) else M_aLine_b n 1 r21.2)) else (M_sumUp m14 >>= fun r18 => (if nw r18.1 = 0 then some (0, r18.2) else M_aLine_b n 1 r18.2)))) := by
        have nm20 : nw (m - 20) = m - 20 := nw_id (by ((try clear nk); (try clear ik); (try clear nn); (try clear inn); (try clear wX); (try clear wM); (try clear tokn); (try clear ex); (try clear mh); (try clear nm20); (try clear et); (try clear hM); omega)) (by ((try clear nk); (try clear ik); (try clear nn); (try clear inn); (try clear wX); (try clear wM); (try clear tokn); (try clear ex); (try clear mh); (try clear nm20); (try clear et); (try clear hM); omega))
        unfold M_aLine
        rw [hm, if_neg (by rw [wM]; ((try clear nk); (try clear ik); (try clear nn); (try clear inn); (try clear wX); (try clear wM); (try clear tokn); (try clear ex); (try clear mh); (try clear nm20); (try clear et); (try clear hM); omega)), h35, nn, inn, if_neg (show ¬ (n : Int) = 16 by ((try clear nk); (try clear ik); (try clear nn); (try clear inn); (try clear wX); (try clear wM); (try clear tokn); (try clear ex); (try clear mh); (try clear nm20); (try clear et); (try clear hM); omega)), sb, e2, sb, if_pos bn]
        dsimp only
        rw [sb, ← hm8, v8, sb, ← hm10, v10, sb, ← hm12, v12, sb, ← hm14, nm20]
      rw [xh, mh]
      by_cases c1 : x = 101
      · obtain ⟨rX1, rM1, t1, t2, tr, g1, g2⟩ := tun_rel O R9 TN9
        rw [if_pos c1, t1, sb, sb, if_pos (show m - 20 = 1 by ((try clear nk); (try clear ik); (try clear nn); (try clear inn); (try clear wX); (try clear wM); (try clear tokn); (try clear ex); (try clear mh); (try clear nm20); (try clear et); (try clear hM); omega)), t2, sb]
        have fX1 : FR RLX gX rX1 := fX9.tr (FR.mo g1 rfl)
        have fM1 : FR RLN gM rM1.2 := fM14.tr (FR.mo g2 rfl)
        rcases tr with ⟨ok, k2, R2, k2k, TN2, lo⟩ | bad
        · -- the end of the line
          have b4 := R2.2.2.2.1
          obtain ⟨gB, hgB⟩ : ∃ gB : AG, gB = up rX1 33 n (s : Int) := ⟨_, rfl⟩
          obtain ⟨gC, hgC⟩ : ∃ gC : AG, gC = up gB 34 n (s : Int) := ⟨_, rfl⟩
          have fC : FR [(33, 0), (34, 0)] rX1 gC := by rw [hgC, hgB]; exact Fr.up (Fr.up Fr.rf rfl) rfl
          have bB : gB 3 2 = s := by rw [hgB, up_at, if_neg (fun q => absurd q.1 (by decide))]; exact b4
          have RC := R2.frx fC rfl
          obtain ⟨rX3, rM3, u1, u2, ur⟩ := need_rel O (Acc.start (E := EvT) RC trivial) (c := 59) (c' := 159) (by ((try clear nk); (try clear ik); (try clear nn); (try clear inn); (try clear wX); (try clear wM); (try clear tokn); (try clear ex); (try clear mh); (try clear nm20); (try clear et); (try clear hM); omega)) (by ((try clear nk); (try clear ik); (try clear nn); (try clear inn); (try clear wX); (try clear wM); (try clear tokn); (try clear ex); (try clear mh); (try clear nm20); (try clear et); (try clear hM); omega)) (by ((try clear nk); (try clear ik); (try clear nn); (try clear inn); (try clear wX); (try clear wM); (try clear tokn); (try clear ex); (try clear mh); (try clear nm20); (try clear et); (try clear hM); omega))
          obtain ⟨rX, hrX⟩ : ∃ rX : AG, rX = up rX3 3 3 (rX3 3 3 + 1) := ⟨_, rfl⟩
          have fX : FR [(3, 4)] rX3 rX := by rw [hrX]; exact Fr.up Fr.rf rfl
          have xt : tlX x n (0, rX1).2 = some (0, rX) := by
            unfold tlX
            dsimp only
            rw [b4, sb, ← hgB, if_pos c1, sb, bB, sb, ← hgC, u1, sb, sb, hrX]
          have b01 : rM3.1 = 0 ∨ rM3.1 = 1 := by
            rcases ur with ⟨q, _⟩ | q
            · exact Or.inr q
            · exact Or.inl q.1
          have et : (if nw rM3.1 = 0 then (0 : Int) else 1) = rM3.1 := by
            rcases b01 with q | q
            · rw [q, nw_0, if_pos rfl]
            · rw [q, nw_1, if_neg (by decide)]
          refine ⟨rX, rM3, xt, ?_, ?_, fX1.tr ((FR.mo fC rfl).tr ?_), fM1.tr ?_⟩
          · rw [ok, nw_1, if_neg (by decide), u2, sb, et, sb, sb, if_pos b01]
          · rcases ur with ⟨ok3, k3, s3, A3⟩ | bad
            · have R3 := A3.2.2.2.2.1
              have c7 := A3.2.2.2.2.2.1
              have c8 := A3.2.2.2.2.2.2.1
              have c9 := A3.2.2.2.2.2.2.2.1
              refine Or.inl ⟨ok3, n16, k3, s3, R3.frx fX rfl, by ((try clear nk); (try clear ik); (try clear nn); (try clear inn); (try clear wX); (try clear wM); (try clear tokn); (try clear ex); (try clear mh); (try clear nm20); (try clear et); (try clear hM); omega), by ((try clear nk); (try clear ik); (try clear nn); (try clear inn); (try clear wX); (try clear wM); (try clear tokn); (try clear ex); (try clear mh); (try clear nm20); (try clear et); (try clear hM); omega), ?_, fun l hl => ?_, (TN2.fr fC rfl (Fr.rf (W := inR [(1, 0)])) rfl).fr ((FR.mo A3.1 (W := [(4, 7), (4, 8), (4, 9), (3, 3), (29, 0), (30, 0), (3, 4)]) rfl).tr (FR.mo fX rfl)) rfl A3.2.1 rfl⟩
              · have e3 : rX3 3 3 = n := by rw [A3.1 3 3 rfl, fC 3 3 rfl, g1 3 3 rfl]; exact b33
                rw [hrX, up_at, if_pos ⟨rfl, rfl⟩, e3]; rfl
              · have lo3 : ∀ j, j < 2 * s → rM3.2 141 j = m14 141 j := fun j hj => by rw [A3.2.2.2.1 j hj]; exact lo j hj
                have kx : ∀ a, a = 31 ∨ a = 32 ∨ a = 35 ∨ a = 36 → rX a l = g9 a l := fun a ha => by
                  rcases ha with rfl | rfl | rfl | rfl <;> rw [fX _ l rfl, A3.1 _ l rfl, fC _ l rfl, g1 _ l rfl]
                have ky : ∀ a, a = 33 ∨ a = 34 → rX a l = gC a l := fun a ha => by
                  rcases ha with rfl | rfl <;> rw [fX _ l rfl, A3.1 _ l rfl]
                have km : ∀ a, a = 135 ∨ a = 136 ∨ a = 137 ∨ a = 138 ∨ a = 139 ∨ a = 140 → rM3.2 a l = m14 a l := fun a ha => by
                  rcases ha with rfl | rfl | rfl | rfl | rfl | rfl <;> rw [A3.2.1 _ l rfl, g2 _ l rfl]
                by_cases e : l = n
                · subst e
                  have y33 : gC 33 l = s := by rw [hgC, up_at, if_neg (fun q => absurd q.1 (by decide)), hgB, up_at, if_pos ⟨rfl, rfl⟩]
                  have y34 : gC 34 l = s := by rw [hgC, up_at, if_pos ⟨rfl, rfl⟩]
                  unfold LnR
                  rw [kx 31 (by ((try clear nk); (try clear ik); (try clear nn); (try clear inn); (try clear wX); (try clear wM); (try clear tokn); (try clear ex); (try clear mh); (try clear nm20); (try clear et); (try clear hM); omega)), kx 32 (by ((try clear nk); (try clear ik); (try clear nn); (try clear inn); (try clear wX); (try clear wM); (try clear tokn); (try clear ex); (try clear mh); (try clear nm20); (try clear et); (try clear hM); omega)), kx 35 (by ((try clear nk); (try clear ik); (try clear nn); (try clear inn); (try clear wX); (try clear wM); (try clear tokn); (try clear ex); (try clear mh); (try clear nm20); (try clear et); (try clear hM); omega)), kx 36 (by ((try clear nk); (try clear ik); (try clear nn); (try clear inn); (try clear wX); (try clear wM); (try clear tokn); (try clear ex); (try clear mh); (try clear nm20); (try clear et); (try clear hM); omega)), ky 33 (by ((try clear nk); (try clear ik); (try clear nn); (try clear inn); (try clear wX); (try clear wM); (try clear tokn); (try clear ex); (try clear mh); (try clear nm20); (try clear et); (try clear hM); omega)), ky 34 (by ((try clear nk); (try clear ik); (try clear nn); (try clear inn); (try clear wX); (try clear wM); (try clear tokn); (try clear ex); (try clear mh); (try clear nm20); (try clear et); (try clear hM); omega)), km 135 (by ((try clear nk); (try clear ik); (try clear nn); (try clear inn); (try clear wX); (try clear wM); (try clear tokn); (try clear ex); (try clear mh); (try clear nm20); (try clear et); (try clear hM); omega)), km 136 (by ((try clear nk); (try clear ik); (try clear nn); (try clear inn); (try clear wX); (try clear wM); (try clear tokn); (try clear ex); (try clear mh); (try clear nm20); (try clear et); (try clear hM); omega)), km 137 (by ((try clear nk); (try clear ik); (try clear nn); (try clear inn); (try clear wX); (try clear wM); (try clear tokn); (try clear ex); (try clear mh); (try clear nm20); (try clear et); (try clear hM); omega)), km 138 (by ((try clear nk); (try clear ik); (try clear nn); (try clear inn); (try clear wX); (try clear wM); (try clear tokn); (try clear ex); (try clear mh); (try clear nm20); (try clear et); (try clear hM); omega)), km 139 (by ((try clear nk); (try clear ik); (try clear nn); (try clear inn); (try clear wX); (try clear wM); (try clear tokn); (try clear ex); (try clear mh); (try clear nm20); (try clear et); (try clear hM); omega)), km 140 (by ((try clear nk); (try clear ik); (try clear nn); (try clear inn); (try clear wX); (try clear wM); (try clear tokn); (try clear ex); (try clear mh); (try clear nm20); (try clear et); (try clear hM); omega)), x31, x32, y33, y34, y135, y138, y139, y140]
                  exact ⟨by ((try clear nk); (try clear ik); (try clear nn); (try clear inn); (try clear wX); (try clear wM); (try clear tokn); (try clear ex); (try clear mh); (try clear nm20); (try clear et); (try clear hM); omega), by ((try clear nk); (try clear ik); (try clear nn); (try clear inn); (try clear wX); (try clear wM); (try clear tokn); (try clear ex); (try clear mh); (try clear nm20); (try clear et); (try clear hM); omega), ⟨rfl, rfl, rfl⟩, ⟨s, s, s, rfl, rfl, rfl, Nat.le_refl _, Nat.le_refl _, c8, fun q => by ((try clear nk); (try clear ik); (try clear nn); (try clear inn); (try clear wX); (try clear wM); (try clear tokn); (try clear ex); (try clear mh); (try clear nm20); (try clear et); (try clear hM); omega), fun q => by ((try clear nk); (try clear ik); (try clear nn); (try clear inn); (try clear wX); (try clear wM); (try clear tokn); (try clear ex); (try clear mh); (try clear nm20); (try clear et); (try clear hM); omega)⟩, fun q => by ((try clear nk); (try clear ik); (try clear nn); (try clear inn); (try clear wX); (try clear wM); (try clear tokn); (try clear ex); (try clear mh); (try clear nm20); (try clear et); (try clear hM); omega)⟩
                · have p33 : gC 33 l = g9 33 l := by rw [hgC, up_at, if_neg (fun q => e q.2), hgB, up_at, if_neg (fun q => e q.2), g1 33 l rfl]
                  have p34 : gC 34 l = g9 34 l := by rw [hgC, up_at, if_neg (fun q => e q.2), hgB, up_at, if_neg (fun q => e q.2), g1 34 l rfl]
                  exact (LN9 l (by ((try clear nk); (try clear ik); (try clear nn); (try clear inn); (try clear wX); (try clear wM); (try clear tokn); (try clear ex); (try clear mh); (try clear nm20); (try clear et); (try clear hM); omega))).tr c8 (kx 31 (by ((try clear nk); (try clear ik); (try clear nn); (try clear inn); (try clear wX); (try clear wM); (try clear tokn); (try clear ex); (try clear mh); (try clear nm20); (try clear et); (try clear hM); omega))) (kx 32 (by ((try clear nk); (try clear ik); (try clear nn); (try clear inn); (try clear wX); (try clear wM); (try clear tokn); (try clear ex); (try clear mh); (try clear nm20); (try clear et); (try clear hM); omega))) ((ky 33 (by ((try clear nk); (try clear ik); (try clear nn); (try clear inn); (try clear wX); (try clear wM); (try clear tokn); (try clear ex); (try clear mh); (try clear nm20); (try clear et); (try clear hM); omega))).trans p33) ((ky 34 (by ((try clear nk); (try clear ik); (try clear nn); (try clear inn); (try clear wX); (try clear wM); (try clear tokn); (try clear ex); (try clear mh); (try clear nm20); (try clear et); (try clear hM); omega))).trans p34) (kx 35 (by ((try clear nk); (try clear ik); (try clear nn); (try clear inn); (try clear wX); (try clear wM); (try clear tokn); (try clear ex); (try clear mh); (try clear nm20); (try clear et); (try clear hM); omega))) (kx 36 (by ((try clear nk); (try clear ik); (try clear nn); (try clear inn); (try clear wX); (try clear wM); (try clear tokn); (try clear ex); (try clear mh); (try clear nm20); (try clear et); (try clear hM); omega))) (km 135 (by ((try clear nk); (try clear ik); (try clear nn); (try clear inn); (try clear wX); (try clear wM); (try clear tokn); (try clear ex); (try clear mh); (try clear nm20); (try clear et); (try clear hM); omega))) (km 136 (by ((try clear nk); (try clear ik); (try clear nn); (try clear inn); (try clear wX); (try clear wM); (try clear tokn); (try clear ex); (try clear mh); (try clear nm20); (try clear et); (try clear hM); omega))) (km 137 (by ((try clear nk); (try clear ik); (try clear nn); (try clear inn); (try clear wX); (try clear wM); (try clear tokn); (try clear ex); (try clear mh); (try clear nm20); (try clear et); (try clear hM); omega))) (km 138 (by ((try clear nk); (try clear ik); (try clear nn); (try clear inn); (try clear wX); (try clear wM); (try clear tokn); (try clear ex); (try clear mh); (try clear nm20); (try clear et); (try clear hM); omega))) (km 139 (by ((try clear nk); (try clear ik); (try clear nn); (try clear inn); (try clear wX); (try clear wM); (try clear tokn); (try clear ex); (try clear mh); (try clear nm20); (try clear et); (try clear hM); omega))) (km 140 (by ((try clear nk); (try clear ik); (try clear nn); (try clear inn); (try clear wX); (try clear wM); (try clear tokn); (try clear ex); (try clear mh); (try clear nm20); (try clear et); (try clear hM); omega))) lo3
            · obtain ⟨b1, b2, b3, w, p, F, b4', b5⟩ := bad
              obtain ⟨s', t1', t2'⟩ := F.2.2.2.2.1
              exact Or.inr ⟨b1, w, p, F.fr fX rfl ⟨s', t1', by rw [fX 3 2 rfl]; exact t2'⟩, b4', b5⟩
          · rcases ur with ⟨_, _, _, A3⟩ | bad
            · exact (FR.mo A3.1 rfl).tr (FR.mo fX rfl)
            · exact (FR.mo bad.2.1 rfl).tr (FR.mo fX rfl)
          · rcases ur with ⟨_, _, _, A3⟩ | bad
            · exact FR.mo A3.2.1 rfl
            · exact FR.mo bad.2.2.1 rfl
        · obtain ⟨b1, w, p, F, b4, b5⟩ := bad
          obtain ⟨g', e', F', f'⟩ := xf_tl F x n
          exact ⟨g', (0, rM1.2), e', by rw [b1, nw_0, if_pos rfl, sb, if_pos (Or.inl rfl)], Or.inr ⟨rfl, w, p, F', b4, b5⟩, fX1.tr (FR.mo f' rfl), fM1⟩
      · by_cases c2 : x = 100
        · obtain ⟨y1, rX1, rM1, t1, t2, tr⟩ := num_rel (gX := g9) (gM := up m14 136 n (m14 117 41)) O (Acc.start (E := EvT) (R9.frm (W := [(136, 0)]) (Fr.up Fr.rf rfl) rfl) trivial) (c := 24) (by ((try clear nk); (try clear ik); (try clear nn); (try clear inn); (try clear wX); (try clear wM); (try clear tokn); (try clear ex); (try clear mh); (try clear nm20); (try clear et); (try clear hM); omega)) (by ((try clear nk); (try clear ik); (try clear nn); (try clear inn); (try clear wX); (try clear wM); (try clear tokn); (try clear ex); (try clear mh); (try clear nm20); (try clear et); (try clear hM); omega))
          obtain ⟨mF, hmF⟩ : ∃ mF : AG, mF = up m14 136 n (m14 117 41) := ⟨_, rfl⟩
          rw [← hmF] at t2 tr
          have fmF : FR [(136, 0)] m14 mF := by rw [hmF]; exact Fr.up Fr.rf rfl
          obtain ⟨gG, hgG⟩ : ∃ gG : AG, gG = up rX1 35 n y1 := ⟨_, rfl⟩
          have fG : FR [(35, 0)] rX1 gG := by rw [hgG]; exact Fr.up Fr.rf rfl
          have hM : M_hours_117_136_137 n n m14 = (if nw rM1.1 = 0 then some (0, rM1.2) else (some (up rM1.2 137 n (rM1.2 117 41)) >>= fun g8 => (M_number 0 24 g8 >>= fun r10 => if r10.1 = 0 ∨ r10.1 = 1 then some (r10.1, r10.2) else none))) := by
            unfold M_hours_117_136_137
            rw [nn, inn, if_pos bn, sb, ← hmF, t2, sb, if_pos bn]
          rw [if_neg c1, if_pos c2, t1, sb, sb, ← hgG, if_neg (show ¬ m - 20 = 1 by ((try clear nk); (try clear ik); (try clear nn); (try clear inn); (try clear wX); (try clear wM); (try clear tokn); (try clear ex); (try clear mh); (try clear nm20); (try clear et); (try clear hM); omega)), if_pos (show m - 20 = 0 by ((try clear nk); (try clear ik); (try clear nn); (try clear inn); (try clear wX); (try clear wM); (try clear tokn); (try clear ex); (try clear mh); (try clear nm20); (try clear et); (try clear hM); omega)), hM]
          rcases tr with ⟨ok, hy, y10, y11, A1, _⟩ | bad
          · have R2 := A1.2.2.2.2.1
            obtain ⟨mG, hmG⟩ : ∃ mG : AG, mG = up rM1.2 137 n (rM1.2 117 41) := ⟨_, rfl⟩
            have fmG : FR [(137, 0)] rM1.2 mG := by rw [hmG]; exact Fr.up Fr.rf rfl
            obtain ⟨y2, rX2, rM2, v1, v2, vr⟩ := num_rel O (Acc.start (E := EvT) ((R2.frx fG rfl).frm fmG rfl) trivial) (c := 24) (by ((try clear nk); (try clear ik); (try clear nn); (try clear inn); (try clear wX); (try clear wM); (try clear tokn); (try clear ex); (try clear mh); (try clear nm20); (try clear et); (try clear hM); omega)) (by ((try clear nk); (try clear ik); (try clear nn); (try clear inn); (try clear wX); (try clear wM); (try clear tokn); (try clear ex); (try clear mh); (try clear nm20); (try clear et); (try clear hM); omega))
            obtain ⟨gH, hgH⟩ : ∃ gH : AG, gH = up rX2 36 n y2 := ⟨_, rfl⟩
            have fH : FR [(36, 0)] rX2 gH := by rw [hgH]; exact Fr.up Fr.rf rfl
            have fXG : FR RLX gX gG := fX9.tr ((FR.mo A1.1 rfl).tr (FR.mo fG rfl))
            have fMG : FR RLN gM mG := fM14.tr ((FR.mo fmF rfl).tr ((FR.mo A1.2.1 rfl).tr (FR.mo fmG rfl)))
            have b01 : rM2.1 = 0 ∨ rM2.1 = 1 := by
              rcases vr with ⟨q, _⟩ | q
              · exact Or.inr q
              · exact Or.inl q.1
            rw [v1, sb, sb, ← hgH, sb, sb, ok, nw_1, if_neg (by decide), ← hmG, v2, sb, if_pos b01, sb]
            rcases vr with ⟨ok2, hy2, y20, y21, A2, _⟩ | bad
            · have R3 := (A2.2.2.2.2.1).frx fH rfl
              have fXH : FR RLX gX gH := fXG.tr ((FR.mo A2.1 rfl).tr (FR.mo fH rfl))
              have fM2 : FR RLN gM rM2.2 := fMG.tr (FR.mo A2.2.1 rfl)
              have kx : ∀ a l, a = 31 ∨ a = 32 ∨ a = 33 ∨ a = 34 → gH a l = g9 a l := fun a l ha => by
                rcases ha with rfl | rfl | rfl | rfl <;> rw [fH _ l rfl, A2.1 _ l rfl, fG _ l rfl, A1.1 _ l rfl]
              have km : ∀ a l, a = 135 ∨ a = 138 ∨ a = 139 ∨ a = 140 → rM2.2 a l = m14 a l := fun a l ha => by
                rcases ha with rfl | rfl | rfl | rfl <;> rw [A2.2.1 _ l rfl, fmG _ l rfl, A1.2.1 _ l rfl, fmF _ l rfl]
              have k35 : ∀ l, gH 35 l = gG 35 l := fun l => by rw [fH 35 l rfl, A2.1 35 l rfl]
              have k36 : ∀ l, rX2 36 l = g9 36 l := fun l => by rw [A2.1 36 l rfl, fG 36 l rfl, A1.1 36 l rfl]
              have k136 : ∀ l, rM2.2 136 l = mF 136 l := fun l => by rw [A2.2.1 136 l rfl, fmG 136 l rfl, A1.2.1 136 l rfl]
              have k137 : ∀ l, rM2.2 137 l = mG 137 l := fun l => by rw [A2.2.1 137 l rfl]
              have lo : ∀ j, j < 2 * s → rM2.2 141 j = m14 141 j := fun j hj => by rw [A2.2.2.2.1 j hj, fmG 141 j rfl, A1.2.2.2.1 j hj, fmF 141 j rfl]
              have c41 : mF 117 41 = m14 117 41 := fmF 117 41 rfl
              have c41b : mG 117 41 = rM1.2 117 41 := fmG 117 41 rfl
              obtain ⟨rX, rM, l1, l2, l3⟩ := line_end (gX := gX) (gM := gM) (k := k) (x := x) (s := s) O R3 (by ((try clear nk); (try clear ik); (try clear nn); (try clear inn); (try clear wX); (try clear wM); (try clear tokn); (try clear ex); (try clear mh); (try clear nm20); (try clear et); (try clear hM); omega)) (by ((try clear nk); (try clear ik); (try clear nn); (try clear inn); (try clear wX); (try clear wM); (try clear tokn); (try clear ex); (try clear mh); (try clear nm20); (try clear et); (try clear hM); omega)) fXH fM2 (by rw [A2.2.2.1, fmG 117 45 rfl, A1.2.2.1, fmF 117 45 rfl]; exact d45) n16 (by rw [fH 3 3 rfl, A2.1 3 3 rfl, fG 3 3 rfl, A1.1 3 3 rfl]; exact b33) c1 (fun l hl => by
                have e : l ≠ n := by ((try clear nk); (try clear ik); (try clear nn); (try clear inn); (try clear wX); (try clear wM); (try clear tokn); (try clear ex); (try clear mh); (try clear nm20); (try clear et); (try clear hM); omega)
                refine (LN9 l hl).tr (Nat.le_refl s) (kx 31 l (by ((try clear nk); (try clear ik); (try clear nn); (try clear inn); (try clear wX); (try clear wM); (try clear tokn); (try clear ex); (try clear mh); (try clear nm20); (try clear et); (try clear hM); omega))) (kx 32 l (by ((try clear nk); (try clear ik); (try clear nn); (try clear inn); (try clear wX); (try clear wM); (try clear tokn); (try clear ex); (try clear mh); (try clear nm20); (try clear et); (try clear hM); omega))) (kx 33 l (by ((try clear nk); (try clear ik); (try clear nn); (try clear inn); (try clear wX); (try clear wM); (try clear tokn); (try clear ex); (try clear mh); (try clear nm20); (try clear et); (try clear hM); omega))) (kx 34 l (by ((try clear nk); (try clear ik); (try clear nn); (try clear inn); (try clear wX); (try clear wM); (try clear tokn); (try clear ex); (try clear mh); (try clear nm20); (try clear et); (try clear hM); omega))) ?_ ?_ (km 135 l (by ((try clear nk); (try clear ik); (try clear nn); (try clear inn); (try clear wX); (try clear wM); (try clear tokn); (try clear ex); (try clear mh); (try clear nm20); (try clear et); (try clear hM); omega))) ?_ ?_ (km 138 l (by ((try clear nk); (try clear ik); (try clear nn); (try clear inn); (try clear wX); (try clear wM); (try clear tokn); (try clear ex); (try clear mh); (try clear nm20); (try clear et); (try clear hM); omega))) (km 139 l (by ((try clear nk); (try clear ik); (try clear nn); (try clear inn); (try clear wX); (try clear wM); (try clear tokn); (try clear ex); (try clear mh); (try clear nm20); (try clear et); (try clear hM); omega))) (km 140 l (by ((try clear nk); (try clear ik); (try clear nn); (try clear inn); (try clear wX); (try clear wM); (try clear tokn); (try clear ex); (try clear mh); (try clear nm20); (try clear et); (try clear hM); omega))) lo
                · rw [k35, hgG, up_at, if_neg (fun q => e q.2), A1.1 35 l rfl]
                · rw [hgH, up_at, if_neg (fun q => e q.2), k36]
                · rw [k136, hmF, up_at, if_neg (fun q => e q.2)]
                · rw [k137, hmG, up_at, if_neg (fun q => e q.2), A1.2.1 137 l rfl, fmF 137 l rfl]) ((((TN9.fr A1.1 rfl (fmF.tr (W := inR [(136, 0)]) Fr.rf) rfl).fr fG rfl A1.2.1 rfl).fr A2.1 rfl fmG rfl).fr fH rfl A2.2.1 rfl) (by rw [kx 31 n (by ((try clear nk); (try clear ik); (try clear nn); (try clear inn); (try clear wX); (try clear wM); (try clear tokn); (try clear ex); (try clear mh); (try clear nm20); (try clear et); (try clear hM); omega)), km 135 n (by ((try clear nk); (try clear ik); (try clear nn); (try clear inn); (try clear wX); (try clear wM); (try clear tokn); (try clear ex); (try clear mh); (try clear nm20); (try clear et); (try clear hM); omega)), x31, y135]; ((try clear nk); (try clear ik); (try clear nn); (try clear inn); (try clear wX); (try clear wM); (try clear tokn); (try clear ex); (try clear mh); (try clear nm20); (try clear et); (try clear hM); omega)) (by rw [km 135 n (by ((try clear nk); (try clear ik); (try clear nn); (try clear inn); (try clear wX); (try clear wM); (try clear tokn); (try clear ex); (try clear mh); (try clear nm20); (try clear et); (try clear hM); omega)), y135]; ((try clear nk); (try clear ik); (try clear nn); (try clear inn); (try clear wX); (try clear wM); (try clear tokn); (try clear ex); (try clear mh); (try clear nm20); (try clear et); (try clear hM); omega)) (by rw [km 138 n (by ((try clear nk); (try clear ik); (try clear nn); (try clear inn); (try clear wX); (try clear wM); (try clear tokn); (try clear ex); (try clear mh); (try clear nm20); (try clear et); (try clear hM); omega)), y138]) (by rw [kx 32 n (by ((try clear nk); (try clear ik); (try clear nn); (try clear inn); (try clear wX); (try clear wM); (try clear tokn); (try clear ex); (try clear mh); (try clear nm20); (try clear et); (try clear hM); omega)), x32]) (Nat.le_refl s) (fun q => by rw [km 135 n (by ((try clear nk); (try clear ik); (try clear nn); (try clear inn); (try clear wX); (try clear wM); (try clear tokn); (try clear ex); (try clear mh); (try clear nm20); (try clear et); (try clear hM); omega)), y135] at q; ((try clear nk); (try clear ik); (try clear nn); (try clear inn); (try clear wX); (try clear wM); (try clear tokn); (try clear ex); (try clear mh); (try clear nm20); (try clear et); (try clear hM); omega)) (fun _ => by
                rw [k136, k137, k35, hgH, up_at, if_pos ⟨rfl, rfl⟩, hgG, up_at, if_pos ⟨rfl, rfl⟩, hmF, up_at, if_pos ⟨rfl, rfl⟩, hmG, up_at, if_pos ⟨rfl, rfl⟩]
                exact ⟨by rw [hy, c41], by rw [hy2, c41b], ⟨y10, y11⟩, ⟨y20, y21⟩⟩)
              exact ⟨rX, rM, l1, by dsimp only; rw [ok2, nw_1, if_neg (by decide)]; exact l2, l3⟩
            · obtain ⟨b1, b2, b3, w, p, F, b4, b5⟩ := bad
              obtain ⟨s', t1', t2'⟩ := F.2.2.2.2.1
              have FH := F.fr fH rfl ⟨s', t1', by rw [fH 3 2 rfl]; exact t2'⟩
              obtain ⟨g', e', F', f'⟩ := xf_tl FH x n
              exact ⟨g', (0, rM2.2), e', by dsimp only; rw [b1, nw_0, if_pos rfl], Or.inr ⟨rfl, w, p, F', b4, b5⟩, fXG.tr ((FR.mo b2 rfl).tr ((FR.mo fH rfl).tr (FR.mo f' rfl))), fMG.tr (FR.mo b3 rfl)⟩
          · obtain ⟨b1, b2, b3, w, p, F, b4, b5⟩ := bad
            obtain ⟨s', t1', t2'⟩ := F.2.2.2.2.1
            have FG := F.fr fG rfl ⟨s', t1', by rw [fG 3 2 rfl]; exact t2'⟩
            obtain ⟨gH, hgH⟩ : ∃ gH : AG, gH = up gG 36 n 0 := ⟨_, rfl⟩
            have fH : FR [(36, 0)] gG gH := by rw [hgH]; exact Fr.up Fr.rf rfl
            have FH := FG.fr fH rfl ⟨s', t1', by rw [fH 3 2 rfl, fG 3 2 rfl]; exact t2'⟩
            obtain ⟨g', e', F', f'⟩ := xf_tl FH x n
            refine ⟨g', (0, rM1.2), by rw [xf_num FG, sb, sb, ← hgH, sb]; exact e', by rw [b1, nw_0, if_pos rfl, sb, nw_0, if_pos rfl], Or.inr ⟨rfl, w, p, F', b4, b5⟩, fX9.tr ((FR.mo b2 rfl).tr ((FR.mo fG rfl).tr ((FR.mo fH rfl).tr (FR.mo f' rfl)))), fM14.tr ((FR.mo fmF rfl).tr (FR.mo b3 rfl))⟩
        · obtain ⟨rX1, rM1, t1, t2, tr⟩ := sum_rel O R9 (by ((try clear nk); (try clear ik); (try clear nn); (try clear inn); (try clear wX); (try clear wM); (try clear tokn); (try clear ex); (try clear mh); (try clear nm20); (try clear et); (try clear hM); omega))
          rw [if_neg c1, if_neg c2, t1, sb, sb, if_neg (show ¬ m - 20 = 1 by ((try clear nk); (try clear ik); (try clear nn); (try clear inn); (try clear wX); (try clear wM); (try clear tokn); (try clear ex); (try clear mh); (try clear nm20); (try clear et); (try clear hM); omega)), if_neg (show ¬ m - 20 = 0 by ((try clear nk); (try clear ik); (try clear nn); (try clear inn); (try clear wX); (try clear wM); (try clear tokn); (try clear ex); (try clear mh); (try clear nm20); (try clear et); (try clear hM); omega)), t2, sb]
          rcases tr with ⟨ok, k2, s2, A1⟩ | bad
          · have s2k := A1.le (show s ≤ k + 1 by ((try clear nk); (try clear ik); (try clear nn); (try clear inn); (try clear wX); (try clear wM); (try clear tokn); (try clear ex); (try clear mh); (try clear nm20); (try clear et); (try clear hM); omega))
            have c7 := A1.2.2.2.2.2.1
            have c8 := A1.2.2.2.2.2.2.1
            have lo := A1.2.2.2.1
            obtain ⟨rX, rM, l1, l2, l3⟩ := line_end (gX := gX) (gM := gM) (k := k) (x := x) (s := s) O A1.2.2.2.2.1 s2k (by ((try clear nk); (try clear ik); (try clear nn); (try clear inn); (try clear wX); (try clear wM); (try clear tokn); (try clear ex); (try clear mh); (try clear nm20); (try clear et); (try clear hM); omega)) (fX9.tr (FR.mo A1.1 rfl)) (fM14.tr (FR.mo A1.2.1 rfl)) (by rw [A1.2.2.1]; exact d45) n16 (by rw [A1.1 3 3 rfl]; exact b33) c1 (fun l hl => (LN9 l hl).tr c8 (A1.1 31 l rfl) (A1.1 32 l rfl) (A1.1 33 l rfl) (A1.1 34 l rfl) (A1.1 35 l rfl) (A1.1 36 l rfl) (A1.2.1 135 l rfl) (A1.2.1 136 l rfl) (A1.2.1 137 l rfl) (A1.2.1 138 l rfl) (A1.2.1 139 l rfl) (A1.2.1 140 l rfl) lo) (TN9.fr A1.1 rfl A1.2.1 rfl) (by rw [A1.1 31 n rfl, A1.2.1 135 n rfl, x31, y135]; ((try clear nk); (try clear ik); (try clear nn); (try clear inn); (try clear wX); (try clear wM); (try clear tokn); (try clear ex); (try clear mh); (try clear nm20); (try clear et); (try clear hM); omega)) (by rw [A1.2.1 135 n rfl, y135]; ((try clear nk); (try clear ik); (try clear nn); (try clear inn); (try clear wX); (try clear wM); (try clear tokn); (try clear ex); (try clear mh); (try clear nm20); (try clear et); (try clear hM); omega)) (by rw [A1.2.1 138 n rfl, y138]) (by rw [A1.1 32 n rfl, x32]) c8 (fun _ => A1.2.2.2.2.2.2.2.2) (fun q => by rw [A1.2.1 135 n rfl, y135] at q; ((try clear nk); (try clear ik); (try clear nn); (try clear inn); (try clear wX); (try clear wM); (try clear tokn); (try clear ex); (try clear mh); (try clear nm20); (try clear et); (try clear hM); omega))
            exact ⟨rX, rM, l1, by rw [ok, nw_1, if_neg (by decide)]; exact l2, l3⟩
          · obtain ⟨b1, b2, b3, w, p, F, b4, b5⟩ := bad
            obtain ⟨g', e', F', f'⟩ := xf_tl F x n
            exact ⟨g', (0, rM1.2), e', by rw [b1, nw_0, if_pos rfl], Or.inr ⟨rfl, w, p, F', b4, b5⟩, fX9.tr ((FR.mo b2 rfl).tr (FR.mo f' rfl)), fM14.tr (FR.mo b3 rfl)⟩
  · obtain ⟨e1, e2, B⟩ := (Acc.start (E := EvT) R trivial).bad O (w := 1) (by ((try clear nk); (try clear ik); (try clear nn); (try clear inn); (try clear wX); (try clear wM); (try clear tokn); (try clear ex); (try clear mh); (try clear nm20); (try clear et); (try clear hM); omega)) (by ((try clear nk); (try clear ik); (try clear nn); (try clear inn); (try clear wX); (try clear wM); (try clear tokn); (try clear ex); (try clear mh); (try clear nm20); (try clear et); (try clear hM); omega))
    refine ⟨_, (0, badM gM 1), ?_, ?_, Or.inr ⟨rfl, B.2.2.2⟩, FR.mo B.2.1 rfl, FR.mo B.2.2.1 rfl⟩
    · unfold Parser_readLine
      rw [if_pos tokn, ex, if_pos (by rw [wX]; ((try clear nk); (try clear ik); (try clear nn); (try clear inn); (try clear wX); (try clear wM); (try clear tokn); (try clear ex); (try clear mh); (try clear nm20); (try clear et); (try clear hM); omega)), e1, sb]
    · unfold M_aLine
      rw [hm, if_pos (by rw [wM]; ((try clear nk); (try clear ik); (try clear nn); (try clear inn); (try clear wX); (try clear wM); (try clear tokn); (try clear ex); (try clear mh); (try clear nm20); (try clear et); (try clear hM); omega)), e2, sb, if_pos (Or.inl rfl)]
end
section
/-! plain programs: all lines, both sides -/
abbrev RQM : Reg := [(117, 36), (117, 39), (117, 40), (117, 41), (117, 42), (117, 43), (117, 44), (117, 37), (117, 46), (135, 0), (136, 0), (137, 0), (138, 0), (139, 0), (140, 0), (141, 0), (143, 0), (145, 0)]
def POk (tp : Nat → Int) (L T : Nat) (rX rM : AG) : Prop := ∃ k s n : Nat, PRel tp L T k s rX rM ∧ n ≤ 16 ∧ rX 3 3 = n ∧ rM 117 35 = n ∧ (∀ l, l < n → LnR s rX rM l) ∧ TnR rX rM
theorem lines_rel {tp : Nat → Int} {L T : Nat} (O : TkOk tp L T) : ∀ (N k s n : Nat) (gX gM : AG), T - k = N → PRel tp L T k s gX gM → s ≤ k → n ≤ 16 → gX 3 3 = n → gM 117 35 = n → (∀ l, l < n → LnR s gX gM l) → TnR gX gM → ∃ (rX rM : AG) (b i : Int), Parser_read_b 1 n gX = Parser_read_b 2 i rX ∧ M_rules_b 2 1 gM = M_rules_b 3 b rM ∧ ((b = 1 ∧ POk tp L T rX rM) ∨ (b = 0 ∧ PFail tp L T rX rM)) ∧ FR RLX gX rX ∧ FR RQM gM rM := by
  intro N
  induction N using Nat.strongRecOn with
  | ind N ih =>
  intro k s n gX gM hN R hs hn h33 h35 LN TN
  have hT := O.T500
  obtain ⟨x, m, v, tk, hxx, hm, nx, nm, hv, z1, z2, pl⟩ := R.see O
  have a2 := R.2.1
  have a3 := R.2.2.1
  have a9 := R.2.2.2.2.2.2.2.2.1
  have kT : x ≠ 0 → k < T := fun h => Nat.lt_of_le_of_ne a9 (fun q => h (z2 q))
  have m0 : x = 0 ↔ m = 0 := tk_0 tk
  have nk : nw (k : Int) = k := nwN k (by ((try clear nk); (try clear ik); (try clear nn); (try clear tokn); (try clear ex); (try clear mh); omega))
  have ik : ix (k : Int) = k := ixN k (by ((try clear nk); (try clear ik); (try clear nn); (try clear tokn); (try clear ex); (try clear mh); omega))
  have n16 : ¬ (16 : Int) < (n : Int) := by ((try clear nk); (try clear ik); (try clear nn); (try clear tokn); (try clear ex); (try clear mh); omega)
  have nn : nw (n : Int) = n := nwN n (by ((try clear nk); (try clear ik); (try clear nn); (try clear tokn); (try clear ex); (try clear mh); omega))
  have tokn : 0 ≤ nw (gX 4 6) ∧ nw (gX 4 6) < 501 := by rw [a2, nk]; ((try clear nk); (try clear ik); (try clear nn); (try clear tokn); (try clear ex); (try clear mh); omega)
  have ex : gX 42 (ix (gX 4 6)) = x := by rw [a2, ik]; exact hxx
  have xh : Parser_read_b 1 n gX = (if x = 0 then Parser_read_b 2 n gX else (Parser_readLine gX >>= fun r5 => Parser_read_b 1 ((n : Int) + 1) r5.2)) := by
    rw [Parser_read_b.eq_1 1, if_pos rfl, nn, if_neg n16, a3, nw_0, if_pos rfl, if_pos tokn, ex, nx]
  have mh : M_rules_b 2 1 gM = (if m = 0 then M_rules_b 3 1 gM else (M_aLine gM >>= fun r3 => (some (if nw r3.1 = 0 then 0 else 1) >>= fun t5 => (some (up r3.2 117 35 (r3.2 117 35 + t5)) >>= fun g7 => M_rules_b 2 r3.1 g7)))) := by
    rw [M_rules_b.eq_1 2, if_neg (by decide), if_pos rfl, nw_1, if_neg (by decide), hm, nm]
  rw [xh, mh]
  by_cases c : x = 0
  · rw [if_pos c, if_pos (m0.mp c)]
    exact ⟨gX, gM, 1, n, rfl, rfl, Or.inl ⟨rfl, k, s, n, R, hn, h33, h35, LN, TN⟩, Fr.rf, Fr.rf⟩
  · rw [if_neg c, if_neg (fun q => c (m0.mpr q))]
    obtain ⟨rX1, rM1, u1, u2, ur, f1, f2⟩ := line_rel O R hs hn h33 h35 LN TN
    rw [u1, u2, sb, sb]
    have c35 : rM1.2 117 35 = n := by rw [f2 117 35 rfl]; exact h35
    rcases ur with ⟨ok, n16', k', s', R', sk, kk, h33', LN', TN'⟩ | ⟨bad0, w, p, F, b4, b5⟩
    · obtain ⟨m7, hm7⟩ : ∃ m7 : AG, m7 = up rM1.2 117 35 (rM1.2 117 35 + 1) := ⟨_, rfl⟩
      have f7 : FR [(117, 36)] rM1.2 m7 := by rw [hm7]; exact Fr.up Fr.rf rfl
      have b9 := R'.2.2.2.2.2.2.2.2.1
      obtain ⟨rX, rM, b, i, e1, e2, er, g1, g2⟩ := ih (T - k') (by ((try clear nk); (try clear ik); (try clear nn); (try clear tokn); (try clear ex); (try clear mh); omega)) k' s' (n + 1) rX1 m7 rfl (R'.frm f7 rfl) sk (by ((try clear nk); (try clear ik); (try clear nn); (try clear tokn); (try clear ex); (try clear mh); omega)) h33' (by rw [hm7, up_at, if_pos ⟨rfl, rfl⟩, c35]; rfl) (fun l hl => (LN' l hl).tr (Nat.le_refl s') rfl rfl rfl rfl rfl rfl (f7 135 l rfl) (f7 136 l rfl) (f7 137 l rfl) (f7 138 l rfl) (f7 139 l rfl) (f7 140 l rfl) (fun j _ => f7 141 j rfl)) (TN'.fr (Fr.rf (W := inR [(1, 0)])) rfl f7 rfl)
      refine ⟨rX, rM, b, i, e1, ?_, er, f1.tr g1, (FR.mo f2 rfl).tr ((FR.mo f7 rfl).tr g2)⟩
      rw [ok, nw_1, if_neg (by decide), sb, sb, ← hm7]
      exact e2
    · obtain ⟨m7, hm7⟩ : ∃ m7 : AG, m7 = up rM1.2 117 35 (rM1.2 117 35 + 0) := ⟨_, rfl⟩
      have f7 : FR [(117, 36)] rM1.2 m7 := by rw [hm7]; exact Fr.up Fr.rf rfl
      refine ⟨rX1, m7, 0, (n : Int) + 1, ?_, ?_, Or.inr ⟨rfl, w, p, F, by rw [f7 117 42 rfl]; exact b4, by rw [f7 117 43 rfl, f7 117 41 rfl]; exact b5⟩, f1, (FR.mo f2 rfl).tr (FR.mo f7 rfl)⟩
      · show Parser_read_b 1 ((n : Int) + 1) rX1 = _
        rw [Parser_read_b.eq_1 1, if_pos rfl, if_neg F.nw7]
        by_cases y : 16 < nw ((n : Int) + 1)
        · rw [if_pos y]
        · rw [if_neg y]
      · rw [bad0, nw_0, if_pos rfl, sb, sb, ← hm7, M_rules_b.eq_1 2, if_neg (by decide), if_pos rfl, nw_0, if_pos rfl]
theorem M_clear_s : ∀ (n k : Nat) (g : AG), k + n = 30 → ∃ g', M_rules_b 1 k g = M_rules_b 1 30 g' ∧ FR [(145, 0)] g g' ∧ (∀ j, k ≤ j → j < 30 → g' 145 j = 0) ∧ ∀ j, j < k → g' 145 j = g 145 j := by
  intro n
  induction n with
  | zero =>
    intro k g h
    have e : k = 30 := by omega
    subst e
    exact ⟨g, rfl, Fr.rf, fun j h1 h2 => by omega, fun j _ => rfl⟩
  | succ n ih =>
    intro k g h
    obtain ⟨g', e, f, r1, r2⟩ := ih (k + 1) (up g 145 k 0) (by omega)
    refine ⟨g', ?_, (Fr.up Fr.rf rfl).tr f, fun j h1 h2 => ?_, fun j h1 => ?_⟩
    · rw [M_rules_b.eq_1 1, if_pos rfl, nwN k (by omega), if_neg (by omega), if_pos (by omega), ixN k (by omega), sb]
      exact e
    · by_cases y : j = k
      · rw [y, r2 k (by omega), up_at, if_pos ⟨rfl, rfl⟩]
      · exact r1 j (by omega) h2
    · rw [r2 j (by omega), up_at, if_neg (fun q => by omega)]
abbrev RPA : Reg := [(4, 6), (4, 7), (4, 8), (4, 9), (3, 3), (3, 4), (3, 11), (29, 0), (30, 0), (31, 0), (32, 0), (33, 0), (34, 0), (35, 0), (36, 0), (37, 0), (38, 0), (42, 0), (43, 0)]
theorem parse_rel {tp : Nat → Int} {L : Nat} (O : TpOk tp L) {gX gM : AG} (TX : TapX gX tp L) (TM : TapM gM tp L) (hv : 0 ≤ gM 117 41 ∧ gM 117 41 ≤ 9999) : ∃ (T : Nat) (rX rM : AG) (b : Int), TkOk tp L T ∧ Parser_read gX = some (if rX 4 7 = 0 then rX 3 3 else -1, up rX 4 2 0) ∧ M_rules gM = M_rules_b 3 b rM ∧ ((b = 1 ∧ POk tp L T rX rM) ∨ (b = 0 ∧ PFail tp L T rX rM)) ∧ FR RPA gX rX ∧ FR RQM gM rM := by
  -- the class: its tokens
  obtain ⟨g5, hg5⟩ : ∃ g5 : AG, g5 = up (up (up gX 4 7 0) 4 8 (-1)) 4 6 0 := ⟨_, rfl⟩
  obtain ⟨g7, hg7⟩ : ∃ g7 : AG, g7 = fillG (fillG (up (up (up g5 3 2 0) 3 3 0) 3 10 0) 37 30 0) 38 30 0 := ⟨_, rfl⟩
  have f5 : FR RPA gX g5 := by rw [hg5]; exact Fr.up (Fr.up (Fr.up Fr.rf rfl) rfl) rfl
  have f7 : FR [(3, 3), (3, 4), (3, 11), (37, 0), (38, 0)] g5 g7 := by
    rw [hg7]
    exact Fr.fill (Fr.fill (Fr.up (Fr.up (Fr.up Fr.rf rfl) rfl) rfl) (fun _ => rfl)) (fun _ => rfl)
  have clr : Rules_clear g5 = some (0, g7) := by
    unfold Rules_clear
    rw [sb, sb, sb, sb, sb, hg7]
  have fX7 : FR RPA gX g7 := f5.tr (FR.mo f7 rfl)
  obtain ⟨g9, T, e9, f9, tL, c5, cT, cK, ck⟩ := X_scan_s O (g := g7) ⟨by rw [fX7 4 2 rfl]; exact TX.1, fun k hk => by rw [fX7 41 k rfl]; exact TX.2 k hk⟩
  have OT : TkOk tp L T := ⟨O, tL, cT, cK⟩
  have fX9 : FR RPA gX g9 := fX7.tr (FR.mo f9 rfl)
  have x6 : g9 4 6 = 0 := by rw [f9 4 6 rfl, f7 4 6 rfl, hg5, up_at, if_pos ⟨rfl, rfl⟩]
  have x7 : g9 4 7 = 0 := by rw [f9 4 7 rfl, f7 4 7 rfl, hg5, up_at, if_neg (by ((try clear n7); omega)), up_at, if_neg (by ((try clear n7); omega)), up_at, if_pos ⟨rfl, rfl⟩]
  have x8 : g9 4 8 = -1 := by rw [f9 4 8 rfl, f7 4 8 rfl, hg5, up_at, if_neg (by ((try clear n7); omega)), up_at, if_pos ⟨rfl, rfl⟩]
  have x2 : g9 3 2 = 0 := by rw [f9 3 2 rfl, hg7]; simp [up_at, fill_at]
  have x3 : g9 3 3 = 0 := by rw [f9 3 3 rfl, hg7]; simp [up_at, fill_at]
  have x10 : g9 3 10 = 0 := by rw [f9 3 10 rfl, hg7]; simp [up_at, fill_at]
  have x37 : ∀ j, j < 30 → g9 37 j = 0 ∧ g9 38 j = 0 := fun j hj => by
    refine ⟨?_, ?_⟩
    · rw [f9 37 j rfl, hg7]; simp [fill_at, hj]
    · rw [f9 38 j rfl, hg7]; simp [fill_at, hj]
  -- the reference
  obtain ⟨m7, hm7⟩ : ∃ m7 : AG, m7 = up (up (up (up gM 117 42 0) 117 38 0) 117 35 0) 117 36 0 := ⟨_, rfl⟩
  have fm7 : FR RQM gM m7 := by rw [hm7]; exact Fr.up (Fr.up (Fr.up (Fr.up Fr.rf rfl) rfl) rfl) rfl
  obtain ⟨m8, e8, fm8, z1, z2⟩ := M_clear_s 30 0 m7 (by ((try clear n7); omega))
  have fM8 : FR RQM gM m8 := fm7.tr (FR.mo fm8 rfl)
  have y38 : m8 117 38 = ((0 : Nat) : Int) := by rw [fm8 117 38 rfl, hm7, up_at, if_neg (by ((try clear n7); omega)), up_at, if_neg (by ((try clear n7); omega)), up_at, if_pos ⟨rfl, rfl⟩]; rfl
  have y41 : m8 117 41 = gM 117 41 := by rw [fm8 117 41 rfl, hm7, up_at, if_neg (by ((try clear n7); omega)), up_at, if_neg (by ((try clear n7); omega)), up_at, if_neg (by ((try clear n7); omega)), up_at, if_neg (by ((try clear n7); omega))]
  have y36 : m8 117 36 = 0 := by rw [fm8 117 36 rfl, hm7, up_at, if_pos ⟨rfl, rfl⟩]
  have y35 : m8 117 35 = 0 := by rw [fm8 117 35 rfl, hm7, up_at, if_neg (by ((try clear n7); omega)), up_at, if_pos ⟨rfl, rfl⟩]
  obtain ⟨m9, em9, at9, fm9, v9⟩ := M_next0_s O (p := 0) (g := m8) ⟨by rw [fM8 117 37 rfl]; exact TM.1, fun k hk => by rw [fM8 146 k rfl]; exact TM.2 k hk⟩ (by ((try clear n7); omega)) y38 (by rw [y41]; exact hv)
  have fM9 : FR RQM gM m9 := fM8.tr (FR.mo fm9 rfl)
  have R : PRel tp L T 0 0 g9 m9 := ⟨⟨c5, ck⟩, x6, x7, x2, ⟨by rw [fM9 117 37 rfl]; exact TM.1, fun k hk => by rw [fM9 146 k rfl]; exact TM.2 k hk⟩, at9, v9, by rw [fm9 117 36 rfl]; exact y36, Nat.zero_le _, by ((try clear n7); omega), fun j hj => by ((try clear n7); omega), fun j hj => by ((try clear n7); omega), x8, by rw [fm9 117 42 rfl, fm8 117 42 rfl, hm7, up_at, if_neg (by ((try clear n7); omega)), up_at, if_neg (by ((try clear n7); omega)), up_at, if_neg (by ((try clear n7); omega)), up_at, if_pos ⟨rfl, rfl⟩]⟩
  have TN : TnR g9 m9 := by
    intro i hi u hu
    have c1 : m9 145 (2 * i + u) = 0 := by rw [fm9 145 _ rfl]; exact z1 _ (Nat.zero_le _) (by ((try clear n7); omega))
    have c2 := x37 (15 * u + i) (by ((try clear n7); omega))
    rw [c1, c2.1, c2.2, x10, tb_0]
    exact ⟨rfl, fun h => absurd h (by decide), fun _ => ⟨rfl, rfl⟩, by ((try clear n7); omega), by ((try clear n7); omega)⟩
  obtain ⟨rX, rM, b, i, e1, e2, er, g1, g2⟩ := lines_rel OT (T - 0) 0 0 0 g9 m9 rfl R (Nat.le_refl 0) (by ((try clear n7); omega)) x3 (by rw [fm9 117 35 rfl]; exact y35) (fun l hl => by ((try clear n7); omega)) TN
  refine ⟨T, rX, rM, b, OT, ?_, ?_, er, fX9.tr (FR.mo g1 rfl), fM9.tr g2⟩
  · have e1' : Parser_read_b 1 0 g9 = Parser_read_b 2 i rX := e1
    have d : Parser_read gX = Parser_read_b 2 i rX := by
      unfold Parser_read
      rw [sb, sb, sb, ← hg5, clr, sb, e9, sb]
      exact e1'
    have u7 : (up rX 4 2 0) 4 7 = rX 4 7 := by rw [up_at, if_neg (by ((try clear n7); omega))]
    have u3 : (up rX 4 2 0) 3 3 = rX 3 3 := by rw [up_at, if_neg (by ((try clear n7); omega))]
    have n7 : (nw (rX 4 7) = 0) = (rX 4 7 = 0) := by
      rcases er with ⟨_, k, s, n, R', _⟩ | ⟨_, w, p, F, _⟩
      · rw [R'.2.2.1, nw_0]
      · have w1 := F.2.2.1
        have w2 := F.2.2.2.2.2.1
        have w3 := F.2.2.2.2.2.2.1
        rw [w1, nw_id (by ((try clear n7); omega)) (by ((try clear n7); omega))]
    rw [d, Parser_read_b.eq_1 2, if_neg (by decide), if_pos rfl, sb, u7, u3, sb]
    by_cases y : rX 4 7 = 0
    · rw [if_pos y, if_pos (by rw [n7]; exact y)]
    · rw [if_neg y, if_neg (by rw [n7]; exact y)]
  · unfold M_rules
    rw [sb, sb, sb, sb, ← hm7]
    have e8' : M_rules_b 1 0 m7 = M_rules_b 1 30 m8 := e8
    rw [e8', M_rules_b.eq_1 1, if_pos rfl, nw_id (a := 30) (by decide) (by decide), if_pos (Int.le_refl _), em9, sb]
    exact e2
end
