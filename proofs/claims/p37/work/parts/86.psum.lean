/-! plain programs: E, T and U, both sides -/
def Stb (E : (Nat → Int) → Nat → Nat → Prop) : Prop := ∀ (cd cd' : Nat → Int) (a b : Nat), a ≤ b → (∀ j, j < 2 * b → cd' j = cd j) → E cd a b → E cd' a b
theorem stbN (h : Nat) : Stb (EvN h) := fun _ _ _ _ hab e q => q.cd hab e
theorem stbB (h : Nat) : Stb (EvB h) := fun _ _ _ _ hab e q => q.cd hab e
theorem stbT : Stb EvT := fun _ _ _ _ _ _ _ => trivial
def PBad (tp : Nat → Int) (L T : Nat) (X0 M0 rX : AG) (rM : Int × AG) : Prop := rM.1 = 0 ∧ FR RPX X0 rX ∧ FR RPM M0 rM.2 ∧ PFail tp L T rX rM.2
theorem Acc.start {tp : Nat → Int} {L T : Nat} {E : (Nat → Int) → Nat → Nat → Prop} {k s : Nat} {gX gM : AG} (R : PRel tp L T k s gX gM) (h : E (gM 141) s s) : Acc tp L T E k s gX gM k s gX gM := ⟨Fr.rf, Fr.rf, rfl, fun _ _ => rfl, R, Nat.le_refl k, Nat.le_refl s, Nat.le_refl _, h⟩
theorem Acc.le {tp : Nat → Int} {L T : Nat} {E : (Nat → Int) → Nat → Nat → Prop} {k0 s0 k s : Nat} {X0 M0 gX gM : AG} (A : Acc tp L T E k0 s0 X0 M0 k s gX gM) (h : s0 ≤ k0) : s ≤ k := by
  obtain ⟨_, _, _, _, _, a, b, c, _⟩ := A
  omega
theorem Acc.to {tp : Nat → Int} {L T : Nat} {E E' : (Nat → Int) → Nat → Nat → Prop} {k0 s0 k s : Nat} {X0 M0 gX gM : AG} (A : Acc tp L T E k0 s0 X0 M0 k s gX gM) (h : E (gM 141) s0 s → E' (gM 141) s0 s) : Acc tp L T E' k0 s0 X0 M0 k s gX gM := by
  obtain ⟨a1, a2, a3, a4, a5, a6, a7, a8, a9⟩ := A
  exact ⟨a1, a2, a3, a4, a5, a6, a7, a8, h a9⟩
theorem Acc.nx {tp : Nat → Int} {L T : Nat} (O : TkOk tp L T) {E : (Nat → Int) → Nat → Nat → Prop} {k0 s0 k s : Nat} {X0 M0 gX gM : AG} (A : Acc tp L T E k0 s0 X0 M0 k s gX gM) (hk : k < T) : ∃ gM', Parser_goOn gX = some (0, up gX 4 6 ((k : Int) + 1)) ∧ M_next0 gM = some (0, gM') ∧ Acc tp L T E k0 s0 X0 M0 (k + 1) s (up gX 4 6 ((k : Int) + 1)) gM' ∧ FR RNX gM gM' := by
  obtain ⟨a1, a2, a3, a4, a5, a6, a7, a8, a9⟩ := A
  obtain ⟨gM', e1, e2, R, f⟩ := a5.nx O hk
  have c : gM' 141 = gM 141 := f.cell (fun _ => rfl)
  exact ⟨gM', e1, e2, ⟨Fr.up a1 rfl, a2.tr (FR.mo f rfl), by rw [f 117 45 rfl]; exact a3, fun j hj => by rw [c]; exact a4 j hj, R, by omega, a7, by omega, by rw [c]; exact a9⟩, f⟩
theorem Acc.bad {tp : Nat → Int} {L T : Nat} (O : TkOk tp L T) {E : (Nat → Int) → Nat → Nat → Prop} {k0 s0 k s : Nat} {X0 M0 gX gM : AG} (A : Acc tp L T E k0 s0 X0 M0 k s gX gM) {w : Int} (h1 : 1 ≤ w) (h3 : w ≤ 3) : Parser_fail w gX = some (0, failX gX k w) ∧ M_bad w gM = some (0, badM gM w) ∧ PBad tp L T X0 M0 (failX gX k w) (0, badM gM w) := by
  obtain ⟨a1, a2, a3, a4, a5, a6, a7, a8, a9⟩ := A
  obtain ⟨e1, e2, F, f1, f2⟩ := a5.bad O h1 h3
  exact ⟨e1, e2, rfl, a1.tr (FR.mo f1 rfl), a2.tr (FR.mo f2 rfl), F⟩
theorem Acc.pbad {tp : Nat → Int} {L T : Nat} {E : (Nat → Int) → Nat → Nat → Prop} {k0 s0 k s : Nat} {X0 M0 gX gM rX : AG} {rM : Int × AG} (A : Acc tp L T E k0 s0 X0 M0 k s gX gM) (B : PBad tp L T gX gM rX rM) : PBad tp L T X0 M0 rX rM := ⟨B.1, A.1.tr B.2.1, A.2.1.tr B.2.2.1, B.2.2.2⟩
/-- the first part, the second behind it -/
theorem Acc.join {tp : Nat → Int} {L T : Nat} {E1 E2 E3 : (Nat → Int) → Nat → Nat → Prop} {k0 s0 k s k' s' : Nat} {X0 M0 gX gM gX' gM' : AG} (A : Acc tp L T E1 k0 s0 X0 M0 k s gX gM) (B : Acc tp L T E2 k s gX gM k' s' gX' gM') (st : Stb E1) (h : E1 (gM' 141) s0 s → E2 (gM' 141) s s' → E3 (gM' 141) s0 s') : Acc tp L T E3 k0 s0 X0 M0 k' s' gX' gM' := by
  obtain ⟨a1, a2, a3, a4, a5, a6, a7, a8, a9⟩ := A
  obtain ⟨b1, b2, b3, b4, b5, b6, b7, b8, b9⟩ := B
  exact ⟨a1.tr b1, a2.tr b2, b3.trans a3, fun j hj => (b4 j (by omega)).trans (a4 j hj), b5, by omega, by omega, by omega, h (st _ _ _ _ a7 (fun j hj => b4 j hj) a9) b9⟩
/-- the first part, the second behind it, and a step for both -/
theorem Acc.op {tp : Nat → Int} {L T : Nat} {E1 E2 E3 : (Nat → Int) → Nat → Nat → Prop} {k0 s0 k s k' s' : Nat} {X0 M0 gX gM gX' gM' : AG} (A : Acc tp L T E1 k0 s0 X0 M0 k s gX gM) (B : Acc tp L T E2 k s gX gM k' s' gX' gM') (st : Stb E1) (st2 : Stb E2) {c v w x : Int} (ho : opR c v w x) (hv : I32 v) (h0 : s0 ≤ k0) (hx : s + 1 + k0 ≤ s0 + k) (h : ∀ cd : Nat → Int, E1 cd s0 s → E2 cd s s' → cd (2 * s') = c → E3 cd s0 (s' + 1)) (hT : T ≤ 500) : Rules_put w x gX' = some (0, putX gX' s' w x) ∧ M_lay c v gM' = some (0, layM gM' s' c v) ∧ Acc tp L T E3 k0 s0 X0 M0 k' (s' + 1) (putX gX' s' w x) (layM gM' s' c v) := by
  obtain ⟨a1, a2, a3, a4, a5, a6, a7, a8, a9⟩ := A
  obtain ⟨b1, b2, b3, b4, b5, b6, b7, b8, b9⟩ := B
  have hk : k' ≤ T := b5.2.2.2.2.2.2.2.2.1
  have h3 := b5.2.2.2.1
  have h8 := b5.2.2.2.2.2.2.2.1
  have lo : ∀ j, j < 2 * s' → layM gM' s' c v 141 j = gM' 141 j := fun j hj => layM_lo hj
  refine ⟨put_s h3 (by omega), lay_s h8 (by omega), (a1.tr b1).tr (FR.mo putX_fr rfl), (a2.tr b2).tr (FR.mo layM_fr rfl), ?_, fun j hj => ?_, b5.lay (by omega) ho hv, by omega, by omega, by omega, ?_⟩
  · rw [layM_fr (g := gM') 117 45 rfl]; exact b3.trans a3
  · rw [lo j (by omega), b4 j (by omega)]; exact a4 j hj
  · exact h _ (st _ _ _ _ a7 (fun j hj => by rw [lo j (by omega)]; exact b4 j hj) a9) (st2 _ _ _ _ b7 (fun j hj => lo j hj) b9) (layM_at).1
/-- one step behind what stands -/
theorem Acc.op1 {tp : Nat → Int} {L T : Nat} {E1 E3 : (Nat → Int) → Nat → Nat → Prop} {k0 s0 k s : Nat} {X0 M0 gX gM : AG} (A : Acc tp L T E1 k0 s0 X0 M0 k s gX gM) (st : Stb E1) {c v w x : Int} (ho : opR c v w x) (hv : I32 v) (h0 : s0 ≤ k0) (hx : s + 1 + k0 ≤ s0 + k) (h : ∀ cd : Nat → Int, E1 cd s0 s → cd (2 * s) = c → E3 cd s0 (s + 1)) (hT : T ≤ 500) : Rules_put w x gX = some (0, putX gX s w x) ∧ M_lay c v gM = some (0, layM gM s c v) ∧ Acc tp L T E3 k0 s0 X0 M0 k (s + 1) (putX gX s w x) (layM gM s c v) :=
  Acc.op (E2 := EvT) A (Acc.start A.2.2.2.2.1 trivial) st stbT ho hv h0 hx (fun cd a _ b => h cd a b) hT
theorem op_num {v : Int} (h : 0 ≤ v) (h2 : v ≤ 9999) : opR 0 v 2 v := Or.inl ⟨rfl, rfl, rfl, h, h2⟩
theorem op_nam {s v : Int} (h : 1 ≤ s) (h2 : s ≤ 9) : opR s v 3 (s - 1) := Or.inr (Or.inl ⟨h, h2, rfl, rfl⟩)
theorem op_add {v c : Int} : opR 10 v 43 c := by unfold opR; omega
theorem op_less {v c : Int} : opR 11 v 45 c := by unfold opR; omega
theorem op_times {v c : Int} : opR 12 v 42 c := by unfold opR; omega
theorem op_part {v : Int} (h : 1 ≤ v) (h2 : v ≤ 9999) : opR 13 v 47 v := by unfold opR; omega
theorem op_bel {v c : Int} : opR 14 v 60 c := by unfold opR; omega
theorem op_same {v c : Int} : opR 15 v 61 c := by unfold opR; omega
theorem op_abo {v c : Int} : opR 16 v 62 c := by unfold opR; omega
theorem op_not {v c : Int} : opR 17 v 110 c := by unfold opR; omega
theorem op_and {v c : Int} : opR 18 v 109 c := by unfold opR; omega
theorem op_or {v c : Int} : opR 19 v 108 c := by unfold opR; omega
theorem i32_0 : I32 0 := by unfold I32; omega
theorem unit_rel {tp : Nat → Int} {L T : Nat} (O : TkOk tp L T) {k s : Nat} {gX gM : AG} (R : PRel tp L T k s gX gM) (hs : s ≤ k) : ∃ rX rM, Parser_readUnit gX = some (0, rX) ∧ M_unit gM = some rM ∧ ((rM.1 = 1 ∧ ∃ k' s', Acc tp L T (EvN 1) k s gX gM k' s' rX rM.2) ∨ PBad tp L T gX gM rX rM) := by
  obtain ⟨x, m, v, tk, hx, hm, nx, nm, hv, z1, z2, pl⟩ := R.see O
  have hT := O.T500
  have a2 := R.2.1
  have a3 := R.2.2.1
  have a4 := R.2.2.2.1
  have a7 := R.2.2.2.2.2.2.1
  have a8 := R.2.2.2.2.2.2.2.1
  have a9 := R.2.2.2.2.2.2.2.2.1
  have rg := tk_rng tk
  have kT : x ≠ 0 → k < T := fun h => Nat.lt_of_le_of_ne a9 (fun y => h (z2 y))
  have iv : I32 (gM 117 41) := by unfold I32; ((try clear nk); (try clear ik); (try clear headX); (try clear headM); (try clear wM); (try clear wX); (try clear both); omega)
  have nk : nw (k : Int) = k := nwN k (by ((try clear nk); (try clear ik); (try clear headX); (try clear headM); (try clear wM); (try clear wX); (try clear both); omega))
  have ik : ix (k : Int) = k := ixN k (by ((try clear nk); (try clear ik); (try clear headX); (try clear headM); (try clear wM); (try clear wX); (try clear both); omega))
  have headX : Parser_readUnit gX = (if x < 1000 then (if nw (X_within x 111 119) = 0 then (Parser_fail 1 gX >>= fun r5 => some (0, r5.2)) else (Rules_put 3 (x - 111) gX >>= fun r7 => Parser_readUnit_b r7.2)) else (Rules_put 2 (x - 1000) gX >>= fun r9 => Parser_readUnit_b r9.2)) := by
    unfold Parser_readUnit
    rw [a3, nw_0, if_pos rfl, a2, nk, ik, if_pos (by ((try clear nk); (try clear ik); (try clear headX); (try clear headM); (try clear wM); (try clear wX); (try clear both); omega)), hx, nx]
  have headM : M_unit gM = (if m = 2 then M_unit_b (M_isIn m 41 49) gM else if nw (M_isIn m 41 49) = 0 then (M_bad 1 gM >>= fun r3 => if r3.1 = 0 ∨ r3.1 = 1 then some (r3.1, r3.2) else none) else M_unit_b (M_isIn m 41 49) gM) := by
    unfold M_unit
    rw [hm, nm]
  have wM : (nw (M_isIn m 41 49) = 0) = (m < 41 ∨ 49 < m) := isIn0 (by ((try clear nk); (try clear ik); (try clear headX); (try clear headM); (try clear wM); (try clear wX); (try clear both); omega)) (by ((try clear nk); (try clear ik); (try clear headX); (try clear headM); (try clear wM); (try clear wX); (try clear both); omega)) (by decide) (by decide) (by decide) (by decide)
  have wX : (nw (X_within x 111 119) = 0) = (x < 111 ∨ 119 < x) := within0 (by ((try clear nk); (try clear ik); (try clear headX); (try clear headM); (try clear wM); (try clear wX); (try clear both); omega)) (by ((try clear nk); (try clear ik); (try clear headX); (try clear headM); (try clear wM); (try clear wX); (try clear both); omega)) (by decide) (by decide) (by decide) (by decide)
  -- a step is laid, then a token on
  have both : ∀ c w y : Int, k < T → opR c (gM 117 41) w y → 0 ≤ c ∧ c < 10 → (some (if nw (M_isIn m 41 49) = 0 then 0 else m - 40) : Option Int) = some c → ∃ rX rM, (Rules_put w y gX >>= fun r9 => Parser_readUnit_b r9.2) = some (0, rX) ∧ M_unit_b (M_isIn m 41 49) gM = some rM ∧ ((rM.1 = 1 ∧ ∃ k' s', Acc tp L T (EvN 1) k s gX gM k' s' rX rM.2) ∨ PBad tp L T gX gM rX rM) := by
    intro c w y hk ho hc ec
    have R1 := R.lay (s := s) (by ((try clear nk); (try clear ik); (try clear headX); (try clear headM); (try clear wM); (try clear wX); (try clear both); omega)) ho iv
    obtain ⟨gM', e1, e2, R2, f2⟩ := R1.nx O hk
    have c141 : gM' 141 = layM gM s c (gM 117 41) 141 := f2.cell (fun _ => rfl)
    refine ⟨up (putX gX s w y) 4 6 ((k : Int) + 1), (1, gM'), ?_, ?_, Or.inl ⟨rfl, k + 1, s + 1, Fr.up (FR.mo putX_fr rfl) rfl, (FR.mo layM_fr rfl).tr (FR.mo f2 rfl), ?_, fun j hj => ?_, R2, by ((try clear nk); (try clear ik); (try clear headX); (try clear headM); (try clear wM); (try clear wX); (try clear both); omega), by ((try clear nk); (try clear ik); (try clear headX); (try clear headM); (try clear wM); (try clear wX); (try clear both); omega), by ((try clear nk); (try clear ik); (try clear headX); (try clear headM); (try clear wM); (try clear wX); (try clear both); omega), ?_⟩⟩
    · rw [put_s a4 (by ((try clear nk); (try clear ik); (try clear headX); (try clear headM); (try clear wM); (try clear wX); (try clear both); omega)), sb]
      unfold Parser_readUnit_b
      rw [e1, sb]
    · unfold M_unit_b
      rw [hm, ec, sb, lay_s a8 (by ((try clear nk); (try clear ik); (try clear headX); (try clear headM); (try clear wM); (try clear wX); (try clear both); omega)), sb, e2, sb]
    · dsimp only
      rw [f2 117 45 rfl, layM_fr (g := gM) 117 45 rfl]
    · dsimp only
      rw [c141]; exact layM_lo hj
    · dsimp only
      rw [c141]
      exact EvN.put (by rw [(layM_at).1]; exact hc)
  by_cases c1 : 1000 ≤ x
  · have m2 := (tk_num tk).mp c1
    have vv := tk_val tk m2
    obtain ⟨rX, rM, e1, e2, r⟩ := both 0 2 (x - 1000) (kT (by ((try clear nk); (try clear ik); (try clear headX); (try clear headM); (try clear wM); (try clear wX); (try clear both); omega))) (by rw [hv m2, vv.1]; exact op_num (by ((try clear nk); (try clear ik); (try clear headX); (try clear headM); (try clear wM); (try clear wX); (try clear both); omega)) (by ((try clear nk); (try clear ik); (try clear headX); (try clear headM); (try clear wM); (try clear wX); (try clear both); omega))) (by ((try clear nk); (try clear ik); (try clear headX); (try clear headM); (try clear wM); (try clear wX); (try clear both); omega)) (by rw [if_pos (by rw [wM]; ((try clear nk); (try clear ik); (try clear headX); (try clear headM); (try clear wM); (try clear wX); (try clear both); omega))])
    refine ⟨rX, rM, ?_, ?_, r⟩
    · rw [headX, if_neg (by ((try clear nk); (try clear ik); (try clear headX); (try clear headM); (try clear wM); (try clear wX); (try clear both); omega))]; exact e1
    · rw [headM, if_pos m2]; exact e2
  · have m2 : m ≠ 2 := fun q => c1 ((tk_num tk).mpr q)
    by_cases c2 : 111 ≤ x ∧ x ≤ 119
    · have mn := (tk_nam tk).mp c2
      have mv := tk_nam2 tk mn
      obtain ⟨rX, rM, e1, e2, r⟩ := both (m - 40) 3 (x - 111) (kT (by ((try clear nk); (try clear ik); (try clear headX); (try clear headM); (try clear wM); (try clear wX); (try clear both); omega))) (by rw [show x - 111 = m - 40 - 1 by ((try clear nk); (try clear ik); (try clear headX); (try clear headM); (try clear wM); (try clear wX); (try clear both); omega)]; exact op_nam (by ((try clear nk); (try clear ik); (try clear headX); (try clear headM); (try clear wM); (try clear wX); (try clear both); omega)) (by ((try clear nk); (try clear ik); (try clear headX); (try clear headM); (try clear wM); (try clear wX); (try clear both); omega))) (by ((try clear nk); (try clear ik); (try clear headX); (try clear headM); (try clear wM); (try clear wX); (try clear both); omega)) (by rw [if_neg (by rw [wM]; ((try clear nk); (try clear ik); (try clear headX); (try clear headM); (try clear wM); (try clear wX); (try clear both); omega))])
      refine ⟨rX, rM, ?_, ?_, r⟩
      · rw [headX, if_pos (by ((try clear nk); (try clear ik); (try clear headX); (try clear headM); (try clear wM); (try clear wX); (try clear both); omega)), if_neg (by rw [wX]; ((try clear nk); (try clear ik); (try clear headX); (try clear headM); (try clear wM); (try clear wX); (try clear both); omega))]; exact e1
      · rw [headM, if_neg m2, if_neg (by rw [wM]; ((try clear nk); (try clear ik); (try clear headX); (try clear headM); (try clear wM); (try clear wX); (try clear both); omega))]; exact e2
    · have mn : ¬ (41 ≤ m ∧ m ≤ 49) := fun q => c2 ((tk_nam tk).mpr q)
      obtain ⟨e1, e2, B⟩ := (Acc.start (E := EvT) R trivial).bad O (w := 1) (by ((try clear nk); (try clear ik); (try clear headX); (try clear headM); (try clear wM); (try clear wX); (try clear both); omega)) (by ((try clear nk); (try clear ik); (try clear headX); (try clear headM); (try clear wM); (try clear wX); (try clear both); omega))
      refine ⟨_, _, ?_, ?_, Or.inr B⟩
      · rw [headX, if_pos (by ((try clear nk); (try clear ik); (try clear headX); (try clear headM); (try clear wM); (try clear wX); (try clear both); omega)), if_pos (by rw [wX]; ((try clear nk); (try clear ik); (try clear headX); (try clear headM); (try clear wM); (try clear wX); (try clear both); omega)), e1, sb]
      · rw [headM, if_neg m2, if_pos (by rw [wM]; ((try clear nk); (try clear ik); (try clear headX); (try clear headM); (try clear wM); (try clear wX); (try clear both); omega)), e2, sb, if_pos (Or.inl rfl)]
theorem part_rel {tp : Nat → Int} {L T : Nat} (O : TkOk tp L T) {k0 s0 k s : Nat} {X0 M0 gX gM : AG} (A : Acc tp L T (EvN 2) k0 s0 X0 M0 k s gX gM) (h0 : s0 ≤ k0) (hx : s + 1 + k0 ≤ s0 + k) : ∃ rX rM, Parser_readPart gX = some (0, rX) ∧ (M_number 1 9999 gM >>= fun r11 => if nw r11.1 = 0 then some ((0 : Int), r11.2) else (M_lay 13 (gM 117 41) r11.2 >>= fun r14 => some ((1 : Int), r14.2))) = some rM ∧ ((rM.1 = 1 ∧ ∃ k' s', k < k' ∧ Acc tp L T (EvN 2) k0 s0 X0 M0 k' s' rX rM.2) ∨ PBad tp L T X0 M0 rX rM) := by
  have R := A.2.2.2.2.1
  obtain ⟨x, m, v, tk, hxx, hm, nx, nm, hv, z1, z2, pl⟩ := R.see O
  have hT := O.T500
  have a2 := R.2.1
  have a3 := R.2.2.1
  have a9 := R.2.2.2.2.2.2.2.2.1
  have a7 := R.2.2.2.2.2.2.1
  have rg := tk_rng tk
  have kT : x ≠ 0 → k < T := fun h => Nat.lt_of_le_of_ne a9 (fun y => h (z2 y))
  have iv : I32 (gM 117 41) := by unfold I32; ((try clear nk); (try clear ik); (try clear nx1); (try clear headM); (try clear wM); omega)
  have nk : nw (k : Int) = k := nwN k (by ((try clear nk); (try clear ik); (try clear nx1); (try clear headM); (try clear wM); omega))
  have ik : ix (k : Int) = k := ixN k (by ((try clear nk); (try clear ik); (try clear nx1); (try clear headM); (try clear wM); omega))
  have nx1 : nw (x - 1000) = x - 1000 := nw_id (by ((try clear nk); (try clear ik); (try clear nx1); (try clear headM); (try clear wM); omega)) (by ((try clear nk); (try clear ik); (try clear nx1); (try clear headM); (try clear wM); omega))
  have headX : Parser_readPart gX = ((((if 0 ≤ x - 1000 then (if x - 1000 = 0 then (Parser_fail 2 gX >>= fun r8 => some r8.2) else (Rules_put 47 (x - 1000) gX >>= fun r4 => (Parser_goOn r4.2 >>= fun r6 => some r6.2))) else (Parser_fail 1 gX >>= fun r10 => some r10.2)) : Option AG)) >>= fun r12 => some (0, r12)) := by
    unfold Parser_readPart
    rw [a2, nk, ik, if_pos (by ((try clear nk); (try clear ik); (try clear nx1); (try clear headM); (try clear wM); omega)), hxx, nx1]
  have headM : M_number 1 9999 gM = (if m = 2 then (if nw (M_isIn (gM 117 41) 1 9999) = 0 then (M_bad 2 gM >>= fun r5 => if r5.1 = 0 ∨ r5.1 = 1 then some (r5.1, r5.2) else none) else (M_next0 gM >>= fun r3 => some (1, r3.2))) else (M_bad 1 gM >>= fun r8 => if r8.1 = 0 ∨ r8.1 = 1 then some (r8.1, r8.2) else none)) := by
    unfold M_number
    rw [hm, nm]
  have wM : (nw (M_isIn (gM 117 41) 1 9999) = 0) = (gM 117 41 < 1 ∨ 9999 < gM 117 41) := isIn0 (by ((try clear nk); (try clear ik); (try clear nx1); (try clear headM); (try clear wM); omega)) (by ((try clear nk); (try clear ik); (try clear nx1); (try clear headM); (try clear wM); omega)) (by decide) (by decide) (by decide) (by decide)
  by_cases c1 : 1000 ≤ x
  · have m2 := (tk_num tk).mp c1
    have vv := tk_val tk m2
    have hv2 := hv m2
    by_cases c2 : x - 1000 = 0
    · obtain ⟨e1, e2, B⟩ := A.bad O (w := 2) (by ((try clear nk); (try clear ik); (try clear nx1); (try clear headM); (try clear wM); omega)) (by ((try clear nk); (try clear ik); (try clear nx1); (try clear headM); (try clear wM); omega))
      refine ⟨_, _, ?_, ?_, Or.inr B⟩
      · rw [headX, if_pos (by ((try clear nk); (try clear ik); (try clear nx1); (try clear headM); (try clear wM); omega)), if_pos c2, e1, sb, sb]
      · rw [headM, if_pos m2, if_pos (by rw [wM]; ((try clear nk); (try clear ik); (try clear nx1); (try clear headM); (try clear wM); omega)), e2, sb, if_pos (Or.inl rfl), sb, nw_0, if_pos rfl]
    · have hk : k < T := kT (by ((try clear nk); (try clear ik); (try clear nx1); (try clear headM); (try clear wM); omega))
      have ho : opR 13 (gM 117 41) 47 (x - 1000) := by rw [hv2, vv.1]; exact op_part (by ((try clear nk); (try clear ik); (try clear nx1); (try clear headM); (try clear wM); omega)) (by ((try clear nk); (try clear ik); (try clear nx1); (try clear headM); (try clear wM); omega))
      obtain ⟨gM', e1, e2, A1, f1⟩ := A.nx O hk
      obtain ⟨p1, p2, A2⟩ := A1.op1 (E3 := EvN 2) (stbN 2) (c := 13) (v := gM 117 41) (w := 47) (x := x - 1000) ho iv h0 (by ((try clear nk); (try clear ik); (try clear nx1); (try clear headM); (try clear wM); omega)) (fun cd a b => EvN.part (by ((try clear nk); (try clear ik); (try clear nx1); (try clear headM); (try clear wM); omega)) a A.2.2.2.2.2.2.1 b) hT
      have a4 := R.2.2.2.1
      have s5 : s < 500 := by have := A.le h0; ((try clear nk); (try clear ik); (try clear nx1); (try clear headM); (try clear wM); omega)
      have g5 : (putX gX s 47 (x - 1000)) 4 5 = T + 1 := by rw [putX_fr (g := gX) 4 5 rfl]; exact R.1.1
      have g6 : (putX gX s 47 (x - 1000)) 4 6 = k := by rw [putX_fr (g := gX) 4 6 rfl]; exact a2
      refine ⟨_, (1, layM gM' s 13 (gM 117 41)), ?_, ?_, Or.inl ⟨rfl, k + 1, s + 1, by ((try clear nk); (try clear ik); (try clear nx1); (try clear headM); (try clear wM); omega), A2⟩⟩
      · rw [headX, if_pos (by ((try clear nk); (try clear ik); (try clear nx1); (try clear headM); (try clear wM); omega)), if_neg c2, put_s a4 s5, sb, goOn_s g5 g6 hk hT, sb, sb, put_goOn]
      · rw [headM, if_pos m2, if_neg (by rw [wM]; ((try clear nk); (try clear ik); (try clear nx1); (try clear headM); (try clear wM); omega)), e2, sb, sb, nw_1, if_neg (by decide), p2, sb]
  · have m2 : m ≠ 2 := fun q => c1 ((tk_num tk).mpr q)
    obtain ⟨e1, e2, B⟩ := A.bad O (w := 1) (by ((try clear nk); (try clear ik); (try clear nx1); (try clear headM); (try clear wM); omega)) (by ((try clear nk); (try clear ik); (try clear nx1); (try clear headM); (try clear wM); omega))
    refine ⟨_, _, ?_, ?_, Or.inr B⟩
    · rw [headX, if_neg (by ((try clear nk); (try clear ik); (try clear nx1); (try clear headM); (try clear wM); omega)), e1, sb, sb]
    · rw [headM, if_neg m2, e2, sb, if_pos (Or.inl rfl), sb, nw_0, if_pos rfl]
