/-! plain programs: numbers, hours, the end of a line -/
abbrev RDX : Reg := [(4, 6), (42, 0), (43, 0), (4, 7), (4, 8), (4, 9), (3, 3), (29, 0), (30, 0)]
abbrev RDM : Reg := [(117, 38), (146, 0), (117, 39), (117, 40), (117, 41), (117, 42), (117, 43), (117, 37), (141, 0)]
theorem PRel.frx {W : Reg} {tp : Nat → Int} {L T k s : Nat} {gX gM gX' : AG} (R : PRel tp L T k s gX gM) (f : FR W gX gX') (d : djR RDX W = true) : PRel tp L T k s gX' gM := by
  obtain ⟨a1, a2, a3, a4, a5, a6, a7, a8, a9, a10, a11, a12⟩ := R
  have c := f.cg d
  refine ⟨⟨by rw [c 4 5 rfl]; exact a1.1, fun j hj => by rw [c 42 j rfl, c 43 j rfl]; exact a1.2 j hj⟩, by rw [c 4 6 rfl]; exact a2, by rw [c 4 7 rfl]; exact a3, by rw [c 3 2 rfl]; exact a4, a5, a6, a7, a8, a9, a10, fun j hj => ?_, a12.1, by rw [c 4 8 rfl]; exact a12.2.1, a12.2.2⟩
  rw [c 29 j rfl, c 30 j rfl]
  exact a11 j hj
theorem PRel.frm {W : Reg} {tp : Nat → Int} {L T k s : Nat} {gX gM gM' : AG} (R : PRel tp L T k s gX gM) (f : FR W gM gM') (d : djR RDM W = true) : PRel tp L T k s gX gM' := by
  obtain ⟨a1, a2, a3, a4, a5, a6, a7, a8, a9, a10, a11, a12⟩ := R
  have c := f.cg d
  refine ⟨a1, a2, a3, a4, ⟨by rw [c 117 37 rfl]; exact a5.1, fun j hj => by rw [c 146 j rfl]; exact a5.2 j hj⟩, ⟨by rw [c 117 40 rfl]; exact a6.1, by rw [c 117 38 rfl]; exact a6.2.1, by rw [c 117 39 rfl]; exact a6.2.2.1, by rw [c 117 41 rfl]; exact a6.2.2.2⟩, by rw [c 117 41 rfl]; exact a7, by rw [c 117 36 rfl]; exact a8, a9, a10, fun j hj => ?_, fun j hj => ?_, a12.2.1, by rw [c 117 42 rfl]; exact a12.2.2⟩
  · rw [c 141 (2 * j) rfl, c 141 (2 * j + 1) rfl]; exact a11 j hj
  · rw [c 141 j rfl]; exact a12.1 j hj
theorem num_rel {tp : Nat → Int} {L T : Nat} (O : TkOk tp L T) {E : (Nat → Int) → Nat → Nat → Prop} {k0 s0 k s : Nat} {X0 M0 gX gM : AG} (A : Acc tp L T E k0 s0 X0 M0 k s gX gM) {c : Int} (hc : 0 ≤ c) (hc2 : c ≤ 99) : ∃ y rX rM, Parser_numberUpTo c gX = some (y, rX) ∧ M_number 0 c gM = some rM ∧ ((rM.1 = 1 ∧ y = gM 117 41 ∧ 0 ≤ y ∧ y ≤ c ∧ Acc tp L T E k0 s0 X0 M0 (k + 1) s rX rM.2 ∧ rM.2 117 36 = s) ∨ PBad tp L T X0 M0 rX rM) := by
  have R := A.2.2.2.2.1
  obtain ⟨x, m, v, tk, hxx, hm, nx, nm, hv, z1, z2, pl⟩ := R.see O
  have hT := O.T500
  have a2 := R.2.1
  have a3 := R.2.2.1
  have a9 := R.2.2.2.2.2.2.2.2.1
  have a7 := R.2.2.2.2.2.2.1
  have rg := tk_rng tk
  have kT : x ≠ 0 → k < T := fun h => Nat.lt_of_le_of_ne a9 (fun y => h (z2 y))
  have nk : nw (k : Int) = k := nwN k (by ((try clear nk); (try clear ik); (try clear nx1); (try clear nc); (try clear headX); (try clear wM); (try clear headM); (try clear n47); omega))
  have ik : ix (k : Int) = k := ixN k (by ((try clear nk); (try clear ik); (try clear nx1); (try clear nc); (try clear headX); (try clear wM); (try clear headM); (try clear n47); omega))
  have nx1 : nw (x - 1000) = x - 1000 := nw_id (by ((try clear nk); (try clear ik); (try clear nx1); (try clear nc); (try clear headX); (try clear wM); (try clear headM); (try clear n47); omega)) (by ((try clear nk); (try clear ik); (try clear nx1); (try clear nc); (try clear headX); (try clear wM); (try clear headM); (try clear n47); omega))
  have nc : nw c = c := nw_id (by ((try clear nk); (try clear ik); (try clear nx1); (try clear nc); (try clear headX); (try clear wM); (try clear headM); (try clear n47); omega)) (by ((try clear nk); (try clear ik); (try clear nx1); (try clear nc); (try clear headX); (try clear wM); (try clear headM); (try clear n47); omega))
  have headX : Parser_numberUpTo c gX = ((((if 0 ≤ x - 1000 then (if x - 1000 ≤ c then some gX else (Parser_fail 2 gX >>= fun r4 => some r4.2)) else (Parser_fail 1 gX >>= fun r6 => some r6.2)) : Option AG)) >>= fun r8 => (if nw (r8 4 7) = 0 then (Parser_goOn r8 >>= fun r11 => some (x - 1000, r11.2)) else some (0, r8))) := by
    unfold Parser_numberUpTo
    rw [a2, nk, ik, if_pos (by ((try clear nk); (try clear ik); (try clear nx1); (try clear nc); (try clear headX); (try clear wM); (try clear headM); (try clear n47); omega)), hxx, nx1, nc]
  have wM : (nw (M_isIn (gM 117 41) 0 c) = 0) = (gM 117 41 < 0 ∨ c < gM 117 41) := isIn0 (by ((try clear nk); (try clear ik); (try clear nx1); (try clear nc); (try clear headX); (try clear wM); (try clear headM); (try clear n47); omega)) (by ((try clear nk); (try clear ik); (try clear nx1); (try clear nc); (try clear headX); (try clear wM); (try clear headM); (try clear n47); omega)) (by decide) (by decide) (by ((try clear nk); (try clear ik); (try clear nx1); (try clear nc); (try clear headX); (try clear wM); (try clear headM); (try clear n47); omega)) (by ((try clear nk); (try clear ik); (try clear nx1); (try clear nc); (try clear headX); (try clear wM); (try clear headM); (try clear n47); omega))
  have headM : M_number 0 c gM = (if m = 2 then (if nw (M_isIn (gM 117 41) 0 c) = 0 then (M_bad 2 gM >>= fun r5 => if r5.1 = 0 ∨ r5.1 = 1 then some (r5.1, r5.2) else none) else (M_next0 gM >>= fun r3 => some (1, r3.2))) else (M_bad 1 gM >>= fun r8 => if r8.1 = 0 ∨ r8.1 = 1 then some (r8.1, r8.2) else none)) := by
    unfold M_number
    rw [hm, nm]
  have n47 : nw (gX 4 7) = 0 := by rw [a3, nw_0]
  by_cases c1 : 1000 ≤ x
  · have m2 := (tk_num tk).mp c1
    have vv := tk_val tk m2
    have hv2 := hv m2
    by_cases c2 : x - 1000 ≤ c
    · obtain ⟨gM', e1, e2, A1, f1⟩ := A.nx O (kT (by ((try clear nk); (try clear ik); (try clear nx1); (try clear nc); (try clear headX); (try clear wM); (try clear headM); (try clear n47); omega)))
      refine ⟨x - 1000, _, (1, gM'), ?_, ?_, Or.inl ⟨rfl, by ((try clear nk); (try clear ik); (try clear nx1); (try clear nc); (try clear headX); (try clear wM); (try clear headM); (try clear n47); omega), by ((try clear nk); (try clear ik); (try clear nx1); (try clear nc); (try clear headX); (try clear wM); (try clear headM); (try clear n47); omega), c2, A1, A1.2.2.2.2.1.2.2.2.2.2.2.2.1⟩⟩
      · rw [headX, if_pos (by ((try clear nk); (try clear ik); (try clear nx1); (try clear nc); (try clear headX); (try clear wM); (try clear headM); (try clear n47); omega)), if_pos c2, sb, if_pos n47, e1, sb]
      · rw [headM, if_pos m2, if_neg (by rw [wM]; ((try clear nk); (try clear ik); (try clear nx1); (try clear nc); (try clear headX); (try clear wM); (try clear headM); (try clear n47); omega)), e2, sb]
    · obtain ⟨e1, e2, B⟩ := A.bad O (w := 2) (by ((try clear nk); (try clear ik); (try clear nx1); (try clear nc); (try clear headX); (try clear wM); (try clear headM); (try clear n47); omega)) (by ((try clear nk); (try clear ik); (try clear nx1); (try clear nc); (try clear headX); (try clear wM); (try clear headM); (try clear n47); omega))
      obtain ⟨w, p, F, ext⟩ := B.x
      refine ⟨0, _, _, ?_, ?_, Or.inr B⟩
      · rw [headX, if_pos (by ((try clear nk); (try clear ik); (try clear nx1); (try clear nc); (try clear headX); (try clear wM); (try clear headM); (try clear n47); omega)), if_neg c2, e1, sb, sb, if_neg F.nw7]
      · rw [headM, if_pos m2, if_pos (by rw [wM]; ((try clear nk); (try clear ik); (try clear nx1); (try clear nc); (try clear headX); (try clear wM); (try clear headM); (try clear n47); omega)), e2, sb, if_pos (Or.inl rfl)]
  · have m2 : m ≠ 2 := fun q => c1 ((tk_num tk).mpr q)
    obtain ⟨e1, e2, B⟩ := A.bad O (w := 1) (by ((try clear nk); (try clear ik); (try clear nx1); (try clear nc); (try clear headX); (try clear wM); (try clear headM); (try clear n47); omega)) (by ((try clear nk); (try clear ik); (try clear nx1); (try clear nc); (try clear headX); (try clear wM); (try clear headM); (try clear n47); omega))
    obtain ⟨w, p, F, ext⟩ := B.x
    refine ⟨0, _, _, ?_, ?_, Or.inr B⟩
    · rw [headX, if_neg (by ((try clear nk); (try clear ik); (try clear nx1); (try clear nc); (try clear headX); (try clear wM); (try clear headM); (try clear n47); omega)), e1, sb, sb, if_neg F.nw7]
    · rw [headM, if_neg m2, e2, sb, if_pos (Or.inl rfl)]
/-- the class, behind what a line says: its condition, its end -/
def tlX (x : Int) (n : Nat) (r25 : AG) : Option (Int × AG) :=
  (some (up r25 33 n (r25 3 2)) >>= fun (g27 : AG) => (((if x = 101 then some g27 else (Parser_is 107 g27 >>= fun (r30 : Int) => (if nw r30 = 0 then some g27 else (Parser_goOn g27 >>= fun (r33 : Int × AG) => (Parser_readEither 12 0 r33.2 >>= fun (r35 : Int × AG) => some r35.2))))) : Option AG)) >>= fun (r37 : AG) => (some (up r37 34 n (r37 3 2)) >>= fun (g39 : AG) => (Parser_demand 59 g39 >>= fun (r41 : Int × AG) => (some (up r41.2 3 3 (r41.2 3 3 + 1)) >>= fun (g43 : AG) => some (0, g43)))))
abbrev RTX : Reg := [(33, 0), (34, 0), (3, 4)]
theorem xf_tl {tp : Nat → Int} {L T : Nat} {w p : Int} {g : AG} (F : XF tp L T w p g) (x : Int) (n : Nat) : ∃ g', tlX x n g = some (0, g') ∧ XF tp L T w p g' ∧ FR RTX g g' := by
  obtain ⟨s, s1, s2⟩ := F.2.2.2.2.1
  have f1 : FR RTX g (up g 33 n (g 3 2)) := Fr.up Fr.rf rfl
  have F1 : XF tp L T w p (up g 33 n (g 3 2)) := F.fr f1 rfl ⟨s, s1, by rw [f1 3 2 rfl]; exact s2⟩
  obtain ⟨g2, hg2⟩ : ∃ g2 : AG, g2 = up g 33 n (g 3 2) := ⟨_, rfl⟩
  rw [← hg2] at F1 f1
  have f2 : FR RTX g (up g2 34 n (g2 3 2)) := Fr.up f1 rfl
  have f2' : FR RTX g2 (up g2 34 n (g2 3 2)) := Fr.up Fr.rf rfl
  have F2 : XF tp L T w p (up g2 34 n (g2 3 2)) := F1.fr f2' rfl ⟨s, s1, by rw [f2 3 2 rfl]; exact s2⟩
  obtain ⟨g3, hg3⟩ : ∃ g3 : AG, g3 = up g2 34 n (g2 3 2) := ⟨_, rfl⟩
  rw [← hg3] at F2 f2
  have f3 : FR RTX g (up g3 3 3 (g3 3 3 + 1)) := Fr.up f2 rfl
  have f3' : FR RTX g3 (up g3 3 3 (g3 3 3 + 1)) := Fr.up Fr.rf rfl
  refine ⟨up g3 3 3 (g3 3 3 + 1), ?_, F2.fr f3' rfl ⟨s, s1, by rw [f3 3 2 rfl]; exact s2⟩, f3⟩
  have mid : (((if x = 101 then some g2 else (Parser_is 107 g2 >>= fun (r30 : Int) => (if nw r30 = 0 then some g2 else (Parser_goOn g2 >>= fun (r33 : Int × AG) => (Parser_readEither 12 0 r33.2 >>= fun (r35 : Int × AG) => some r35.2))))) : Option AG)) = some g2 := by
    by_cases c : x = 101
    · rw [if_pos c]
    · rw [if_neg c, xf_is F1, sb, nw_0, if_pos rfl]
  unfold tlX
  rw [sb, ← hg2, mid, sb, sb, ← hg3, xf_demand F2, sb, sb]
abbrev RWX : Reg := [(4, 7), (4, 8), (4, 9), (3, 3), (29, 0), (30, 0), (33, 0), (34, 0), (3, 4)]
abbrev RWM : Reg := [(117, 39), (117, 40), (117, 41), (117, 42), (117, 43), (117, 44), (117, 37), (117, 46), (141, 0), (139, 0), (140, 0)]
/-- behind the value of a line: when B ; or ; -/
theorem when_rel {tp : Nat → Int} {L T : Nat} (O : TkOk tp L T) {k s n : Nat} {gX gM : AG} (R : PRel tp L T k s gX gM) (hs : s ≤ k) (h45 : gM 117 45 = 0) (hn : n < 16) (h33 : gX 3 3 = n) {x : Int} (hx : x ≠ 101) : ∃ rX rM, tlX x n gX = some (0, rX) ∧ M_aLine_b n 1 gM = some rM ∧
    ((rM.1 = 1 ∧ ∃ k' s', PRel tp L T k' s' rX rM.2 ∧ s ≤ s' ∧ s' ≤ k' ∧ k < k' ∧ (rX 33 n = s ∧ rX 34 n = s' ∧ rM.2 139 n = s ∧ rM.2 140 n = s') ∧ (s < s' → EvB 22 (rM.2 141) s s') ∧ (∀ j, j < 2 * s → rM.2 141 j = gM 141 j) ∧ rX 3 3 = ((n + 1 : Nat) : Int) ∧ (∀ l, l ≠ n → rX 33 l = gX 33 l ∧ rX 34 l = gX 34 l ∧ rM.2 139 l = gM 139 l ∧ rM.2 140 l = gM 140 l)) ∨ (rM.1 = 0 ∧ PFail tp L T rX rM.2)) ∧ FR RWX gX rX ∧ FR RWM gM rM.2 := by
  have hT := O.T500
  have a8 := R.2.2.2.2.2.2.2.1
  have a4 := R.2.2.2.1
  obtain ⟨gA, hgA⟩ : ∃ gA : AG, gA = up gX 33 n (s : Int) := ⟨_, rfl⟩
  obtain ⟨mA, hmA⟩ : ∃ mA : AG, mA = up gM 139 n (s : Int) := ⟨_, rfl⟩
  have fA : FR [(33, 0)] gX gA := by rw [hgA]; exact Fr.up Fr.rf rfl
  have gmA : FR [(139, 0)] gM mA := by rw [hmA]; exact Fr.up Fr.rf rfl
  have RA : PRel tp L T k s gA mA := (R.frx fA rfl).frm gmA rfl
  have nn : nw (n : Int) = n := nwN n (by ((try clear nn); (try clear inn); (try clear xt); (try clear mt); (try clear mh); omega))
  have inn : ix (n : Int) = n := ixN n (by ((try clear nn); (try clear inn); (try clear xt); (try clear mt); (try clear mh); omega))
  have d45 : mA 117 45 = 0 := by rw [gmA 117 45 rfl]; exact h45
  obtain ⟨y, m, v, tk, hxx, hm, nx, nm, hv, z1, z2, pl⟩ := RA.see O
  have a2 := RA.2.1
  have a3 := RA.2.2.1
  have a9 := RA.2.2.2.2.2.2.2.2.1
  have kT : y ≠ 0 → k < T := fun h => Nat.lt_of_le_of_ne a9 (fun q => h (z2 q))
  have i107 : Parser_is 107 gA = some (if y = 107 then 1 else 0) := is_s a2 a3 (by ((try clear nn); (try clear inn); (try clear xt); (try clear mt); (try clear mh); omega)) hxx nx nwd.2.2.1
  have mT : y = 107 ↔ m = 3 := tk_wd tk (by ((try clear nn); (try clear inn); (try clear xt); (try clear mt); (try clear mh); omega)) (by ((try clear nn); (try clear inn); (try clear xt); (try clear mt); (try clear mh); omega))
  -- the last part: ;
  have last : ∀ (k1 s1 : Nat) (g1 m1 : AG), Acc tp L T EvT k s gA mA k1 s1 g1 m1 → (s < s1 → EvB 22 (m1 141) s s1) → ∃ rX rM, (some (up g1 34 n (g1 3 2)) >>= fun (g39 : AG) => (Parser_demand 59 g39 >>= fun (r41 : Int × AG) => (some (up r41.2 3 3 (r41.2 3 3 + 1)) >>= fun (g43 : AG) => some ((0 : Int), g43)))) = some (0, rX) ∧ M_aLine_b n 2 m1 = some rM ∧
    ((rM.1 = 1 ∧ ∃ k' s', PRel tp L T k' s' rX rM.2 ∧ s ≤ s' ∧ s' ≤ k' ∧ k < k' ∧ (rX 33 n = s ∧ rX 34 n = s' ∧ rM.2 139 n = s ∧ rM.2 140 n = s') ∧ (s < s' → EvB 22 (rM.2 141) s s') ∧ (∀ j, j < 2 * s → rM.2 141 j = gM 141 j) ∧ rX 3 3 = ((n + 1 : Nat) : Int) ∧ (∀ l, l ≠ n → rX 33 l = gX 33 l ∧ rX 34 l = gX 34 l ∧ rM.2 139 l = gM 139 l ∧ rM.2 140 l = gM 140 l)) ∨ (rM.1 = 0 ∧ PFail tp L T rX rM.2)) ∧ FR RWX gX rX ∧ FR RWM gM rM.2 := by
    intro k1 s1 g1 m1 A1 ev
    have R1 := A1.2.2.2.2.1
    have b8 := R1.2.2.2.2.2.2.2.1
    have b4 := R1.2.2.2.1
    have k1k := A1.2.2.2.2.2.1
    have ss := A1.2.2.2.2.2.2.1
    have sk := A1.2.2.2.2.2.2.2.1
    obtain ⟨gB, hgB⟩ : ∃ gB : AG, gB = up g1 34 n (s1 : Int) := ⟨_, rfl⟩
    obtain ⟨mB, hmB⟩ : ∃ mB : AG, mB = up m1 140 n (s1 : Int) := ⟨_, rfl⟩
    have fB : FR [(34, 0)] g1 gB := by rw [hgB]; exact Fr.up Fr.rf rfl
    have gmB : FR [(140, 0)] m1 mB := by rw [hmB]; exact Fr.up Fr.rf rfl
    have RB : PRel tp L T k1 s1 gB mB := (R1.frx fB rfl).frm gmB rfl
    obtain ⟨rX1, rM1, u1, u2, ur⟩ := need_rel O (Acc.start (E := EvT) RB trivial) (c := 59) (c' := 159) (by ((try clear nn); (try clear inn); (try clear xt); (try clear mt); (try clear mh); omega)) (by ((try clear nn); (try clear inn); (try clear xt); (try clear mt); (try clear mh); omega)) (by ((try clear nn); (try clear inn); (try clear xt); (try clear mt); (try clear mh); omega))
    obtain ⟨rX, hrX⟩ : ∃ rX : AG, rX = up rX1 3 3 (rX1 3 3 + 1) := ⟨_, rfl⟩
    have fX : FR [(3, 4)] rX1 rX := by rw [hrX]; exact Fr.up Fr.rf rfl
    have xh : (some (up g1 34 n (g1 3 2)) >>= fun (g39 : AG) => (Parser_demand 59 g39 >>= fun (r41 : Int × AG) => (some (up r41.2 3 3 (r41.2 3 3 + 1)) >>= fun (g43 : AG) => some ((0 : Int), g43)))) = some (0, rX) := by
      rw [sb, b4, ← hgB, u1, sb, sb, hrX]
    rcases ur with ⟨ok, k2, s2, A2⟩ | bad
    · have R2 := A2.2.2.2.2.1
      have c7 := A2.2.2.2.2.2.1
      have c8 := A2.2.2.2.2.2.2.1
      have c9 := A2.2.2.2.2.2.2.2.1
      have lt : k1 < k2 ∧ s2 = s1 := by
        unfold M_need at u2
        obtain ⟨y2, m2, v2, tk2, hxx2, hm2, nx2, nm2, hv2, z12, z22, pl2⟩ := RB.see O
        rw [hm2, nm2, nwd.2.2.2.2.2.2.2] at u2
        by_cases q : m2 = 159
        · have y59 : y2 ≠ 0 := fun q2 => by have := (tk_0 tk2).mp q2; ((try clear nn); (try clear inn); (try clear xt); (try clear mt); (try clear mh); omega)
          have kT2 : k1 < T := Nat.lt_of_le_of_ne RB.2.2.2.2.2.2.2.2.1 (fun q => y59 (z22 q))
          obtain ⟨gM', e1, e2, A3, f3⟩ := (Acc.start (E := EvT) RB trivial).nx O kT2
          rw [if_pos q, e2, sb] at u2
          have e := Option.some.inj u2
          rw [← e] at R2
          have p1 := R2.2.2.2.2.2.2.2.1
          have p2 := A3.2.2.2.2.1.2.2.2.2.2.2.2.1
          have p3 : ((s2 : Nat) : Int) = (s1 : Nat) := p1.symm.trans p2
          refine ⟨?_, by ((try clear nn); (try clear inn); (try clear xt); (try clear mt); (try clear mh); omega)⟩
          have x6 := R2.2.1
          have iy : Parser_is 59 gB = some (if y2 = 59 then 1 else 0) := is_s RB.2.1 RB.2.2.1 (by ((try clear nn); (try clear inn); (try clear xt); (try clear mt); (try clear mh); omega)) hxx2 nx2 nwc.2.2.2.2.2.2.2.2.2.2.2.2.1
          have y59' : y2 = 59 := (tk_sg tk2 (c := 59) (by ((try clear nn); (try clear inn); (try clear xt); (try clear mt); (try clear mh); omega)) (by ((try clear nn); (try clear inn); (try clear xt); (try clear mt); (try clear mh); omega))).mpr (by ((try clear nn); (try clear inn); (try clear xt); (try clear mt); (try clear mh); omega))
          unfold Parser_demand at u1
          rw [iy, if_pos y59', sb, nw_1, if_neg (by decide), e1, sb, sb] at u1
          have e4 := Option.some.inj u1
          have e5 : up gB 4 6 ((k1 : Int) + 1) = rX1 := congrArg Prod.snd e4
          rw [← e5, up_at, if_pos ⟨rfl, rfl⟩] at x6
          ((try clear nn); (try clear inn); (try clear xt); (try clear mt); (try clear mh); omega)
        · exfalso
          rw [if_neg q, bad_s, sb, if_pos (Or.inl rfl)] at u2
          have e := Option.some.inj u2
          rw [← e] at ok
          cases ok
      obtain ⟨lt1, rfl⟩ := lt
      have fX' : FR RWX gX rX := (FR.mo fA rfl).tr ((FR.mo A1.1 rfl).tr ((FR.mo fB rfl).tr ((FR.mo A2.1 rfl).tr (FR.mo fX rfl))))
      have fM' : FR RWM gM rM1.2 := (FR.mo gmA rfl).tr ((FR.mo A1.2.1 rfl).tr ((FR.mo gmB rfl).tr (FR.mo A2.2.1 rfl)))
      have q33 : ∀ l, rX 33 l = gA 33 l := fun l => by rw [fX 33 l rfl, A2.1 33 l rfl, fB 33 l rfl, A1.1 33 l rfl]
      have q34 : ∀ l, rX 34 l = gB 34 l := fun l => by rw [fX 34 l rfl, A2.1 34 l rfl]
      have p34 : ∀ l, g1 34 l = gX 34 l := fun l => by rw [A1.1 34 l rfl, fA 34 l rfl]
      have q39 : ∀ l, rM1.2 139 l = mA 139 l := fun l => by rw [A2.2.1 139 l rfl, gmB 139 l rfl, A1.2.1 139 l rfl]
      have q40 : ∀ l, rM1.2 140 l = mB 140 l := fun l => by rw [A2.2.1 140 l rfl]
      have p40 : ∀ l, m1 140 l = gM 140 l := fun l => by rw [A1.2.1 140 l rfl, gmA 140 l rfl]
      have lo : ∀ j, j < 2 * s2 → rM1.2 141 j = m1 141 j := fun j hj => by rw [A2.2.2.2.1 j hj, gmB 141 j rfl]
      refine ⟨rX, rM1, xh, ?_, Or.inl ⟨ok, k2, s2, R2.frx fX rfl, ss, by ((try clear nn); (try clear inn); (try clear xt); (try clear mt); (try clear mh); omega), by ((try clear nn); (try clear inn); (try clear xt); (try clear mt); (try clear mh); omega), ⟨?_, ?_, ?_, ?_⟩, fun h => (ev h).cd ss lo, fun j hj => ?_, ?_, fun l hl => ⟨?_, ?_, ?_, ?_⟩⟩, fX', fM'⟩
      · rw [M_aLine_b.eq_1 _ 2, if_neg (by decide), if_pos rfl, nn, inn, b8, if_pos (by ((try clear nn); (try clear inn); (try clear xt); (try clear mt); (try clear mh); omega)), sb, ← hmB, u2, sb, ok, if_pos (Or.inr rfl), ← ok]
      · rw [q33, hgA, up_at, if_pos ⟨rfl, rfl⟩]
      · rw [q34, hgB, up_at, if_pos ⟨rfl, rfl⟩]
      · rw [q39, hmA, up_at, if_pos ⟨rfl, rfl⟩]
      · rw [q40, hmB, up_at, if_pos ⟨rfl, rfl⟩]
      · rw [lo j (by ((try clear nn); (try clear inn); (try clear xt); (try clear mt); (try clear mh); omega)), A1.2.2.2.1 j hj, gmA 141 j rfl]
      · have e3 : rX1 3 3 = n := by rw [A2.1 3 3 rfl, fB 3 3 rfl, A1.1 3 3 rfl, fA 3 3 rfl]; exact h33
        rw [hrX, up_at, if_pos ⟨rfl, rfl⟩, e3]; rfl
      · rw [q33, hgA, up_at, if_neg (fun q => hl q.2)]
      · rw [q34, hgB, up_at, if_neg (fun q => hl q.2), p34]
      · rw [q39, hmA, up_at, if_neg (fun q => hl q.2)]
      · rw [q40, hmB, up_at, if_neg (fun q => hl q.2), p40]
    · obtain ⟨b1, b2, b3, w, p, F, b4', b5⟩ := bad
      obtain ⟨s', t1, t2⟩ := F.2.2.2.2.1
      refine ⟨rX, rM1, xh, ?_, Or.inr ⟨b1, w, p, F.fr fX rfl ⟨s', t1, by rw [fX 3 2 rfl]; exact t2⟩, b4', b5⟩, (FR.mo fA rfl).tr ((FR.mo A1.1 rfl).tr ((FR.mo fB rfl).tr ((FR.mo b2 rfl).tr (FR.mo fX rfl)))), (FR.mo gmA rfl).tr ((FR.mo A1.2.1 rfl).tr ((FR.mo gmB rfl).tr (FR.mo b3 rfl)))⟩
      rw [M_aLine_b.eq_1 _ 2, if_neg (by decide), if_pos rfl, nn, inn, b8, if_pos (by ((try clear nn); (try clear inn); (try clear xt); (try clear mt); (try clear mh); omega)), sb, ← hmB, u2, sb, b1, if_pos (Or.inl rfl), ← b1]
  have xt : tlX x n gX = ((((Parser_is 107 gA >>= fun (r30 : Int) => (if nw r30 = 0 then some gA else (Parser_goOn gA >>= fun (r33 : Int × AG) => (Parser_readEither 12 0 r33.2 >>= fun (r35 : Int × AG) => some r35.2)))) : Option AG)) >>= fun (g1 : AG) => (some (up g1 34 n (g1 3 2)) >>= fun (g39 : AG) => (Parser_demand 59 g39 >>= fun (r41 : Int × AG) => (some (up r41.2 3 3 (r41.2 3 3 + 1)) >>= fun (g43 : AG) => some ((0 : Int), g43))))) := by
    unfold tlX
    rw [a4, sb, ← hgA, if_neg hx]
  have mt : M_aLine_b n 1 gM = (if m = 3 then (M_next0 mA >>= fun r5 => (M_any (M_one 12) r5.2 >>= fun r7 => (if nw r7.1 = 0 then some (0, r7.2) else M_aLine_b n 2 r7.2))) else M_aLine_b n 2 mA) := by
    rw [M_aLine_b.eq_1 _ 1, if_pos rfl, nn, inn, a8, if_pos (by ((try clear nn); (try clear inn); (try clear xt); (try clear mt); (try clear mh); omega)), sb, ← hmA, hm, nm]
  have A0 : Acc tp L T EvT k s gA mA k s gA mA := Acc.start RA trivial
  by_cases c : y = 107
  · obtain ⟨gM1, e1, e2, A1, f1⟩ := A0.nx O (kT (by ((try clear nn); (try clear inn); (try clear xt); (try clear mt); (try clear mh); omega)))
    obtain ⟨rX1, rM1, u1, u2, ur⟩ := any_0 O A1.2.2.2.2.1 (by ((try clear nn); (try clear inn); (try clear xt); (try clear mt); (try clear mh); omega)) (by rw [A1.2.2.1]; exact d45)
    have xh : tlX x n gX = (some (up rX1 34 n (rX1 3 2)) >>= fun (g39 : AG) => (Parser_demand 59 g39 >>= fun (r41 : Int × AG) => (some (up r41.2 3 3 (r41.2 3 3 + 1)) >>= fun (g43 : AG) => some ((0 : Int), g43)))) := by
      rw [xt, i107, if_pos c, sb, nw_1, if_neg (by decide), e1, sb, u1, sb, sb]
    have mh : M_aLine_b n 1 gM = (if nw rM1.1 = 0 then some (0, rM1.2) else M_aLine_b n 2 rM1.2) := by
      rw [mt, if_pos (mT.mp c), e2, sb, u2, sb]
    rcases ur with ⟨ok, k1, s1, B⟩ | bad
    · obtain ⟨rX, rM, v1, v2, vr⟩ := last k1 s1 rX1 rM1.2 (A1.join B stbT (fun _ _ => trivial)) (fun _ => B.2.2.2.2.2.2.2.2)
      exact ⟨rX, rM, by rw [xh]; exact v1, by rw [mh, ok, nw_1, if_neg (by decide)]; exact v2, vr⟩
    · obtain ⟨b1, b2, b3, w, p, F, b4', b5⟩ := bad
      obtain ⟨s', t1, t2⟩ := F.2.2.2.2.1
      have f2 : FR [(34, 0)] rX1 (up rX1 34 n (rX1 3 2)) := Fr.up Fr.rf rfl
      have F2 : XF tp L T w p (up rX1 34 n (rX1 3 2)) := F.fr f2 rfl ⟨s', t1, by rw [f2 3 2 rfl]; exact t2⟩
      obtain ⟨g2, hg2⟩ : ∃ g2 : AG, g2 = up rX1 34 n (rX1 3 2) := ⟨_, rfl⟩
      rw [← hg2] at F2 f2
      have f3 : FR [(3, 4)] g2 (up g2 3 3 (g2 3 3 + 1)) := Fr.up Fr.rf rfl
      have F3 : XF tp L T w p (up g2 3 3 (g2 3 3 + 1)) := F2.fr f3 rfl ⟨s', t1, by rw [f3 3 2 rfl, f2 3 2 rfl]; exact t2⟩
      exact ⟨_, (0, rM1.2), by rw [xh, sb, ← hg2, xf_demand F2, sb, sb], by rw [mh, b1, nw_0, if_pos rfl], Or.inr ⟨rfl, w, p, F3, b4', b5⟩, (FR.mo fA rfl).tr ((FR.mo A1.1 rfl).tr ((FR.mo b2 rfl).tr ((FR.mo f2 rfl).tr (FR.mo f3 rfl)))), (FR.mo gmA rfl).tr ((FR.mo A1.2.1 rfl).tr (FR.mo b3 rfl))⟩
  · obtain ⟨rX, rM, v1, v2, vr⟩ := last k s gA mA A0 (fun h => by ((try clear nn); (try clear inn); (try clear xt); (try clear mt); (try clear mh); omega))
    exact ⟨rX, rM, by rw [xt, i107, if_neg c, sb, nw_0, if_pos rfl, sb]; exact v1, by rw [mt, if_neg (fun q => c (mT.mpr q))]; exact v2, vr⟩
