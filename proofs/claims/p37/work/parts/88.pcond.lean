/-! plain programs: B, A and C, both sides -/
theorem PRel.dep {tp : Nat → Int} {L T k s : Nat} {gX gM : AG} (R : PRel tp L T k s gX gM) (v : Int) : PRel tp L T k s gX (up gM 117 45 v) := by
  obtain ⟨a1, a2, a3, a4, a5, a6, a7, a8, a9, a10, a11, a12⟩ := R
  have f : FR [(117, 46)] gM (up gM 117 45 v) := Fr.up Fr.rf rfl
  refine ⟨a1, a2, a3, a4, a5.fr f rfl, a6.fr f rfl, by rw [f 117 41 rfl]; exact a7, by rw [f 117 36 rfl]; exact a8, a9, a10, fun j hj => ?_, fun j hj => ?_, a12.2.1, by rw [f 117 42 rfl]; exact a12.2.2⟩
  · rw [f 141 _ rfl, f 141 _ rfl]; exact a11 j hj
  · rw [f 141 _ rfl]; exact a12.1 j hj
/-- behind a ( or a not, taken back -/
theorem Acc.opened {tp : Nat → Int} {L T : Nat} {E : (Nat → Int) → Nat → Nat → Prop} {k s k' s' : Nat} {gX gM gM1 gX' gM' : AG} {d : Int} (B : Acc tp L T E (k + 1) s (up gX 4 6 ((k : Int) + 1)) gM1 k' s' gX' gM') (f1 : FR [(117, 39), (117, 40), (117, 41), (117, 42), (117, 46)] gM gM1) (hd : gM 117 45 = d) : Acc tp L T E k s gX gM k' s' gX' (up gM' 117 45 d) ∧ s' + 1 + k ≤ s + k' := by
  obtain ⟨b1, b2, b3, b4, b5, b6, b7, b8, b9⟩ := B
  have f : FR [(117, 46)] gM' (up gM' 117 45 d) := Fr.up Fr.rf rfl
  have c : (up gM' 117 45 d) 141 = gM' 141 := f.cell (fun _ => rfl)
  have c1 : gM1 141 = gM 141 := f1.cell (fun _ => rfl)
  refine ⟨⟨(Fr.up (W := inR RPX) Fr.rf rfl).tr b1, ((FR.mo f1 rfl).tr b2).tr (FR.mo f rfl), by rw [up_at, if_pos ⟨rfl, rfl⟩, hd], fun j hj => ?_, b5.dep d, by omega, b7, by omega, ?_⟩, by omega⟩
  · rw [c, b4 j hj, c1]
  · rw [c]; exact b9
theorem opens_s {g : AG} {d : Nat} (h : g 117 45 = d) (hd : d < 8) : M_opens g = (M_next0 (up g 117 45 ((d : Int) + 1)) >>= fun r4 => some (1, r4.2)) := by
  unfold M_opens
  rw [h, nwN d (by omega), if_neg (by omega), sb]
theorem opens_8 {g : AG} (h : g 117 45 = 8) : M_opens g = some (0, badM g 3) := by
  unfold M_opens
  rw [h, nwc.2.2.2.2.2.1, if_pos rfl, bad_s, sb, if_pos (Or.inl rfl)]
theorem openX_s {g : AG} {d : Nat} (hd : d < 8) : Parser_openOneMore d g = (Parser_goOn g >>= fun r => some (0, r.2)) := by
  unfold Parser_openOneMore
  rw [nwN d (by omega), if_pos (by omega)]
  cases Parser_goOn g with
  | none => rfl
  | some r => rfl
theorem openX_8 {g : AG} : Parser_openOneMore 8 g = (Parser_fail 3 g >>= fun r => some (0, r.2)) := by
  unfold Parser_openOneMore
  rw [nwc.2.2.2.2.2.1, if_neg (by decide)]
  cases Parser_fail 3 g with
  | none => rfl
  | some r => rfl
def nots (sx : Nat) : Nat → AG → AG
  | 0, g => g
  | n + 1, g => putX (nots sx n g) (sx + n) 110 0
theorem nots_sh (sx : Nat) (g : AG) : ∀ n : Nat, nots (sx + 1) n (putX g sx 110 0) = nots sx (n + 1) g
  | 0 => rfl
  | n + 1 => by
    show putX (nots (sx + 1) n (putX g sx 110 0)) (sx + 1 + n) 110 0 = putX (nots sx (n + 1) g) (sx + (n + 1)) 110 0
    rw [nots_sh sx g n, show sx + 1 + n = sx + (n + 1) by omega]
theorem nots_s {rec : Int → AG → Option (Int × AG)} {a : Int} : ∀ (n i sx : Nat) (g : AG), i + n ≤ 100 → g 3 2 = sx → sx + n ≤ 500 → Parser_readOne_b rec a 3 ((i + n : Nat) : Int) i g = some (0, nots sx n g) := by
  intro n
  induction n with
  | zero =>
    intro i sx g h h2 h3
    rw [Parser_readOne_b, if_neg (by decide), if_neg (by decide), if_pos rfl, Nat.add_zero, if_pos (Int.le_refl _)]
    rfl
  | succ n ih =>
    intro i sx g h h2 h3
    have p := put_s (w := 110) (x := 0) h2 (by omega)
    have e := ih (i + 1) (sx + 1) (putX g sx 110 0) (by omega) (by unfold putX; rw [up_at, if_pos ⟨rfl, rfl⟩]; rfl) (by omega)
    rw [nots_sh] at e
    rw [Parser_readOne_b, if_neg (by decide), if_neg (by decide), if_pos rfl, nwN (i + (n + 1)) (by omega), nwN i (by omega), if_neg (by omega), p, sb, show i + (n + 1) = i + 1 + n by omega]
    exact e
theorem need_rel {tp : Nat → Int} {L T : Nat} (O : TkOk tp L T) {E : (Nat → Int) → Nat → Nat → Prop} {k0 s0 k s : Nat} {X0 M0 gX gM : AG} (A : Acc tp L T E k0 s0 X0 M0 k s gX gM) {c c' : Int} (hc : 40 ≤ c) (hc2 : c ≤ 62) (e : c' = c + 100) : ∃ rX rM, Parser_demand c gX = some (0, rX) ∧ M_need c' gM = some rM ∧ POut tp L T E k0 s0 X0 M0 rX rM := by
  have R := A.2.2.2.2.1
  obtain ⟨x, m, v, tk, hxx, hm, nx, nm, hv, z1, z2, pl⟩ := R.see O
  have hT := O.T500
  have a2 := R.2.1
  have a3 := R.2.2.1
  have a9 := R.2.2.2.2.2.2.2.2.1
  have kT : x ≠ 0 → k < T := fun h => Nat.lt_of_le_of_ne a9 (fun y => h (z2 y))
  have hs : x = c ↔ m = c + 100 := tk_sg tk hc hc2
  have nc : nw c = c := nw_id (by ((try clear nc); omega)) (by ((try clear nc); omega))
  have nc' : nw c' = c' := nw_id (by ((try clear nc); omega)) (by ((try clear nc); omega))
  have isc : Parser_is c gX = some (if x = c then 1 else 0) := is_s a2 a3 (by ((try clear nc); omega)) hxx nx nc
  by_cases q : x = c
  · obtain ⟨gM1, e1, e2, A1, f1⟩ := A.nx O (kT (by ((try clear nc); omega)))
    refine ⟨_, (1, gM1), ?_, ?_, Or.inl ⟨rfl, k + 1, s, A1⟩⟩
    · unfold Parser_demand
      rw [isc, if_pos q, sb, nw_1, if_neg (by decide), e1, sb, sb]
    · unfold M_need
      rw [hm, nm, nc', if_pos (by ((try clear nc); omega)), e2, sb]
  · obtain ⟨e1, e2, B⟩ := A.bad O (w := 1) (by ((try clear nc); omega)) (by ((try clear nc); omega))
    refine ⟨_, _, ?_, ?_, Or.inr B⟩
    · unfold Parser_demand
      rw [isc, if_neg q, sb, nw_0, if_pos rfl, e1, sb, sb]
    · unfold M_need
      rw [hm, nm, nc', if_neg (by ((try clear nc); omega)), e2, sb, if_pos (Or.inl rfl)]
def OneS (tp : Nat → Int) (L T d : Nat) : Prop := ∀ (f nX o m k s : Nat) (gX gM : AG), 9 ≤ f + d → 9 ≤ nX + d → o + m = d → PRel tp L T k s gX gM → s ≤ k → gM 117 45 = d →
  (∃ rX rM, Parser_readOne_b (Parser_readEither nX) o 1 d m gX = some (0, rX) ∧ M_one f gM = some rM ∧ PBad tp L T gX gM rX rM) ∨
  (∃ (rX gM' : AG) (j sx k' s' : Nat), Parser_readOne_b (Parser_readEither nX) o 1 d m gX = Parser_readOne_b (Parser_readEither nX) o 3 ((d + j : Nat) : Int) o rX ∧ M_one f gM = some (1, gM') ∧ rX 3 2 = sx ∧ sx + j = s' ∧ d + j ≤ 8 ∧ Acc tp L T (EvB (20 - 2 * d)) k s gX gM k' s' (nots sx j rX) gM')
def AnyS (tp : Nat → Int) (L T d : Nat) : Prop := ∀ (f nX k s : Nat) (gX gM : AG), 9 ≤ f + d → 10 ≤ nX + d → PRel tp L T k s gX gM → s ≤ k → gM 117 45 = d → ∃ rX rM, Parser_readEither nX d gX = some (0, rX) ∧ M_any (M_one f) gM = some rM ∧ POut tp L T (EvB (22 - 2 * d)) k s gX gM rX rM
theorem cmp_rel {tp : Nat → Int} {L T : Nat} (O : TkOk tp L T) {k s : Nat} {gX gM : AG} (R : PRel tp L T k s gX gM) (hs : s ≤ k) : ∃ rX rM, (Parser_readSum gX >>= fun r4 => if 0 ≤ nw (r4.2 4 6) ∧ nw (r4.2 4 6) < 501 then (Parser_demandComparing r4.2 >>= fun r7 => (Parser_readSum r7.2 >>= fun r9 => (Rules_put (r4.2 42 (ix (r4.2 4 6))) 0 r9.2 >>= fun r11 => some r11.2))) else none) = some rX ∧ (M_sumUp gM >>= fun r3 => (if nw r3.1 = 0 then some ((0 : Int), r3.2) else (some (if nw (r3.2 117 39) = 160 then (14 : Int) else (if nw (r3.2 117 39) = 161 then 15 else (if nw (r3.2 117 39) = 162 then 16 else -1))) >>= fun t6 => (if nw t6 = -1 then (M_bad 1 r3.2 >>= fun r16 => if r16.1 = 0 ∨ r16.1 = 1 then some (r16.1, r16.2) else none) else (M_next0 r3.2 >>= fun r9 => (M_sumUp r9.2 >>= fun r11 => (if nw r11.1 = 0 then some (0, r11.2) else (M_lay t6 0 r11.2 >>= fun r14 => some (1, r14.2))))))))) = some rM ∧ POut tp L T (EvB 4) k s gX gM rX rM := by
  have hT := O.T500
  obtain ⟨rX1, rM1, u1, u2, ur⟩ := sum_rel O R hs
  rcases ur with ⟨ok, k1, s1, A⟩ | bad
  · have s1k := A.le hs
    have R1 := A.2.2.2.2.1
    have s7 := A.2.2.2.2.2.2.1
    have s8 := A.2.2.2.2.2.2.2.1
    obtain ⟨x, m, v, tk, hxx, hm, nx, nm, hv, z1, z2, pl⟩ := R1.see O
    have a2 := R1.2.1
    have a3 := R1.2.2.1
    have a9 := R1.2.2.2.2.2.2.2.2.1
    have kT : x ≠ 0 → k1 < T := fun h => Nat.lt_of_le_of_ne a9 (fun y => h (z2 y))
    have rg := tk_rng tk
    have m60 : x = 60 ↔ m = 160 := tk_sg tk (by ((try clear nk); (try clear ik); (try clear xh); (try clear tokn); (try clear ex); (try clear mh); (try clear n6); (try clear mh2); omega)) (by ((try clear nk); (try clear ik); (try clear xh); (try clear tokn); (try clear ex); (try clear mh); (try clear n6); (try clear mh2); omega))
    have m61 : x = 61 ↔ m = 161 := tk_sg tk (by ((try clear nk); (try clear ik); (try clear xh); (try clear tokn); (try clear ex); (try clear mh); (try clear n6); (try clear mh2); omega)) (by ((try clear nk); (try clear ik); (try clear xh); (try clear tokn); (try clear ex); (try clear mh); (try clear n6); (try clear mh2); omega))
    have m62 : x = 62 ↔ m = 162 := tk_sg tk (by ((try clear nk); (try clear ik); (try clear xh); (try clear tokn); (try clear ex); (try clear mh); (try clear n6); (try clear mh2); omega)) (by ((try clear nk); (try clear ik); (try clear xh); (try clear tokn); (try clear ex); (try clear mh); (try clear n6); (try clear mh2); omega))
    have nk : nw (k1 : Int) = k1 := nwN k1 (by ((try clear nk); (try clear ik); (try clear xh); (try clear tokn); (try clear ex); (try clear mh); (try clear n6); (try clear mh2); omega))
    have ik : ix (k1 : Int) = k1 := ixN k1 (by ((try clear nk); (try clear ik); (try clear xh); (try clear tokn); (try clear ex); (try clear mh); (try clear n6); (try clear mh2); omega))
    have i60 : Parser_is 60 rX1 = some (if x = 60 then 1 else 0) := is_s a2 a3 (by ((try clear nk); (try clear ik); (try clear xh); (try clear tokn); (try clear ex); (try clear mh); (try clear n6); (try clear mh2); omega)) hxx nx nwc.2.2.2.2.2.2.2.2.2.2.2.2.2.1
    have i61 : Parser_is 61 rX1 = some (if x = 61 then 1 else 0) := is_s a2 a3 (by ((try clear nk); (try clear ik); (try clear xh); (try clear tokn); (try clear ex); (try clear mh); (try clear n6); (try clear mh2); omega)) hxx nx nwc.2.2.2.2.2.2.2.2.2.2.2.2.2.2.1
    have i62 : Parser_is 62 rX1 = some (if x = 62 then 1 else 0) := is_s a2 a3 (by ((try clear nk); (try clear ik); (try clear xh); (try clear tokn); (try clear ex); (try clear mh); (try clear n6); (try clear mh2); omega)) hxx nx nwc.2.2.2.2.2.2.2.2.2.2.2.2.2.2.2
    have xh : (Parser_readSum gX >>= fun r4 => if 0 ≤ nw (r4.2 4 6) ∧ nw (r4.2 4 6) < 501 then (Parser_demandComparing r4.2 >>= fun r7 => (Parser_readSum r7.2 >>= fun r9 => (Rules_put (r4.2 42 (ix (r4.2 4 6))) 0 r9.2 >>= fun r11 => some r11.2))) else none) = (Parser_demandComparing rX1 >>= fun r7 => (Parser_readSum r7.2 >>= fun r9 => (Rules_put x 0 r9.2 >>= fun r11 => some r11.2))) := by
      have tokn : 0 ≤ nw (rX1 4 6) ∧ nw (rX1 4 6) < 501 := by rw [a2, nk]; ((try clear nk); (try clear ik); (try clear xh); (try clear tokn); (try clear ex); (try clear mh); (try clear n6); (try clear mh2); omega)
      have ex : rX1 42 (ix (rX1 4 6)) = x := by rw [a2, ik]; exact hxx
      rw [u1, sb, if_pos tokn]
      show (Parser_demandComparing rX1 >>= fun r7 => (Parser_readSum r7.2 >>= fun r9 => (Rules_put (rX1 42 (ix (rX1 4 6))) 0 r9.2 >>= fun r11 => some r11.2))) = _
      rw [ex]
    obtain ⟨t6, ht6⟩ : ∃ t6 : Int, t6 = if m = 160 then (14 : Int) else (if m = 161 then 15 else (if m = 162 then 16 else -1)) := ⟨_, rfl⟩
    have mh : (M_sumUp gM >>= fun r3 => (if nw r3.1 = 0 then some ((0 : Int), r3.2) else (some (if nw (r3.2 117 39) = 160 then (14 : Int) else (if nw (r3.2 117 39) = 161 then 15 else (if nw (r3.2 117 39) = 162 then 16 else -1))) >>= fun t6 => (if nw t6 = -1 then (M_bad 1 r3.2 >>= fun r16 => if r16.1 = 0 ∨ r16.1 = 1 then some (r16.1, r16.2) else none) else (M_next0 r3.2 >>= fun r9 => (M_sumUp r9.2 >>= fun r11 => (if nw r11.1 = 0 then some (0, r11.2) else (M_lay t6 0 r11.2 >>= fun r14 => some (1, r14.2))))))))) = (if nw t6 = -1 then (M_bad 1 rM1.2 >>= fun r16 => if r16.1 = 0 ∨ r16.1 = 1 then some (r16.1, r16.2) else none) else (M_next0 rM1.2 >>= fun r9 => (M_sumUp r9.2 >>= fun r11 => (if nw r11.1 = 0 then some (0, r11.2) else (M_lay t6 0 r11.2 >>= fun r14 => some (1, r14.2)))))) := by
      rw [u2, sb, ok, nw_1, if_neg (by decide), hm, nm, sb, ← ht6]
    rw [xh, mh]
    by_cases c : x = 60 ∨ x = 61 ∨ x = 62
    · have ho : opR t6 0 x 0 ∧ (t6 = 14 ∨ t6 = 15 ∨ t6 = 16) := by
        rcases c with c | c | c
        · rw [ht6, if_pos (m60.mp c), c]; exact ⟨op_bel, Or.inl rfl⟩
        · have e := m61.mp c
          rw [ht6, if_neg (show ¬ m = 160 by ((try clear nk); (try clear ik); (try clear xh); (try clear tokn); (try clear ex); (try clear mh); (try clear n6); (try clear mh2); omega)), if_pos e, c]; exact ⟨op_same, Or.inr (Or.inl rfl)⟩
        · have e := m62.mp c
          rw [ht6, if_neg (show ¬ m = 160 by ((try clear nk); (try clear ik); (try clear xh); (try clear tokn); (try clear ex); (try clear mh); (try clear n6); (try clear mh2); omega)), if_neg (show ¬ m = 161 by ((try clear nk); (try clear ik); (try clear xh); (try clear tokn); (try clear ex); (try clear mh); (try clear n6); (try clear mh2); omega)), if_pos e, c]; exact ⟨op_abo, Or.inr (Or.inr rfl)⟩
      have n6 : nw t6 = t6 := nw_id (by ((try clear nk); (try clear ik); (try clear xh); (try clear tokn); (try clear ex); (try clear mh); (try clear n6); (try clear mh2); omega)) (by ((try clear nk); (try clear ik); (try clear xh); (try clear tokn); (try clear ex); (try clear mh); (try clear n6); (try clear mh2); omega))
      obtain ⟨gM1, e1, e2, A1, f1⟩ := A.nx O (kT (by ((try clear nk); (try clear ik); (try clear xh); (try clear tokn); (try clear ex); (try clear mh); (try clear n6); (try clear mh2); omega)))
      have xd : Parser_demandComparing rX1 = some (0, up rX1 4 6 ((k1 : Int) + 1)) := by
        unfold Parser_demandComparing
        rw [i60, i61, i62, sb]
        by_cases y : x = 60
        · rw [if_pos y, nw_1, if_neg (by decide), e1, sb, sb]
        · rw [if_neg y, nw_0, if_pos rfl, sb]
          by_cases y2 : x = 61
          · rw [if_pos y2, nw_1, if_neg (by decide), e1, sb, sb]
          · rw [if_neg y2, nw_0, if_pos rfl, sb, if_pos (show x = 62 by ((try clear nk); (try clear ik); (try clear xh); (try clear tokn); (try clear ex); (try clear mh); (try clear n6); (try clear mh2); omega)), nw_1, if_neg (by decide), e1, sb, sb]
      obtain ⟨rX2, rM2, v1, v2, vr⟩ := sum_rel O A1.2.2.2.2.1 (by ((try clear nk); (try clear ik); (try clear xh); (try clear tokn); (try clear ex); (try clear mh); (try clear n6); (try clear mh2); omega))
      have xh2 : (Parser_demandComparing rX1 >>= fun r7 => (Parser_readSum r7.2 >>= fun r9 => (Rules_put x 0 r9.2 >>= fun r11 => some r11.2))) = (Rules_put x 0 rX2 >>= fun r11 => some r11.2) := by rw [xd, sb, v1, sb]
      have mh2 : (if nw t6 = -1 then (M_bad 1 rM1.2 >>= fun r16 => if r16.1 = 0 ∨ r16.1 = 1 then some (r16.1, r16.2) else none) else (M_next0 rM1.2 >>= fun r9 => (M_sumUp r9.2 >>= fun r11 => (if nw r11.1 = 0 then some (0, r11.2) else (M_lay t6 0 r11.2 >>= fun r14 => some (1, r14.2)))))) = (if nw rM2.1 = 0 then some (0, rM2.2) else (M_lay t6 0 rM2.2 >>= fun r14 => some (1, r14.2))) := by
        rw [n6, if_neg (show ¬ t6 = -1 by ((try clear nk); (try clear ik); (try clear xh); (try clear tokn); (try clear ex); (try clear mh); (try clear n6); (try clear mh2); omega)), e2, sb, v2, sb]
      rw [xh2, mh2]
      rcases vr with ⟨ok2, k2, s2, B⟩ | bad
      · have bs := B.2.2.2.2.2.2.1
        obtain ⟨p1, p2, A2⟩ := A1.op B (E3 := EvB 4) (stbN 3) (stbN 3) (c := t6) (v := 0) (w := x) (x := 0) ho.1 i32_0 hs (by ((try clear nk); (try clear ik); (try clear xh); (try clear tokn); (try clear ex); (try clear mh); (try clear n6); (try clear mh2); omega)) (fun cd a b c => EvB.cmp a b s7 bs (by rw [c]; exact ho.2)) hT
        refine ⟨putX rX2 s2 x 0, (1, layM rM2.2 s2 t6 0), by rw [p1, sb], by rw [ok2, nw_1, if_neg (by decide), p2, sb], Or.inl ⟨rfl, k2, s2 + 1, A2⟩⟩
      · obtain ⟨w, p, F, ext⟩ := (A1.pbad bad).x
        obtain ⟨g', e, F', f'⟩ := xf_put F x 0
        exact ⟨g', (0, rM2.2), by rw [e, sb], by rw [bad.1, nw_0, if_pos rfl], Or.inr (ext g' F' f')⟩
    · have e6 : t6 = -1 := by
        rw [ht6, if_neg (fun q => c (Or.inl (m60.mpr q))), if_neg (fun q => c (Or.inr (Or.inl (m61.mpr q)))), if_neg (fun q => c (Or.inr (Or.inr (m62.mpr q))))]
      obtain ⟨e1, e2, B⟩ := A.bad O (w := 1) (by ((try clear nk); (try clear ik); (try clear xh); (try clear tokn); (try clear ex); (try clear mh); (try clear n6); (try clear mh2); omega)) (by ((try clear nk); (try clear ik); (try clear xh); (try clear tokn); (try clear ex); (try clear mh); (try clear n6); (try clear mh2); omega))
      have xd : Parser_demandComparing rX1 = some (0, failX rX1 k1 1) := by
        unfold Parser_demandComparing
        rw [i60, i61, i62, sb, if_neg (show ¬ x = 60 by ((try clear nk); (try clear ik); (try clear xh); (try clear tokn); (try clear ex); (try clear mh); (try clear n6); (try clear mh2); omega)), nw_0, if_pos rfl, sb, if_neg (show ¬ x = 61 by ((try clear nk); (try clear ik); (try clear xh); (try clear tokn); (try clear ex); (try clear mh); (try clear n6); (try clear mh2); omega)), nw_0, if_pos rfl, sb, if_neg (show ¬ x = 62 by ((try clear nk); (try clear ik); (try clear xh); (try clear tokn); (try clear ex); (try clear mh); (try clear n6); (try clear mh2); omega)), nw_0, if_pos rfl, e1, sb, sb]
      obtain ⟨w, p, F, ext⟩ := B.x
      obtain ⟨g', e, F', f'⟩ := xf_put F x 0
      refine ⟨g', (0, badM rM1.2 1), by rw [xd, sb, xf_sum F, sb, e, sb], by rw [e6, nw_m1, if_pos rfl, e2, sb, if_pos (Or.inl rfl)], Or.inr (ext g' F' f')⟩
  · obtain ⟨w, p, F, ext⟩ := bad.x
    obtain ⟨g', e, F', f'⟩ := xf_put F (rX1 42 (ix (rX1 4 6))) 0
    exact ⟨g', (0, rM1.2), by rw [u1, sb, if_pos F.tok, xf_cmp F, sb, xf_sum F, sb, e, sb], by rw [u2, sb, bad.1, nw_0, if_pos rfl], Or.inr (ext g' F' f')⟩
