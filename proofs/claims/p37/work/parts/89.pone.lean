/-! plain programs: the two parsers' recursion -/
theorem one_step {tp : Nat → Int} {L T : Nat} (O : TkOk tp L T) {d : Nat} (hd : d ≤ 8) (H : d < 8 → OneS tp L T (d + 1) ∧ AnyS tp L T (d + 1)) : OneS tp L T d := by
  intro f nX o m k s gX gM hf hn hom R hs h45
  obtain ⟨f, rfl⟩ : ∃ f', f = f' + 1 := ⟨f - 1, by ((try clear nmm); (try clear mh); (try clear x2); omega)⟩
  obtain ⟨x, tm, v, tk, hxx, hm, nx, nm, hv, z1, z2, pl⟩ := R.see O
  have hT := O.T500
  have a2 := R.2.1
  have a3 := R.2.2.1
  have a4 := R.2.2.2.1
  have a9 := R.2.2.2.2.2.2.2.2.1
  have kT : x ≠ 0 → k < T := fun h => Nat.lt_of_le_of_ne a9 (fun y => h (z2 y))
  have m110 : x = 110 ↔ tm = 6 := tk_wd tk (by ((try clear nmm); (try clear mh); (try clear x2); omega)) (by ((try clear nmm); (try clear mh); (try clear x2); omega))
  have m40 : x = 40 ↔ tm = 140 := tk_sg tk (by ((try clear nmm); (try clear mh); (try clear x2); omega)) (by ((try clear nmm); (try clear mh); (try clear x2); omega))
  have nmm : nw (m : Int) = m := nwN m (by ((try clear nmm); (try clear mh); (try clear x2); omega))
  have i110 : Parser_is 110 gX = some (if x = 110 then 1 else 0) := is_s a2 a3 (by ((try clear nmm); (try clear mh); (try clear x2); omega)) hxx nx nwd.2.2.2.2.2.1
  have i40 : Parser_is 40 gX = some (if x = 40 then 1 else 0) := is_s a2 a3 (by ((try clear nmm); (try clear mh); (try clear x2); omega)) hxx nx nwc.2.2.2.2.2.2.1
  have hM : M_one (f + 1) gM = M_one_s (M_one f) gM := rfl
  have A0 : Acc tp L T EvT k s gX gM k s gX gM := Acc.start R trivial
  have m500 : ¬ (500 : Int) ≤ (m : Int) := by ((try clear nmm); (try clear mh); (try clear x2); omega)
  by_cases c1 : x = 110
  · have t6 := m110.mp c1
    have xh : Parser_readOne_b (Parser_readEither nX) o 1 d m gX = (Parser_openOneMore d gX >>= fun r5 => Parser_readOne_b (Parser_readEither nX) o 1 ((d : Int) + 1) ((m : Int) + 1) r5.2) := by
      rw [Parser_readOne_b.eq_1 _ _ 1, if_pos rfl, nmm, if_neg m500, i110, if_pos c1, sb, nw_1, if_neg (by decide)]
    by_cases c8 : d = 8
    · obtain ⟨e1, e2, B⟩ := A0.bad O (w := 3) (by ((try clear nmm); (try clear mh); (try clear x2); omega)) (by ((try clear nmm); (try clear mh); (try clear x2); omega))
      obtain ⟨w, p, F, ext⟩ := B.x
      obtain ⟨g', e, F', f'⟩ := xf_one_b (rec := Parser_readEither nX) F o (m + 1) (by ((try clear nmm); (try clear mh); (try clear x2); omega)) ((m : Int) + 1)
      refine Or.inl ⟨g', (0, badM gM 3), ?_, ?_, ext g' F' f'⟩
      · rw [xh, c8]
        show (Parser_openOneMore 8 gX >>= fun r5 => Parser_readOne_b (Parser_readEither nX) o 1 (8 + 1) ((m : Int) + 1) r5.2) = _
        rw [openX_8, e1, sb, sb]
        have e9 : ((o + (m + 1) : Nat) : Int) = 8 + 1 := by ((try clear nmm); (try clear mh); (try clear x2); omega)
        rw [e9] at e
        exact e
      · rw [hM]
        unfold M_one_s
        rw [hm, nm, if_pos t6, opens_8 (by rw [h45, c8]; rfl), sb, nw_0, if_pos rfl]
    · have d8 : d < 8 := by ((try clear nmm); (try clear mh); (try clear x2); omega)
      have hk : k < T := kT (by ((try clear nmm); (try clear mh); (try clear x2); omega))
      obtain ⟨gM1, e1, e2, R1, f1⟩ := (R.dep ((d : Int) + 1)).nx O hk
      have f1' : FR [(117, 39), (117, 40), (117, 41), (117, 42), (117, 46)] gM gM1 := (Fr.up (W := inR [(117, 39), (117, 40), (117, 41), (117, 42), (117, 46)]) Fr.rf rfl).tr (FR.mo f1 rfl)
      have d1 : gM1 117 45 = ((d + 1 : Nat) : Int) := by rw [f1 117 45 rfl, up_at, if_pos ⟨rfl, rfl⟩]; rfl
      have ih := (H d8).1 f nX o (m + 1) (k + 1) s (up gX 4 6 ((k : Int) + 1)) gM1 (by ((try clear nmm); (try clear mh); (try clear x2); omega)) (by ((try clear nmm); (try clear mh); (try clear x2); omega)) (by ((try clear nmm); (try clear mh); (try clear x2); omega)) R1 (by ((try clear nmm); (try clear mh); (try clear x2); omega)) d1
      have xh2 : Parser_readOne_b (Parser_readEither nX) o 1 d m gX = Parser_readOne_b (Parser_readEither nX) o 1 ((d + 1 : Nat) : Int) ((m + 1 : Nat) : Int) (up gX 4 6 ((k : Int) + 1)) := by
        rw [xh, openX_s d8, e1, sb, sb]
        rfl
      have mh : M_one (f + 1) gM = (M_one f gM1 >>= fun r36 => (if nw r36.1 = 0 then some (0, r36.2) else (some (up r36.2 117 45 (r36.2 117 45 - 1)) >>= fun g39 => (M_lay 17 0 g39 >>= fun r41 => some (1, r41.2))))) := by
        rw [hM]
        unfold M_one_s
        rw [hm, nm, if_pos t6, opens_s h45 d8, e2, sb, sb, nw_1, if_neg (by decide)]
      rcases ih with ⟨rX1, rM1, u1, u2, bad⟩ | ⟨rX1, gM', j, sx, k', s', u1, u2, u3, u4, u5, B⟩
      · refine Or.inl ⟨rX1, (0, rM1.2), by rw [xh2]; exact u1, by rw [mh, u2, sb, bad.1, nw_0, if_pos rfl], rfl, (Fr.up (W := inR RPX) Fr.rf rfl).tr bad.2.1, (FR.mo f1' rfl).tr bad.2.2.1, bad.2.2.2⟩
      · obtain ⟨A2, hx⟩ := B.opened f1' h45
        have dd : gM' 117 45 = ((d + 1 : Nat) : Int) := by rw [B.2.2.1]; exact d1
        obtain ⟨p1, p2, A3⟩ := A2.op1 (E3 := EvB (20 - 2 * d)) (stbB _) (c := 17) (v := 0) (w := 110) (x := 0) op_not i32_0 hs (by ((try clear nmm); (try clear mh); (try clear x2); omega)) (fun cd a b => EvB.no (by ((try clear nmm); (try clear mh); (try clear x2); omega)) (a.mono (by ((try clear nmm); (try clear mh); (try clear x2); omega))) A2.2.2.2.2.2.2.1 b) hT
        refine Or.inr ⟨rX1, layM (up gM' 117 45 (d : Int)) s' 17 0, j + 1, sx, k', s' + 1, ?_, ?_, u3, by ((try clear nmm); (try clear mh); (try clear x2); omega), by ((try clear nmm); (try clear mh); (try clear x2); omega), ?_⟩
        · rw [xh2, u1, show d + 1 + j = d + (j + 1) by ((try clear nmm); (try clear mh); (try clear x2); omega)]
        · rw [mh, u2, sb, nw_1, if_neg (by decide)]
          show (some (up gM' 117 45 (gM' 117 45 - 1)) >>= fun g39 => (M_lay 17 0 g39 >>= fun r41 => some ((1 : Int), r41.2))) = _
          rw [dd, show ((d + 1 : Nat) : Int) - 1 = (d : Int) by ((try clear nmm); (try clear mh); (try clear x2); omega), sb, p2, sb]
        · show Acc tp L T (EvB (20 - 2 * d)) k s gX gM k' (s' + 1) (putX (nots sx j rX1) (sx + j) 110 0) _
          rw [u4]
          exact A3
  · have t6 : ¬ tm = 6 := fun q => c1 (m110.mpr q)
    have xh : Parser_readOne_b (Parser_readEither nX) o 1 d m gX = Parser_readOne_b (Parser_readEither nX) o 2 d m gX := by
      rw [Parser_readOne_b.eq_1 _ _ 1, if_pos rfl, nmm, if_neg m500, i110, if_neg c1, sb, nw_0, if_pos rfl]
    have x2 : Parser_readOne_b (Parser_readEither nX) o 2 d m gX = ((((if nw (if x = 40 then 1 else 0) = 0 then (Parser_readSum gX >>= fun r4 => if 0 ≤ nw (r4.2 4 6) ∧ nw (r4.2 4 6) < 501 then (Parser_demandComparing r4.2 >>= fun r7 => (Parser_readSum r7.2 >>= fun r9 => (Rules_put (r4.2 42 (ix (r4.2 4 6))) 0 r9.2 >>= fun r11 => some r11.2))) else none) else (Parser_openOneMore d gX >>= fun r13 => (Parser_readEither nX ((d : Int) + 1) r13.2 >>= fun r15 => (Parser_demand 41 r15.2 >>= fun r17 => some r17.2)))) : Option AG)) >>= fun r19 => Parser_readOne_b (Parser_readEither nX) o 3 d o r19) := by
      rw [Parser_readOne_b.eq_1 _ _ 2, if_neg (by decide), if_pos rfl, i40, sb]
    have fin : ∀ (w p : Int) (g : AG), XF tp L T w p g → ∃ g', Parser_readOne_b (Parser_readEither nX) o 3 d o g = some (0, g') ∧ XF tp L T w p g' ∧ FR RPP g g' := by
      intro w p g F
      have e := xf_nots (rec := Parser_readEither nX) (a := (o : Int)) m o g (by ((try clear nmm); (try clear mh); (try clear x2); omega)) F
      rw [hom] at e
      exact e
    by_cases c2 : x = 40
    · have t40 := m40.mp c2
      by_cases c8 : d = 8
      · obtain ⟨e1, e2, B⟩ := A0.bad O (w := 3) (by ((try clear nmm); (try clear mh); (try clear x2); omega)) (by ((try clear nmm); (try clear mh); (try clear x2); omega))
        obtain ⟨w, p, F, ext⟩ := B.x
        obtain ⟨n', hn'⟩ : ∃ n', nX = n' + 1 := ⟨nX - 1, by ((try clear nmm); (try clear mh); (try clear x2); omega)⟩
        obtain ⟨g1, q1, F1, f1⟩ := xf_either F 9 n' (by ((try clear nmm); (try clear mh); (try clear x2); omega))
        obtain ⟨g2, q2, F2, f2⟩ := fin w p g1 F1
        refine Or.inl ⟨g2, (0, badM gM 3), ?_, ?_, ext g2 F2 (f1.tr f2)⟩
        · rw [← hn'] at q1
          have q1' : Parser_readEither nX (8 + 1) (failX gX k 3) = some (0, g1) := q1
          rw [xh, x2, if_pos c2, nw_1, if_neg (by decide), show ((d : Nat) : Int) = 8 by ((try clear nmm); (try clear mh); (try clear x2); omega), openX_8, e1, sb, sb, q1', sb, xf_demand F1, sb, sb]
          rw [show ((d : Nat) : Int) = 8 by ((try clear nmm); (try clear mh); (try clear x2); omega)] at q2
          exact q2
        · rw [hM]
          unfold M_one_s
          rw [hm, nm, if_neg t6, if_pos t40, opens_8 (by rw [h45, c8]; rfl), sb, nw_0, if_pos rfl]
      · have d8 : d < 8 := by ((try clear nmm); (try clear mh); (try clear x2); omega)
        have hk : k < T := kT (by ((try clear nmm); (try clear mh); (try clear x2); omega))
        obtain ⟨gM1, e1, e2, R1, f1⟩ := (R.dep ((d : Int) + 1)).nx O hk
        have f1' : FR [(117, 39), (117, 40), (117, 41), (117, 42), (117, 46)] gM gM1 := (Fr.up (W := inR [(117, 39), (117, 40), (117, 41), (117, 42), (117, 46)]) Fr.rf rfl).tr (FR.mo f1 rfl)
        have d1 : gM1 117 45 = ((d + 1 : Nat) : Int) := by rw [f1 117 45 rfl, up_at, if_pos ⟨rfl, rfl⟩]; rfl
        obtain ⟨rX1, rM1, u1, u2, ur⟩ := (H d8).2 f nX (k + 1) s (up gX 4 6 ((k : Int) + 1)) gM1 (by ((try clear nmm); (try clear mh); (try clear x2); omega)) (by ((try clear nmm); (try clear mh); (try clear x2); omega)) R1 (by ((try clear nmm); (try clear mh); (try clear x2); omega)) d1
        have u1' : Parser_readEither nX ((d : Int) + 1) (up gX 4 6 ((k : Int) + 1)) = some (0, rX1) := u1
        have xh2 : Parser_readOne_b (Parser_readEither nX) o 1 d m gX = (Parser_demand 41 rX1 >>= fun r17 => Parser_readOne_b (Parser_readEither nX) o 3 d o r17.2) := by
          rw [xh, x2, if_pos c2, nw_1, if_neg (by decide), openX_s d8, e1, sb, sb, u1', sb]
          cases Parser_demand 41 rX1 with
          | none => rfl
          | some r => rfl
        have mh : M_one (f + 1) gM = (if nw rM1.1 = 0 then some (0, rM1.2) else (M_need 141 rM1.2 >>= fun r28 => (if nw r28.1 = 0 then some (0, r28.2) else (some (up r28.2 117 45 (r28.2 117 45 - 1)) >>= fun g31 => some (1, g31))))) := by
          rw [hM]
          unfold M_one_s
          rw [hm, nm, if_neg t6, if_pos t40, opens_s h45 d8, e2, sb, sb, nw_1, if_neg (by decide), u2, sb]
        rcases ur with ⟨ok, k1, s1, A1⟩ | bad
        · obtain ⟨rX2, rM2, v1, v2, vr⟩ := need_rel O A1 (c := 41) (c' := 141) (by ((try clear nmm); (try clear mh); (try clear x2); omega)) (by ((try clear nmm); (try clear mh); (try clear x2); omega)) (by ((try clear nmm); (try clear mh); (try clear x2); omega))
          rcases vr with ⟨ok2, k2, s2, A2⟩ | bad
          · obtain ⟨A3, hx⟩ := A2.opened f1' h45
            have dd : rM2.2 117 45 = ((d + 1 : Nat) : Int) := by rw [A2.2.2.1]; exact d1
            refine Or.inr ⟨rX2, up rM2.2 117 45 (d : Int), 0, s2, k2, s2, ?_, ?_, A3.2.2.2.2.1.2.2.2.1, rfl, by ((try clear nmm); (try clear mh); (try clear x2); omega), ?_⟩
            · rw [xh2, v1, sb]; rfl
            · rw [mh, ok, nw_1, if_neg (by decide), v2, sb, ok2, nw_1, if_neg (by decide), dd, show ((d + 1 : Nat) : Int) - 1 = (d : Int) by ((try clear nmm); (try clear mh); (try clear x2); omega), sb]
            · exact A3.to (fun q => q.mono (by ((try clear nmm); (try clear mh); (try clear x2); omega)))
          · obtain ⟨b1, b2, b3, w, p, F, b4, b5⟩ := bad
            obtain ⟨g2, q2, F2, f2⟩ := fin w p rX2 F
            refine Or.inl ⟨g2, (0, rM2.2), by rw [xh2, v1, sb]; exact q2, by rw [mh, ok, nw_1, if_neg (by decide), v2, sb, b1, nw_0, if_pos rfl], rfl, ((Fr.up (W := inR RPX) Fr.rf rfl).tr b2).tr (FR.mo f2 rfl), (FR.mo f1' rfl).tr b3, w, p, F2, b4, b5⟩
        · obtain ⟨b1, b2, b3, w, p, F, b4, b5⟩ := bad
          obtain ⟨g2, q2, F2, f2⟩ := fin w p rX1 F
          refine Or.inl ⟨g2, (0, rM1.2), by rw [xh2, xf_demand F, sb]; exact q2, by rw [mh, b1, nw_0, if_pos rfl], rfl, ((Fr.up (W := inR RPX) Fr.rf rfl).tr b2).tr (FR.mo f2 rfl), (FR.mo f1' rfl).tr b3, w, p, F2, b4, b5⟩
    · obtain ⟨rX1, rM1, u1, u2, ur⟩ := cmp_rel O R hs
      have t40 : ¬ tm = 140 := fun q => c2 (m40.mpr q)
      have xh2 : Parser_readOne_b (Parser_readEither nX) o 1 d m gX = Parser_readOne_b (Parser_readEither nX) o 3 d o rX1 := by
        rw [xh, x2, if_neg c2, nw_0, if_pos rfl, u1, sb]
      have mh : M_one (f + 1) gM = some rM1 := by
        rw [hM]
        unfold M_one_s
        rw [hm, nm, if_neg t6, if_neg t40]
        exact u2
      rcases ur with ⟨ok, k1, s1, A1⟩ | bad
      · refine Or.inr ⟨rX1, rM1.2, 0, s1, k1, s1, ?_, ?_, A1.2.2.2.2.1.2.2.2.1, rfl, by ((try clear nmm); (try clear mh); (try clear x2); omega), A1.to (fun q => q.mono (by ((try clear nmm); (try clear mh); (try clear x2); omega)))⟩
        · rw [xh2]; rfl
        · rw [mh, ← ok]
      · obtain ⟨w, p, F, ext⟩ := bad.x
        obtain ⟨g2, q2, F2, f2⟩ := fin w p rX1 F
        refine Or.inl ⟨g2, (0, rM1.2), by rw [xh2]; exact q2, by rw [mh, ← bad.1], ext g2 F2 f2⟩
