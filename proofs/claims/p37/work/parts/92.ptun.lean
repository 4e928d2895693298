/-! plain programs: a tunnel line -/
def TnR (gX gM : AG) : Prop := ∀ i : Nat, i < 15 → ∀ u : Nat, u < 2 → tnOk (gM 145 (2 * i + u)) (gM 143 (2 * (2 * i + u))) (gM 143 (2 * (2 * i + u) + 1)) (gX 37 (15 * u + i)) (gX 38 (15 * u + i)) (tb (gX 3 10) (15 * u + i))
theorem TnR.fr {W V : Reg} {gX gM gX' gM' : AG} (h : TnR gX gM) (fx : FR W gX gX') (dx : djR [(37, 0), (38, 0), (3, 11)] W = true) (fm : FR V gM gM') (dm : djR [(143, 0), (145, 0)] V = true) : TnR gX' gM' := by
  intro i hi u hu
  have cx := fx.cg dx
  have cm := fm.cg dm
  rw [cx 37 _ rfl, cx 38 _ rfl, cx 3 10 rfl, cm 143 _ rfl, cm 143 _ rfl, cm 145 _ rfl]
  exact h i hi u hu
abbrev RUX : Reg := [(4, 7), (4, 8), (4, 9), (3, 3), (29, 0), (30, 0), (37, 0), (38, 0), (3, 11)]
abbrev RUM : Reg := [(117, 39), (117, 40), (117, 41), (117, 42), (117, 43), (117, 44), (117, 37), (117, 46), (141, 0), (143, 0), (145, 0)]
theorem tun_rel {tp : Nat → Int} {L T : Nat} (O : TkOk tp L T) {k s : Nat} {gX gM : AG} (R : PRel tp L T k s gX gM) (TN : TnR gX gM) : ∃ rX rM, Parser_readTunnel gX = some (0, rX) ∧ M_aTunnel gM = some rM ∧
    ((rM.1 = 1 ∧ ∃ k', PRel tp L T k' s rX rM.2 ∧ k ≤ k' ∧ TnR rX rM.2 ∧ ∀ j, j < 2 * s → rM.2 141 j = gM 141 j) ∨ (rM.1 = 0 ∧ PFail tp L T rX rM.2)) ∧ FR RUX gX rX ∧ FR RUM gM rM.2 := by
  have hT := O.T500
  obtain ⟨y, rX1, rM1, u1, u2, ur⟩ := num_rel O (Acc.start (E := EvT) R trivial) (c := 14) (by ((try clear et3); (try clear has); (try clear xb); (try clear mb); (try clear n145); (try clear mh3); (try clear mh5); omega)) (by ((try clear et3); (try clear has); (try clear xb); (try clear mb); (try clear n145); (try clear mh3); (try clear mh5); omega))
  rcases ur with ⟨ok, hy, hy0, hy1, A1, h36⟩ | bad
  · obtain ⟨i, hi⟩ := natOf hy0
    subst hi
    have i14 : i ≤ 14 := by ((try clear et3); (try clear has); (try clear xb); (try clear mb); (try clear n145); (try clear mh3); (try clear mh5); omega)
    have R1 := A1.2.2.2.2.1
    obtain ⟨x, m, v, tk, hxx, hm, nx, nm, hv, z1, z2, pl⟩ := R1.see O
    have a2 := R1.2.1
    have a3 := R1.2.2.1
    have a9 := R1.2.2.2.2.2.2.2.2.1
    have kT : x ≠ 0 → k + 1 < T := fun h => Nat.lt_of_le_of_ne a9 (fun q => h (z2 q))
    have m105 : x = 105 ↔ m = 7 := tk_ud tk (by ((try clear et3); (try clear has); (try clear xb); (try clear mb); (try clear n145); (try clear mh3); (try clear mh5); omega)) (by ((try clear et3); (try clear has); (try clear xb); (try clear mb); (try clear n145); (try clear mh3); (try clear mh5); omega))
    have m106 : x = 106 ↔ m = 8 := tk_ud tk (by ((try clear et3); (try clear has); (try clear xb); (try clear mb); (try clear n145); (try clear mh3); (try clear mh5); omega)) (by ((try clear et3); (try clear has); (try clear xb); (try clear mb); (try clear n145); (try clear mh3); (try clear mh5); omega))
    have i105 : Parser_is 105 rX1 = some (if x = 105 then 1 else 0) := is_s a2 a3 (by ((try clear et3); (try clear has); (try clear xb); (try clear mb); (try clear n145); (try clear mh3); (try clear mh5); omega)) hxx nx nwd.1
    have i106 : Parser_is 106 rX1 = some (if x = 106 then 1 else 0) := is_s a2 a3 (by ((try clear et3); (try clear has); (try clear xb); (try clear mb); (try clear n145); (try clear mh3); (try clear mh5); omega)) hxx nx nwd.2.1
    have t1 : TnR rX1 rM1.2 := TN.fr A1.1 rfl A1.2.1 rfl
    by_cases c : x = 105 ∨ x = 106
    · obtain ⟨u, hu⟩ : ∃ u : Nat, u = if x = 105 then 0 else 1 := ⟨_, rfl⟩
      have u2' : u < 2 := by
        rw [hu]
        by_cases q : x = 105
        · rw [if_pos q]; ((try clear et3); (try clear has); (try clear xb); (try clear mb); (try clear n145); (try clear mh3); (try clear mh5); omega)
        · rw [if_neg q]; ((try clear et3); (try clear has); (try clear xb); (try clear mb); (try clear n145); (try clear mh3); (try clear mh5); omega)
      have et3 : (if nw (if x = 105 then 1 else 0) = 0 then 15 + (i : Int) else (i : Int)) = ((15 * u + i : Nat) : Int) := by
        rw [hu]
        by_cases q : x = 105
        · rw [if_pos q, if_pos q, nw_1, if_neg (by decide)]; ((try clear et3); (try clear has); (try clear xb); (try clear mb); (try clear n145); (try clear mh3); (try clear mh5); omega)
        · rw [if_neg q, if_neg q, nw_0, if_pos rfl]; ((try clear et3); (try clear has); (try clear xb); (try clear mb); (try clear n145); (try clear mh3); (try clear mh5); omega)
      have et1 : (2 * (i : Int) + if m = 7 then 0 else 1) = ((2 * i + u : Nat) : Int) := by
        rw [hu]
        by_cases q : x = 105
        · rw [if_pos q, if_pos (m105.mp q)]; ((try clear et3); (try clear has); (try clear xb); (try clear mb); (try clear n145); (try clear mh3); (try clear mh5); omega)
        · rw [if_neg q, if_neg (fun z => q (m105.mpr z))]; ((try clear et3); (try clear has); (try clear xb); (try clear mb); (try clear n145); (try clear mh3); (try clear mh5); omega)
      have xh : Parser_readTunnel gX = Parser_readTunnel_b i rX1 := by
        unfold Parser_readTunnel
        rw [u1, sb]
        dsimp only
        rw [i105, sb, i106, sb]
        by_cases q : x = 105
        · rw [if_pos q, nw_1, if_neg (by decide)]
        · rw [if_neg q, nw_0, if_pos rfl, if_pos (show x = 106 by ((try clear et3); (try clear has); (try clear xb); (try clear mb); (try clear n145); (try clear mh3); (try clear mh5); omega)), nw_1, if_neg (by decide)]
      have mh : M_aTunnel gM = M_aTunnel_b i rM1.2 := by
        unfold M_aTunnel
        rw [u2, sb, ok, nw_1, if_neg (by decide), hm, nm, ← hy]
        by_cases q : x = 105
        · rw [if_pos (m105.mp q)]
        · rw [if_neg (fun z => q (m105.mpr z)), if_pos (m106.mp (by ((try clear et3); (try clear has); (try clear xb); (try clear mb); (try clear n145); (try clear mh3); (try clear mh5); omega)))]
      have tq := t1 i (by ((try clear et3); (try clear has); (try clear xb); (try clear mb); (try clear n145); (try clear mh3); (try clear mh5); omega)) u u2'
      obtain ⟨r, hr⟩ : ∃ r, r = 15 * u + i := ⟨_, rfl⟩
      obtain ⟨q, hq⟩ : ∃ q, q = 2 * i + u := ⟨_, rfl⟩
      have r30 : r < 30 := by ((try clear et3); (try clear has); (try clear xb); (try clear mb); (try clear n145); (try clear mh3); (try clear mh5); omega)
      have q30 : q < 30 := by ((try clear et3); (try clear has); (try clear xb); (try clear mb); (try clear n145); (try clear mh3); (try clear mh5); omega)
      rw [← hr, ← hq] at tq
      have bq := bit_q (rX1 3 10) r (by ((try clear et3); (try clear has); (try clear xb); (try clear mb); (try clear n145); (try clear mh3); (try clear mh5); omega))
      have has : nw (Rules_hasTunnel_3 (r : Int) rX1) = if tb (rX1 3 10) r = true then 1 else 0 := by
        unfold Rules_hasTunnel_3
        rw [bq]
        by_cases z : tb (rX1 3 10) r = true
        · rw [if_pos z, if_neg (by decide), nw_1]
        · rw [if_neg z, if_pos rfl, nw_0]
      have xb : Parser_readTunnel_b i rX1 = (if nw (Rules_hasTunnel_3 (r : Int) rX1) = 0 then (Parser_goOn rX1 >>= fun r6 => (some (up r6.2 3 10 (orI (r6.2 3 10) (shlI 1 r))) >>= fun g8 => (Parser_numberUpTo 24 g8 >>= fun r10 => (some (up r10.2 37 r r10.1) >>= fun g13 => (Parser_numberUpTo 24 g13 >>= fun r15 => (some (up r15.2 38 r r15.1) >>= fun g17 => some ((0 : Int), g17))))))) else (Parser_fail 3 rX1 >>= fun r19 => some (0, r19.2))) := by
        unfold Parser_readTunnel_b
        rw [i105, sb, et3, ← hr, sb, nwN r (by ((try clear et3); (try clear has); (try clear xb); (try clear mb); (try clear n145); (try clear mh3); (try clear mh5); omega)), ixN r (by ((try clear et3); (try clear has); (try clear xb); (try clear mb); (try clear n145); (try clear mh3); (try clear mh5); omega))]
        have hr30 : 0 ≤ (r : Int) ∧ (r : Int) < 30 := by ((try clear et3); (try clear has); (try clear xb); (try clear mb); (try clear n145); (try clear mh3); (try clear mh5); omega)
        simp only [if_pos hr30]
      have mb : M_aTunnel_b i rM1.2 = (if nw (rM1.2 145 q) = 0 then (some (up rM1.2 145 q 1) >>= fun g5 => (M_next0 g5 >>= fun r7 => (M_hours_117_143_143 ((2 * q : Nat) : Int) ((2 * q + 1 : Nat) : Int) r7.2 >>= fun r9 => if r9.1 = 0 ∨ r9.1 = 1 then some (r9.1, r9.2) else none))) else (M_bad 3 rM1.2 >>= fun r12 => if r12.1 = 0 ∨ r12.1 = 1 then some (r12.1, r12.2) else none)) := by
        unfold M_aTunnel_b
        rw [hm, nm, sb, et1, ← hq, nwN q (by ((try clear et3); (try clear has); (try clear xb); (try clear mb); (try clear n145); (try clear mh3); (try clear mh5); omega)), ixN q (by ((try clear et3); (try clear has); (try clear xb); (try clear mb); (try clear n145); (try clear mh3); (try clear mh5); omega)), if_pos (by ((try clear et3); (try clear has); (try clear xb); (try clear mb); (try clear n145); (try clear mh3); (try clear mh5); omega))]
        have e1 : 2 * (q : Int) = ((2 * q : Nat) : Int) := by ((try clear et3); (try clear has); (try clear xb); (try clear mb); (try clear n145); (try clear mh3); (try clear mh5); omega)
        have e2 : ((2 * q : Nat) : Int) + 1 = ((2 * q + 1 : Nat) : Int) := rfl
        rw [e1, e2]
      rw [xh, mh, xb, mb, has]
      by_cases z : tb (rX1 3 10) r = true
      · obtain ⟨e1, e2, B⟩ := A1.bad O (w := 3) (by ((try clear et3); (try clear has); (try clear xb); (try clear mb); (try clear n145); (try clear mh3); (try clear mh5); omega)) (by ((try clear et3); (try clear has); (try clear xb); (try clear mb); (try clear n145); (try clear mh3); (try clear mh5); omega))
        have n145 : nw (rM1.2 145 q) = 1 := by rw [tq.1, if_pos z]; exact nw_1
        refine ⟨failX rX1 (k + 1) 3, (0, badM rM1.2 3), by rw [if_pos z, if_neg (by decide), e1, sb], by rw [n145, if_neg (by decide), e2, sb, if_pos (Or.inl rfl)], Or.inr ⟨rfl, B.2.2.2⟩, FR.mo B.2.1 rfl, FR.mo B.2.2.1 rfl⟩
      · have n145 : nw (rM1.2 145 q) = 0 := by rw [tq.1, if_neg z]; exact nw_0
        obtain ⟨m5, hm5⟩ : ∃ m5 : AG, m5 = up rM1.2 145 q 1 := ⟨_, rfl⟩
        have fm5 : FR [(145, 0)] rM1.2 m5 := by rw [hm5]; exact Fr.up Fr.rf rfl
        obtain ⟨m6, e1, e2, R2, f6⟩ := (R1.frm fm5 rfl).nx O (kT (by ((try clear et3); (try clear has); (try clear xb); (try clear mb); (try clear n145); (try clear mh3); (try clear mh5); omega)))
        obtain ⟨g8, hg8⟩ : ∃ g8 : AG, g8 = up (up rX1 4 6 (((k + 1 : Nat) : Int) + 1)) 3 10 (orI ((up rX1 4 6 (((k + 1 : Nat) : Int) + 1)) 3 10) (shlI 1 r)) := ⟨_, rfl⟩
        have f8 : FR [(3, 11)] (up rX1 4 6 (((k + 1 : Nat) : Int) + 1)) g8 := by rw [hg8]; exact Fr.up Fr.rf rfl
        obtain ⟨m7, hm7⟩ : ∃ m7 : AG, m7 = up m6 143 (2 * q) (m6 117 41) := ⟨_, rfl⟩
        have fm7 : FR [(143, 0)] m6 m7 := by rw [hm7]; exact Fr.up Fr.rf rfl
        have R3 := (R2.frx f8 rfl).frm fm7 rfl
        obtain ⟨y1, rX3, rM3, v1, v2, vr⟩ := num_rel O (Acc.start (E := EvT) R3 trivial) (c := 24) (by ((try clear et3); (try clear has); (try clear xb); (try clear mb); (try clear n145); (try clear mh3); (try clear mh5); omega)) (by ((try clear et3); (try clear has); (try clear xb); (try clear mb); (try clear n145); (try clear mh3); (try clear mh5); omega))
        have fX8 : FR RUX gX g8 := (FR.mo A1.1 rfl).tr ((Fr.up (W := inR RUX) Fr.rf rfl).tr (FR.mo f8 rfl))
        have fM7 : FR RUM gM m7 := (FR.mo A1.2.1 rfl).tr ((FR.mo fm5 rfl).tr ((FR.mo f6 rfl).tr (FR.mo fm7 rfl)))
        have c41 : m7 117 41 = m6 117 41 := fm7 117 41 rfl
        have xh3 : (Parser_goOn rX1 >>= fun r6 => (some (up r6.2 3 10 (orI (r6.2 3 10) (shlI 1 r))) >>= fun g8 => (Parser_numberUpTo 24 g8 >>= fun r10 => (some (up r10.2 37 r r10.1) >>= fun g13 => (Parser_numberUpTo 24 g13 >>= fun r15 => (some (up r15.2 38 r r15.1) >>= fun g17 => some ((0 : Int), g17))))))) = (Parser_numberUpTo 24 (up rX3 37 r y1) >>= fun r15 => (some (up r15.2 38 r r15.1) >>= fun g17 => some ((0 : Int), g17))) := by
          rw [e1, sb, sb, ← hg8, v1, sb, sb]
        have mh3 : (some (up rM1.2 145 q 1) >>= fun g5 => (M_next0 g5 >>= fun r7 => (M_hours_117_143_143 ((2 * q : Nat) : Int) ((2 * q + 1 : Nat) : Int) r7.2 >>= fun r9 => if r9.1 = 0 ∨ r9.1 = 1 then some (r9.1, r9.2) else none))) = ((if nw rM3.1 = 0 then some ((0 : Int), rM3.2) else (some (up rM3.2 143 (2 * q + 1) (rM3.2 117 41)) >>= fun g8 => (M_number 0 24 g8 >>= fun r10 => if r10.1 = 0 ∨ r10.1 = 1 then some (r10.1, r10.2) else none))) >>= fun r9 => if r9.1 = 0 ∨ r9.1 = 1 then some (r9.1, r9.2) else none) := by
          rw [sb, ← hm5, e2, sb]
          unfold M_hours_117_143_143
          dsimp only
          rw [nwN (2 * q) (by ((try clear et3); (try clear has); (try clear xb); (try clear mb); (try clear n145); (try clear mh3); (try clear mh5); omega)), ixN (2 * q) (by ((try clear et3); (try clear has); (try clear xb); (try clear mb); (try clear n145); (try clear mh3); (try clear mh5); omega)), nwN (2 * q + 1) (by ((try clear et3); (try clear has); (try clear xb); (try clear mb); (try clear n145); (try clear mh3); (try clear mh5); omega)), ixN (2 * q + 1) (by ((try clear et3); (try clear has); (try clear xb); (try clear mb); (try clear n145); (try clear mh3); (try clear mh5); omega)), if_pos (by ((try clear et3); (try clear has); (try clear xb); (try clear mb); (try clear n145); (try clear mh3); (try clear mh5); omega)), sb, ← hm7, v2, sb, if_pos (show 0 ≤ ((2 * q + 1 : Nat) : Int) ∧ ((2 * q + 1 : Nat) : Int) < 60 by ((try clear et3); (try clear has); (try clear xb); (try clear mb); (try clear n145); (try clear mh3); (try clear mh5); omega))]
        rw [if_neg z, if_pos rfl, n145, if_pos rfl, xh3, mh3]
        rcases vr with ⟨ok3, hy3, y30, y31, A3, _⟩ | bad3
        · have R4 := A3.2.2.2.2.1
          obtain ⟨g13, hg13⟩ : ∃ g13 : AG, g13 = up rX3 37 r y1 := ⟨_, rfl⟩
          have f13 : FR [(37, 0)] rX3 g13 := by rw [hg13]; exact Fr.up Fr.rf rfl
          obtain ⟨m8, hm8⟩ : ∃ m8 : AG, m8 = up rM3.2 143 (2 * q + 1) (rM3.2 117 41) := ⟨_, rfl⟩
          have fm8 : FR [(143, 0)] rM3.2 m8 := by rw [hm8]; exact Fr.up Fr.rf rfl
          have R5 := (R4.frx f13 rfl).frm fm8 rfl
          obtain ⟨y2, rX5, rM5, w1, w2, wr⟩ := num_rel O (Acc.start (E := EvT) R5 trivial) (c := 24) (by ((try clear et3); (try clear has); (try clear xb); (try clear mb); (try clear n145); (try clear mh3); (try clear mh5); omega)) (by ((try clear et3); (try clear has); (try clear xb); (try clear mb); (try clear n145); (try clear mh3); (try clear mh5); omega))
          have fX13 : FR RUX gX g13 := fX8.tr ((FR.mo A3.1 rfl).tr (FR.mo f13 rfl))
          have fM8 : FR RUM gM m8 := fM7.tr ((FR.mo A3.2.1 rfl).tr (FR.mo fm8 rfl))
          have c41b : m8 117 41 = rM3.2 117 41 := fm8 117 41 rfl
          obtain ⟨rX, hrX⟩ : ∃ rX : AG, rX = up rX5 38 r y2 := ⟨_, rfl⟩
          have frX : FR [(38, 0)] rX5 rX := by rw [hrX]; exact Fr.up Fr.rf rfl
          have xh5 : (Parser_numberUpTo 24 (up rX3 37 r y1) >>= fun r15 => (some (up r15.2 38 r r15.1) >>= fun g17 => some ((0 : Int), g17))) = some (0, rX) := by
            rw [← hg13, w1, sb, sb, hrX]
          have b01 : rM5.1 = 0 ∨ rM5.1 = 1 := by
            rcases wr with ⟨q, _⟩ | q
            · exact Or.inr q
            · exact Or.inl q.1
          have mh5 : ((if nw rM3.1 = 0 then some ((0 : Int), rM3.2) else (some (up rM3.2 143 (2 * q + 1) (rM3.2 117 41)) >>= fun g8 => (M_number 0 24 g8 >>= fun r10 => if r10.1 = 0 ∨ r10.1 = 1 then some (r10.1, r10.2) else none))) >>= fun r9 => if r9.1 = 0 ∨ r9.1 = 1 then some (r9.1, r9.2) else none) = some rM5 := by
            rw [ok3, nw_1, if_neg (by decide), sb, ← hm8, w2, sb, if_pos b01, sb]
            exact if_pos b01
          rw [xh5, mh5]
          rcases wr with ⟨ok5, hy5, y50, y51, A5, _⟩ | bad5
          · have R6 := (A5.2.2.2.2.1).frx frX rfl
            have fin : FR RUX gX rX := fX13.tr ((FR.mo A5.1 rfl).tr (FR.mo frX rfl))
            have finM : FR RUM gM rM5.2 := fM8.tr (FR.mo A5.2.1 rfl)
            refine ⟨rX, rM5, rfl, rfl, Or.inl ⟨ok5, k + 1 + 1 + 1 + 1, R6, by ((try clear et3); (try clear has); (try clear xb); (try clear mb); (try clear n145); (try clear mh3); (try clear mh5); omega), ?_, ?_⟩, fin, finM⟩
            · intro i' hi' u' hu'
              have old := t1 i' hi' u' hu'
              have x310 : rX 3 10 = orI (rX1 3 10) (shlI 1 r) := by
                rw [frX 3 10 rfl, A5.1 3 10 rfl, f13 3 10 rfl, A3.1 3 10 rfl, hg8, up_at, if_pos ⟨rfl, rfl⟩, up_at, if_neg (by ((try clear et3); (try clear has); (try clear xb); (try clear mb); (try clear n145); (try clear mh3); (try clear mh5); omega))]
              have x37 : ∀ l, rX 37 l = if l = r then y1 else rX1 37 l := fun l => by
                rw [frX 37 l rfl, A5.1 37 l rfl, hg13, up_at]
                by_cases e : l = r
                · rw [if_pos ⟨rfl, e⟩, if_pos e]
                · rw [if_neg (fun q => e q.2), if_neg e, A3.1 37 l rfl, f8 37 l rfl, up_at, if_neg (fun q => absurd q.1 (by decide))]
              have x38 : ∀ l, rX 38 l = if l = r then y2 else rX1 38 l := fun l => by
                rw [hrX, up_at]
                by_cases e : l = r
                · rw [if_pos ⟨rfl, e⟩, if_pos e]
                · rw [if_neg (fun q => e q.2), if_neg e, A5.1 38 l rfl, f13 38 l rfl, A3.1 38 l rfl, f8 38 l rfl, up_at, if_neg (fun q => absurd q.1 (by decide))]
              have x145 : ∀ l, rM5.2 145 l = if l = q then 1 else rM1.2 145 l := fun l => by
                rw [A5.2.1 145 l rfl, fm8 145 l rfl, A3.2.1 145 l rfl, fm7 145 l rfl, f6 145 l rfl, hm5, up_at]
                by_cases e : l = q
                · rw [if_pos ⟨rfl, e⟩, if_pos e]
                · rw [if_neg (fun q => e q.2), if_neg e]
              have x143 : ∀ l, rM5.2 143 l = if l = 2 * q + 1 then y2 else if l = 2 * q then y1 else rM1.2 143 l := fun l => by
                rw [A5.2.1 143 l rfl, hm8, up_at]
                by_cases e : l = 2 * q + 1
                · rw [if_pos ⟨rfl, e⟩, if_pos e, hy5, c41b]
                · rw [if_neg (fun q => e q.2), if_neg e, A3.2.1 143 l rfl, hm7, up_at]
                  by_cases e2 : l = 2 * q
                  · rw [if_pos ⟨rfl, e2⟩, if_pos e2, hy3, c41]
                  · rw [if_neg (fun q => e2 q.2), if_neg e2, f6 143 l rfl, fm5 143 l rfl]
              have etb : tb (rX 3 10) (15 * u' + i') = (tb (rX1 3 10) (15 * u' + i') || decide (15 * u' + i' = r)) := by
                rw [x310, tb_or, tb_shl1 r (by ((try clear et3); (try clear has); (try clear xb); (try clear mb); (try clear n145); (try clear mh3); (try clear mh5); omega)) (by ((try clear et3); (try clear has); (try clear xb); (try clear mb); (try clear n145); (try clear mh3); (try clear mh5); omega))]
              rw [etb, x37, x38, x145, x143, x143]
              by_cases e : u' = u ∧ i' = i
              · rw [e.1, e.2, ← hr, ← hq, if_pos rfl, if_pos rfl, if_pos rfl, if_neg (by ((try clear et3); (try clear has); (try clear xb); (try clear mb); (try clear n145); (try clear mh3); (try clear mh5); omega)), if_pos rfl, if_pos rfl, decide_eq_true rfl, Bool.or_true]
                exact ⟨rfl, fun _ => ⟨rfl, rfl⟩, fun h => absurd h (by decide), ⟨y30, y31⟩, ⟨y50, y51⟩⟩
              · rw [if_neg (show ¬ 2 * i' + u' = q by ((try clear et3); (try clear has); (try clear xb); (try clear mb); (try clear n145); (try clear mh3); (try clear mh5); omega)), if_neg (show ¬ 2 * (2 * i' + u') = 2 * q + 1 by ((try clear et3); (try clear has); (try clear xb); (try clear mb); (try clear n145); (try clear mh3); (try clear mh5); omega)), if_neg (show ¬ 2 * (2 * i' + u') = 2 * q by ((try clear et3); (try clear has); (try clear xb); (try clear mb); (try clear n145); (try clear mh3); (try clear mh5); omega)), if_neg (show ¬ 2 * (2 * i' + u') + 1 = 2 * q + 1 by ((try clear et3); (try clear has); (try clear xb); (try clear mb); (try clear n145); (try clear mh3); (try clear mh5); omega)), if_neg (show ¬ 2 * (2 * i' + u') + 1 = 2 * q by ((try clear et3); (try clear has); (try clear xb); (try clear mb); (try clear n145); (try clear mh3); (try clear mh5); omega)), if_neg (show ¬ 15 * u' + i' = r by ((try clear et3); (try clear has); (try clear xb); (try clear mb); (try clear n145); (try clear mh3); (try clear mh5); omega)), if_neg (show ¬ 15 * u' + i' = r by ((try clear et3); (try clear has); (try clear xb); (try clear mb); (try clear n145); (try clear mh3); (try clear mh5); omega)), decide_eq_false (show ¬ 15 * u' + i' = r by ((try clear et3); (try clear has); (try clear xb); (try clear mb); (try clear n145); (try clear mh3); (try clear mh5); omega)), Bool.or_false]
                exact old
            · intro j hj
              rw [A5.2.2.2.1 j hj, fm8 141 j rfl, A3.2.2.2.1 j hj, fm7 141 j rfl, f6 141 j rfl, fm5 141 j rfl, A1.2.2.2.1 j hj]
          · obtain ⟨b1, b2, b3, w, p, F, b4, b5⟩ := bad5
            obtain ⟨s', t1', t2'⟩ := F.2.2.2.2.1
            exact ⟨rX, rM5, rfl, rfl, Or.inr ⟨b1, w, p, F.fr frX rfl ⟨s', t1', by rw [frX 3 2 rfl]; exact t2'⟩, b4, b5⟩, fX13.tr ((FR.mo b2 rfl).tr (FR.mo frX rfl)), fM8.tr (FR.mo b3 rfl)⟩
        · obtain ⟨b1, b2, b3, w, p, F, b4, b5⟩ := bad3
          obtain ⟨s', t1', t2'⟩ := F.2.2.2.2.1
          obtain ⟨g13, hg13⟩ : ∃ g13 : AG, g13 = up rX3 37 r y1 := ⟨_, rfl⟩
          have f13 : FR [(37, 0)] rX3 g13 := by rw [hg13]; exact Fr.up Fr.rf rfl
          have F2 : XF tp L T w p g13 := F.fr f13 rfl ⟨s', t1', by rw [f13 3 2 rfl]; exact t2'⟩
          obtain ⟨rX, hrX⟩ : ∃ rX : AG, rX = up g13 38 r 0 := ⟨_, rfl⟩
          have frX : FR [(38, 0)] g13 rX := by rw [hrX]; exact Fr.up Fr.rf rfl
          have F3 : XF tp L T w p rX := F2.fr frX rfl ⟨s', t1', by rw [frX 3 2 rfl, f13 3 2 rfl]; exact t2'⟩
          refine ⟨rX, (0, rM3.2), by rw [← hg13, xf_num F2, sb, sb, hrX], by rw [b1, nw_0, if_pos rfl, sb, if_pos (Or.inl rfl)], Or.inr ⟨rfl, w, p, F3, b4, b5⟩, fX8.tr ((FR.mo b2 rfl).tr ((FR.mo f13 rfl).tr (FR.mo frX rfl))), fM7.tr (FR.mo b3 rfl)⟩
    · obtain ⟨e1, e2, B⟩ := A1.bad O (w := 1) (by ((try clear et3); (try clear has); (try clear xb); (try clear mb); (try clear n145); (try clear mh3); (try clear mh5); omega)) (by ((try clear et3); (try clear has); (try clear xb); (try clear mb); (try clear n145); (try clear mh3); (try clear mh5); omega))
      refine ⟨failX rX1 (k + 1) 1, (0, badM rM1.2 1), ?_, ?_, Or.inr ⟨rfl, B.2.2.2⟩, FR.mo B.2.1 rfl, FR.mo B.2.2.1 rfl⟩
      · unfold Parser_readTunnel
        rw [u1, sb]
        dsimp only
        rw [i105, sb, i106, sb, if_neg (show ¬ x = 105 by ((try clear et3); (try clear has); (try clear xb); (try clear mb); (try clear n145); (try clear mh3); (try clear mh5); omega)), nw_0, if_pos rfl, if_neg (show ¬ x = 106 by ((try clear et3); (try clear has); (try clear xb); (try clear mb); (try clear n145); (try clear mh3); (try clear mh5); omega)), nw_0, if_pos rfl, e1, sb]
      · unfold M_aTunnel
        rw [u2, sb, ok, nw_1, if_neg (by decide), hm, nm, if_neg (fun q => c (Or.inl (m105.mpr q))), if_neg (fun q => c (Or.inr (m106.mpr q))), e2, sb, if_pos (Or.inl rfl)]
  · obtain ⟨b1, b2, b3, w, p, F, b4, b5⟩ := bad
    refine ⟨rX1, (0, rM1.2), ?_, ?_, Or.inr ⟨rfl, w, p, F, b4, b5⟩, FR.mo b2 rfl, FR.mo b3 rfl⟩
    · unfold Parser_readTunnel
      rw [u1, sb]
      dsimp only
      rw [xf_is F, sb, nw_0, if_pos rfl, xf_is F, sb, nw_0, if_pos rfl, xf_fail F, sb]
    · unfold M_aTunnel
      rw [u2, sb, b1, nw_0, if_pos rfl]
