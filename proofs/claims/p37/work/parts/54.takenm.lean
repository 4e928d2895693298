/-! plain programs: calls taken, the reference -/
def MT (g : AG) (rd mi wk : Nat → Int) (pt : Nat → Nat) (N : Nat) : Prop := (∀ i : Nat, i < 15 → g 120 i = rd i) ∧ g 117 92 = N ∧ ∀ i, i < N → g 181 i = mi i ∧ g 182 i = pt i ∧ g 183 i = wk i
def MS (g : AG) (s : TS) : Prop := g 184 0 = s.1 ∧ g 184 1 = s.2.1 ∧ g 185 0 = s.2.2.1 ∧ g 185 1 = s.2.2.2.1
theorem M_drive_rd {g : AG} {rd : Nat → Int} {a b : Nat} (hr : ∀ i, i < 15 → 1 ≤ rd i ∧ rd i ≤ 99) (e : ∀ i : Nat, i < 15 → g 120 i = rd i) (ha : a ≤ 15) (hb : b ≤ 15) : M_drive a b g = some (dvF rd a b) := by
  rw [M_drive_s ha hb (fun i hi => by rw [e i hi]; exact hr i hi), dv_cg e ha hb]
theorem M_arrives_s {g : AG} {rd mi wk : Nat → Int} {pt : Nat → Nat} {N : Nat} (C : CaOk rd mi wk pt N) (X : MT g rd mi wk pt N) {s : TS} (S : MS g s) {i v : Nat} (hi : i < N) (hv : v < 2) (h : TsOk s i) : M_arrives v i g = some (arF rd mi pt s v i) := by
  obtain ⟨x1, x2, x3⟩ := X
  obtain ⟨y1, y2, y3⟩ := x3 i hi
  have c := C.2.2 i hi
  have hN := C.2.1
  obtain ⟨h1, h2, h3, h4, _⟩ := h
  obtain ⟨s1, s2, s3, s4⟩ := S
  have c1 : 0 ≤ nw (i : Int) ∧ nw (i : Int) < 12 := by rw [nw_id (by omega) (by omega)]; omega
  have c2 : 0 ≤ nw (v : Int) ∧ nw (v : Int) < 2 := by clear c1; rw [nw_id (by omega) (by omega)]; omega
  have c3 : ix (i : Int) = i := by clear c1 c2; rw [ix_id (by omega) (by omega), Int.toNat_natCast]
  have c4 : ix (v : Int) = v := by clear c1 c2 c3; rw [ix_id (by omega) (by omega), Int.toNat_natCast]
  unfold M_arrives arF
  rw [if_pos c2, if_pos c1, c3, c4, y1, y2]
  clear c1 c2 c3 c4
  have mxe : ∀ T : Int, 0 ≤ T → T ≤ 40000 → (if nw T ≤ nw (mi i) then some (mi i) else some T) = some (max (mi i) T) := by
    intro T t1 t2
    have n1 : nw T = T := nw_id (by omega) (by omega)
    have n2 : nw (mi i) = mi i := by clear n1; exact nw_id (by omega) (by omega)
    rw [n1, n2]
    clear n1 n2
    by_cases y : T ≤ mi i
    · rw [if_pos y, show max (mi i) T = mi i by omega]
    · rw [if_neg y, show max (mi i) T = T by omega]
  have hvv : v = 0 ∨ v = 1 := by omega
  rcases hvv with e | e
  · subst e
    rw [s1, s3, mxe _ (by omega) (by omega), sb, M_drive_rd C.1 x1 h1 c.2.2, sb]
    rfl
  · subst e
    rw [s2, s4, mxe _ (by omega) (by omega), sb, M_drive_rd C.1 x1 h2 c.2.2, sb]
    rfl
def tkR (rd mi : Nat → Int) (pt : Nat → Nat) (st : Nat → TS) (N : Nat) (x : Int) : Int := if 10 ≤ x then (vnF rd mi pt (st (x - 10).toNat) (x - 10).toNat : Nat) else if x = 0 then (st N).2.2.2.2.1 else if x = 1 then (st N).2.2.2.2.2.1 else (st N).2.2.2.2.2.2
theorem M_take_s {rd mi wk : Nat → Int} {pt : Nat → Nat} {N : Nat} (C : CaOk rd mi wk pt N) {st : Nat → TS} (hst : ∀ i, i < N → st (i + 1) = tsF rd mi wk pt (st i) i) {x1 x2 x3 : Int} : ∀ (n k : Nat) (g : AG), k + n = N → MT g rd mi wk pt N → MS g (st k) → TsOk (st k) k → (0 ≤ x3 ∧ x3 ≤ 2) ∨ (10 + (k : Int) ≤ x3 ∧ x3 ≤ 9 + (N : Int)) → ∃ g', M_taken_b x1 x2 x3 2 (st k).2.2.2.2.1 (st k).2.2.2.2.2.1 (st k).2.2.2.2.2.2 k g = some (tkR rd mi pt st N x3, g') ∧ FR [(184, 0), (185, 0)] g g' := by
  intro n
  induction n with
  | zero =>
    intro k g h X S T hx
    have hN := C.2.1
    have hx2 : 0 ≤ x3 ∧ x3 ≤ 2 := by omega
    clear hx
    refine ⟨g, ?_, Fr.rf⟩
    have n3 : nw x3 = x3 := nw_id (by omega) (by omega)
    rw [M_taken_b.eq_1 _ _ _ 2, if_neg (by decide), if_pos rfl, if_pos (by rw [X.2.1]; clear n3; rw [nw_id (by omega) (by omega), nw_id (by omega) (by omega)]; omega), sb, n3, show k = N by clear n3; omega]
    unfold tkR
    clear n3
    rw [if_neg (show ¬ 10 ≤ x3 by omega)]
  | succ n ih =>
    intro k g h X S T hx
    have hN := C.2.1
    have hk : k < N := by omega
    have T0 := T
    have X0 := X
    have S0 := S
    have v2 : vnF rd mi pt (st k) k < 2 := by unfold vnF; split <;> omega
    have aX1 : M_arrives 1 k g = some (arF rd mi pt (st k) 1 k) := M_arrives_s C X S hk (v := 1) (by omega) T
    have aX0 : M_arrives 0 k g = some (arF rd mi pt (st k) 0 k) := M_arrives_s C X S hk (v := 0) (by omega) T
    have av := M_arrives_s C X S hk v2 T
    have r1 := ar_rng C (v := 1) hk T
    have r0 := ar_rng C (v := 0) hk T
    have rv := ar_rng C (v := vnF rd mi pt (st k) k) hk T
    have T2 := ts_ok C hk T
    rw [← hst k hk] at T2
    have hs := hst k hk
    obtain ⟨xx1, xx2, xx3⟩ := X
    obtain ⟨y1, y2, y3⟩ := xx3 k hk
    have ck := C.2.2 k hk
    obtain ⟨s1, s2, s3, s4⟩ := S
    obtain ⟨t1, t2, t3, t4, t5, t6, t7⟩ := T
    have vE : (if nw (arF rd mi pt (st k) 0 k) ≤ nw (arF rd mi pt (st k) 1 k) then (0 : Int) else 1) = ((vnF rd mi pt (st k) k : Nat) : Int) := by
      revert hx
      intro _
      have n1 : nw (arF rd mi pt (st k) 1 k) = arF rd mi pt (st k) 1 k := nw_id (by omega) (by omega)
      have n0 : nw (arF rd mi pt (st k) 0 k) = arF rd mi pt (st k) 0 k := by clear n1; exact nw_id (by omega) (by omega)
      rw [n1, n0]
      clear n1 n0
      unfold vnF
      split <;> split <;> omega
    have c0 : ¬ nw (g 117 92) ≤ nw (k : Int) := by clear vE; rw [xx2, nw_id (by omega) (by omega), nw_id (by omega) (by omega)]; omega
    have cq : (nw x3 = nw (10 + (k : Int))) = (x3 = 10 + (k : Int)) := by clear vE c0; rw [nw_id (by omega) (by omega), nw_id (by omega) (by omega)]
    have step0 : ∀ a b c : Int, M_taken_b x1 x2 x3 2 a b c k g = _ := fun a b c => by
      rw [M_taken_b.eq_1 _ _ _ 2, if_neg (by decide), if_pos rfl, if_neg c0, aX1, sb, aX0, sb, vE, sb]
    by_cases q : x3 = 10 + (k : Int)
    · refine ⟨g, ?_, Fr.rf⟩
      rw [step0, if_pos (by rw [cq]; exact q)]
      unfold tkR
      rw [if_pos (by clear step0 cq c0 vE; omega), show (x3 - 10).toNat = k by clear step0 cq c0 vE; omega]
    · have hx2 : (0 ≤ x3 ∧ x3 ≤ 2) ∨ (10 + ((k + 1 : Nat) : Int) ≤ x3 ∧ x3 ≤ 9 + (N : Int)) := by clear step0 cq c0 vE; omega
      clear hx
      obtain ⟨gn, hgn⟩ : ∃ gn : AG, gn = up (up g 185 (vnF rd mi pt (st k) k) (arF rd mi pt (st k) (vnF rd mi pt (st k) k) k + wk k)) 184 (vnF rd mi pt (st k) k) (pt k) := ⟨_, rfl⟩
      have fn : FR [(184, 0), (185, 0)] g gn := by rw [hgn]; exact Fr.up (Fr.up Fr.rf rfl) rfl
      have Xn : MT gn rd mi wk pt N := ⟨fun i hi => by rw [fn 120 i rfl]; exact xx1 i hi, by rw [fn 117 92 rfl]; exact xx2, fun i hi => by rw [fn 181 i rfl, fn 182 i rfl, fn 183 i rfl]; exact xx3 i hi⟩
      have Sn : MS gn (st (k + 1)) := by
        rw [hs, hgn]
        clear vE av aX1 aX0 c0 cq step0 ih hgn fn Xn T2 hx2 q
        unfold tsF MS
        dsimp only
        have hvv : vnF rd mi pt (st k) k = 0 ∨ vnF rd mi pt (st k) k = 1 := by omega
        rcases hvv with e | e <;> rw [e] <;> simp [up_at, s1, s2, s3, s4]
      obtain ⟨g2, e2, f2⟩ := ih (k + 1) gn (by clear step0 cq c0 vE hx2; omega) Xn Sn T2 hx2
      refine ⟨g2, ?_, fn.tr f2⟩
      rw [show ((k + 1 : Nat) : Int) = (k : Int) + 1 from rfl, hs] at e2
      rw [← e2, step0, if_neg (by rw [cq]; exact q)]
      clear step0 cq c0 vE e2 ih hx2 aX0 aX1 Xn Sn f2 fn T2 q hs r1 r0
      have d0 : 0 ≤ nw (k : Int) ∧ nw (k : Int) < 12 := by rw [nw_id (by omega) (by omega)]; omega
      have d3 : ix (k : Int) = k := by clear d0; rw [ix_id (by omega) (by omega), Int.toNat_natCast]
      have d1 : 0 ≤ nw ((vnF rd mi pt (st k) k : Nat) : Int) ∧ nw ((vnF rd mi pt (st k) k : Nat) : Int) < 2 := by clear d0 d3; rw [nw_id (by omega) (by omega)]; omega
      have d2 : ix ((vnF rd mi pt (st k) k : Nat) : Int) = vnF rd mi pt (st k) k := by clear d0 d1 d3; rw [ix_id (by omega) (by omega), Int.toNat_natCast]
      rw [av, sb, if_pos d0, d3, y1]
      clear av d0 d3
      unfold tsF
      dsimp only
      rw [hgn]
      clear hgn
      generalize arF rd mi pt (st k) (vnF rd mi pt (st k) k) k = t at rv ⊢
      generalize vnF rd mi pt (st k) k = v at *
      have n1 : nw (t - mi k) = t - mi k := by clear d1 d2; exact nw_id (by omega) (by omega)
      have n2 : nw (st k).2.2.2.2.2.1 = (st k).2.2.2.2.2.1 := by clear d1 d2 n1; exact nw_id (by omega) (by omega)
      have mxe : ∀ G : AG, (if nw (t - mi k) ≤ nw (st k).2.2.2.2.2.1 then some ((st k).2.2.2.2.2.1, G) else some (t - mi k, G)) = some (max (st k).2.2.2.2.2.1 (t - mi k), G) := by
        intro G
        rw [n1, n2]
        clear n1 n2 d1 d2
        by_cases y : t - mi k ≤ (st k).2.2.2.2.2.1
        · rw [if_pos y, show max (st k).2.2.2.2.2.1 (t - mi k) = (st k).2.2.2.2.2.1 by omega]
        · rw [if_neg y, show max (st k).2.2.2.2.2.1 (t - mi k) = t - mi k by omega]
      rw [mxe, sb]
      dsimp only
      rw [if_pos d1, d2, sb]
      clear mxe n1 n2 d1 d2
      have z1 : (up g 185 v (t + g 183 k)) 182 k = pt k := by rw [up_at, if_neg (by omega)]; exact y2
      have z2 : (up (up g 185 v (t + g 183 k)) 184 v (pt k)) 185 v = t + wk k := by rw [up_at, if_neg (by omega), up_at, if_pos ⟨rfl, rfl⟩, y3]
      rw [z1, sb, z2, y3]
      have m1 : nw (t + wk k) = t + wk k := by clear z1 z2; exact nw_id (by omega) (by omega)
      have m2 : nw (st k).2.2.2.2.2.2 = (st k).2.2.2.2.2.2 := by clear z1 z2 m1; exact nw_id (by omega) (by omega)
      have mye : ∀ G : AG, (if nw (t + wk k) ≤ nw (st k).2.2.2.2.2.2 then some ((st k).2.2.2.2.2.2, G) else some (t + wk k, G)) = some (max (st k).2.2.2.2.2.2 (t + wk k), G) := by
        intro G
        rw [m1, m2]
        clear m1 m2 z1 z2
        by_cases y : t + wk k ≤ (st k).2.2.2.2.2.2
        · rw [if_pos y, show max (st k).2.2.2.2.2.2 (t + wk k) = (st k).2.2.2.2.2.2 by omega]
        · rw [if_neg y, show max (st k).2.2.2.2.2.2 (t + wk k) = t + wk k by omega]
      rw [mye, sb]
theorem sm_taken {x1 x2 x3 : Int} {g : AG} (h1 : I32 x1) (h2 : I32 x2) (h3 : I32 x3) (W : JWay g) (Q : JCall g) (A : JAlong g) :
    ∃ r1 r2, X_taken x1 x2 x3 g = some r1 ∧ M_taken x1 x2 x3 r1.2 = some r2 ∧ nw r1.1 = nw r2.1 ∧ FR [(108, 0), (11, 13), (11, 14), (11, 15), (112, 0), (113, 0), (114, 0), (184, 0), (185, 0)] g r2.2 ∧ JAlong r2.2 := by
  unfold I32 at *
  have eX1 := isPointX0 (x := x1) (by omega) (by omega)
  have eX2 := isPointX0 (x := x2) (by omega) (by omega)
  have eM1 := isPoint0 (x := x1) (by omega) (by omega)
  have eM2 := isPoint0 (x := x2) (by omega) (by omega)
  by_cases p1 : x1 < 0 ∨ 15 < x1
  · refine ⟨(-1, g), (-1, g), ?_, ?_, rfl, Fr.rf, A⟩
    · unfold X_taken; rw [if_pos (by rw [eX1]; exact p1)]
    · unfold M_taken; dsimp only; rw [if_pos (by rw [eM1]; exact p1)]
  by_cases p2 : x2 < 0 ∨ 15 < x2
  · refine ⟨(-1, g), (-1, g), ?_, ?_, rfl, Fr.rf, A⟩
    · unfold X_taken; rw [if_neg (by rw [eX1]; exact p1), if_pos (by rw [eX2]; exact p2)]
    · unfold M_taken; dsimp only; rw [if_neg (by rw [eM1]; exact p1), if_pos (by rw [eM2]; exact p2)]
  obtain ⟨g1, e1, f1, q1, A1⟩ := measure0 A
  obtain ⟨a, ha⟩ : ∃ a : Nat, x1 = a := ⟨x1.toNat, by omega⟩
  obtain ⟨b, hb⟩ : ∃ b : Nat, x2 = b := ⟨x2.toNat, by omega⟩
  obtain ⟨N, hN⟩ : ∃ N : Nat, g 11 5 = N := ⟨(g 11 5).toNat, by have := Q.1; omega⟩
  have C : CaOk (g 15) (g 109) (g 111) (fun i => (g 110 i).toNat) N := by
    refine ⟨fun i hi => ?_, by have := Q.1; omega, fun i hi => ?_⟩
    · have := W i hi; omega
    · have := Q.2 i (by omega)
      exact ⟨by omega, by omega, by dsimp only; omega⟩
  obtain ⟨st, st0, hst'⟩ : ∃ st : Nat → TS, st 0 = (a, b, 0, 0, 0, 0, 0) ∧ ∀ i, st (i + 1) = tsF (g 15) (g 109) (g 111) (fun i => (g 110 i).toNat) (st i) i :=
    ⟨fun n => Nat.rec (a, b, 0, 0, 0, 0, 0) (fun i s => tsF (g 15) (g 109) (g 111) (fun i => (g 110 i).toNat) s i) n, rfl, fun i => rfl⟩
  have hst : ∀ i, i < N → st (i + 1) = tsF (g 15) (g 109) (g 111) (fun i => (g 110 i).toNat) (st i) i := fun i _ => hst' i
  have T0 : TsOk (st 0) 0 := by
    rw [st0]
    unfold TsOk
    dsimp only
    omega
  obtain ⟨gi, hgi⟩ : ∃ gi : AG, gi = up (up (up (fillG (up (up g1 113 (ix 0) x1) 113 (ix 1) x2) 114 2 0) 11 12 0) 11 13 0) 11 14 0 := ⟨_, rfl⟩
  have fi : FR [(11, 13), (11, 14), (11, 15), (112, 0), (113, 0), (114, 0)] g1 gi := by
    rw [hgi]
    exact Fr.up (Fr.up (Fr.up (Fr.fill (Fr.up (Fr.up Fr.rf rfl) rfl) (fun _ => rfl)) rfl) rfl) rfl
  have Xi : XT gi (g 15) (g 109) (g 111) (fun i => (g 110 i).toNat) N := by
    refine ⟨fun i hi => by rw [fi 108 i rfl]; exact q1 i hi, by rw [fi 11 5 rfl, f1 11 5 rfl]; exact hN, fun i hi => ?_⟩
    have := Q.2 i (by omega)
    refine ⟨by rw [fi 109 i rfl, f1 109 i rfl], by rw [fi 110 i rfl, f1 110 i rfl]; dsimp only; omega, by rw [fi 111 i rfl, f1 111 i rfl]⟩
  have ix0 : ix 0 = 0 := by rw [ix_id (by decide) (by decide)]; rfl
  have ix1 : ix 1 = 1 := by rw [ix_id (by decide) (by decide)]; rfl
  have Si : XS gi (st 0) := by
    rw [st0, hgi, ix0, ix1]
    unfold XS
    dsimp only
    simp [up_at, fill_at, ha, hb]
  obtain ⟨g2, e2, f2, S2, _, k2⟩ := X_take_s C hst N 0 gi (by omega) Xi Si T0
  have fX : FR [(108, 0), (11, 13), (11, 14), (11, 15), (112, 0), (113, 0), (114, 0), (184, 0), (185, 0)] g g2 := (FR.mo f1 rfl).tr (FR.mo (fi.tr f2) rfl)
  have A2 : JAlong g2 := by show g2 108 0 = 0; rw [f2 108 0 rfl, fi 108 0 rfl]; exact A1
  have xE : X_taken x1 x2 x3 g = (if nw x3 = 0 then some ((g2 11 12), g2) else (if nw x3 = 1 then some ((g2 11 13), g2) else (if nw x3 = 2 then some ((g2 11 14), g2) else (Vans_takerOf x3 g2 >>= fun r10 => some (r10, g2))))) := by
    unfold X_taken Vans_takeCalls
    have e2' : Vans_takeCalls_b 0 gi = some (0, g2) := e2
    rw [if_neg (by rw [eX1]; exact p1), if_neg (by rw [eX2]; exact p2), e1, sb, sb, sb, sb, sb, sb, sb, ← hgi, e2', sb]
  have n5 : g2 11 5 = N := by rw [f2 11 5 rfl, fi 11 5 rfl, f1 11 5 rfl]; exact hN
  have eT : (nw (X_within (x3 - 10) 0 ((g2 11 5) - 1)) = 0) = (x3 < 10 ∨ 9 + (N : Int) < x3) := by
    rw [n5]
    have c := C.2.1
    unfold X_within
    rw [nw_0, nw_id (a := (N : Int) - 1) (by omega) (by omega)]
    have wr : nw (x3 - 10) = if x3 < -2147483638 then x3 - 10 + 4294967296 else x3 - 10 := by
      by_cases z : x3 < -2147483638
      · rw [if_pos z, nw_iff.2 (show (x3 - 10 - (x3 - 10 + 4294967296)) % 4294967296 = 0 by omega), nw_id (by omega) (by omega)]
      · rw [if_neg z, nw_id (by omega) (by omega)]
    rw [wr]
    clear wr eX1 eX2 eM1 eM2
    by_cases z : x3 < -2147483638
    · rw [if_pos z, if_neg (by omega), if_pos (by omega), nw_0]; simp; omega
    · rw [if_neg z]
      by_cases z1 : x3 - 10 < 0
      · rw [if_pos z1, nw_0]; simp; omega
      · rw [if_neg z1]
        by_cases z2 : (N : Int) - 1 < x3 - 10
        · rw [if_pos z2, nw_0]; simp; omega
        · rw [if_neg z2, nw_1]; simp; omega
  have eI0 : (nw (M_isIn x3 0 2) = 0) = (x3 < 0 ∨ 2 < x3) := isIn0 (by omega) (by omega) (by decide) (by decide) (by decide) (by decide)
  have m5 : g2 117 92 = N := by rw [fX 117 92 rfl, Q.1.1]; exact hN
  have eI1 : (nw (M_isIn x3 10 (9 + (g2 117 92))) = 0) = (x3 < 10 ∨ 9 + (N : Int) < x3) := by
    have c := C.2.1
    rw [m5]
    exact isIn0 (by omega) (by omega) (by decide) (by decide) (by omega) (by omega)
  by_cases ok : (0 ≤ x3 ∧ x3 ≤ 2) ∨ (10 + ((0 : Nat) : Int) ≤ x3 ∧ x3 ≤ 9 + (N : Int))
  · obtain ⟨gm, hgm⟩ : ∃ gm : AG, gm = up (up (up (up g2 184 (ix 0) x1) 184 (ix 1) x2) 185 (ix 0) 0) 185 (ix 1) 0 := ⟨_, rfl⟩
    have fm : FR [(184, 0), (185, 0)] g2 gm := by
      rw [hgm]
      exact Fr.up (Fr.up (Fr.up (Fr.up Fr.rf rfl) rfl) rfl) rfl
    have Mi : MT gm (g 15) (g 109) (g 111) (fun i => (g 110 i).toNat) N := by
      refine ⟨fun i hi => by rw [fm 120 i rfl, fX 120 i rfl]; have := W i hi; omega, by rw [fm 117 92 rfl]; exact m5, fun i hi => ?_⟩
      have := Q.2 i (by omega)
      refine ⟨by rw [fm 181 i rfl, fX 181 i rfl]; exact this.1.1, by rw [fm 182 i rfl, fX 182 i rfl]; dsimp only; omega, by rw [fm 183 i rfl, fX 183 i rfl]; exact this.1.2.2⟩
    have Sm : MS gm (st 0) := by
      rw [st0, hgm, ix0, ix1]
      unfold MS
      dsimp only
      simp [up_at, ha, hb]
    obtain ⟨g3, e3, f3⟩ := M_take_s C hst (x1 := x1) (x2 := x2) (x3 := x3) N 0 gm (by omega) Mi Sm T0 ok
    have e3' : M_taken_b x1 x2 x3 2 0 0 0 0 gm = some (tkR (g 15) (g 109) (fun i => (g 110 i).toNat) st N x3, g3) := by
      rw [st0] at e3
      exact e3
    have fE : FR [(108, 0), (11, 13), (11, 14), (11, 15), (112, 0), (113, 0), (114, 0), (184, 0), (185, 0)] g g3 := fX.tr (FR.mo (fm.tr f3) rfl)
    have A3 : JAlong g3 := by show g3 108 0 = 0; rw [f3 108 0 rfl, fm 108 0 rfl]; exact A2
    refine ⟨(tkR (g 15) (g 109) (fun i => (g 110 i).toNat) st N x3, g2), (tkR (g 15) (g 109) (fun i => (g 110 i).toNat) st N x3, g3), ?_, ?_, rfl, fE, A3⟩
    · rw [xE]
      obtain ⟨_, _, _, _, w1, w2, w3⟩ := S2
      unfold tkR
      have n3 : nw x3 = x3 := nw_id (by omega) (by omega)
      rw [n3]
      clear n3
      by_cases z : 10 ≤ x3
      · rw [if_neg (by omega), if_neg (by omega), if_neg (by omega), if_pos z]
        unfold Vans_takerOf
        obtain ⟨j, hj⟩ : ∃ j : Nat, x3 = 10 + j := ⟨(x3 - 10).toNat, by omega⟩
        have c := C.2.1
        have jN : j < N := by omega
        have kj := k2 j (by omega) jN
        rw [if_neg (by rw [eT]; clear eT eI0 eI1 eX1 eX2 eM1 eM2; omega), hj, show (10 + (j : Int) - 10) = j by omega, Int.toNat_natCast]
        have d0 : 0 ≤ nw (j : Int) ∧ nw (j : Int) < 12 := by clear eT eI0 eI1 eX1 eX2 eM1 eM2; rw [nw_id (by omega) (by omega)]; omega
        have d1 : ix (j : Int) = j := by clear d0 eT eI0 eI1 eX1 eX2 eM1 eM2; rw [ix_id (by omega) (by omega), Int.toNat_natCast]
        rw [if_pos d0, d1, kj, sb, sb]
      · rw [if_neg z]
        by_cases z0 : x3 = 0
        · rw [if_pos z0, if_pos z0, w1]
        · rw [if_neg z0, if_neg z0]
          by_cases z1 : x3 = 1
          · rw [if_pos z1, if_pos z1, w2]
          · rw [if_neg z1, if_neg z1, if_pos (by omega), w3]
    · unfold M_taken
      dsimp only
      rw [if_neg (by rw [eM1]; exact p1), if_neg (by rw [eM2]; exact p2)]
      have mt : M_taken_b x1 x2 x3 1 0 0 0 0 g2 = some (tkR (g 15) (g 109) (fun i => (g 110 i).toNat) st N x3, g3) := by
        rw [M_taken_b.eq_1 _ _ _ 1, if_pos rfl, sb, sb, sb, sb, ← hgm, e3']
      rw [mt]
      by_cases z : 10 ≤ x3
      · rw [if_pos (by rw [eI0]; clear eT eI0 eI1 eX1 eX2 eM1 eM2; omega), if_neg (by rw [eI1]; clear eT eI0 eI1 eX1 eX2 eM1 eM2; omega)]
      · rw [if_neg (by rw [eI0]; clear eT eI0 eI1 eX1 eX2 eM1 eM2; omega)]
  · refine ⟨(-1, g2), (-1, g2), ?_, ?_, rfl, fX, A2⟩
    · rw [xE]
      have n3 : nw x3 = x3 := nw_id (by omega) (by omega)
      rw [n3]
      clear n3
      rw [if_neg (by omega), if_neg (by omega), if_neg (by omega)]
      unfold Vans_takerOf
      rw [if_pos (by rw [eT]; clear eT eI0 eI1 eX1 eX2 eM1 eM2; omega), sb, sb]
    · unfold M_taken
      dsimp only
      rw [if_neg (by rw [eM1]; exact p1), if_neg (by rw [eM2]; exact p2), if_pos (by rw [eI0]; clear eT eI0 eI1 eX1 eX2 eM1 eM2; omega), if_pos (by rw [eI1]; clear eT eI0 eI1 eX1 eX2 eM1 eM2; omega)]
