/-! plain programs: refunds -/
theorem nw_nat_ne {n : Nat} (h : (n : Int) < 100) : ¬ nw (n : Int) = -1 := by rw [nw_id (by omega) (by omega)]; omega
/-- days begun of being late, seven at most -/
def dyF (late : Int) : Int := if (late + 1439) / 1440 ≤ 7 then (late + 1439) / 1440 else 7
abbrev SCR : Reg := [(5, 7), (5, 8), (47, 0), (27, 0), (28, 0), (147, 0), (148, 0), (117, 49), (117, 101)]
theorem sm_refund {k : Nat} {g : AG} (T : JT g) (hf : JFlag g) (hk : (k : Int) < g 7 8) : ∃ v g1 g2, Trips_refund k g = some (v, g1) ∧ FR [(5, 7), (5, 8), (47, 0), (27, 0), (28, 0)] g g1 ∧ M_refund k g1 = some (v, g2) ∧ FR [(147, 0), (148, 0), (117, 49), (117, 101)] g1 g2 := by
  obtain ⟨b, a, c, e1, e2, e3, e4, e5, e6, e7, e8, hb, hb2, ha, hc, ht, hd, hta, hr, hk20⟩ := T.row hk
  have T0 := T
  obtain ⟨V, ⟨hBR, bv, bs⟩, Tr⟩ := T
  have lr := ltM_rng T0 hk
  have vb := bv b hb
  obtain ⟨g1, r1, f1⟩ := X_lateBy_s (k := k) (hd := 1) T0 hk (Or.inr rfl)
  rw [if_pos rfl] at r1
  have T1 := T0.fr f1 rfl rfl rfl
  -- the reference, from a state that differs by the class's scratch
  have refL : ∀ G : AG, FR [(5, 7), (5, 8), (47, 0), (27, 0), (28, 0)] g G → ∃ G', M_lateOf k G = some (ltM g k, G') ∧ FR WM G G' := by
    intro G f
    obtain ⟨G', q1, q2⟩ := M_lateOf_s (k := k) (T0.fr f rfl rfl rfl) (by unfold JFlag; rw [f 117 47 rfl]; exact hf) (by rw [f 7 8 rfl]; exact hk)
    rw [ltM_fr f rfl rfl] at q1
    exact ⟨G', q1, q2⟩
  have k2 : 0 ≤ nw (k : Int) ∧ nw (k : Int) < 20 := by rw [nw_id (by omega) (by omega)]; omega
  have k3 : ix (k : Int) = k := by clear k2; rw [ix_id (by omega) (by omega), Int.toNat_natCast]
  by_cases z : ltM g k = 0
  · obtain ⟨G', q1, q2⟩ := refL g1 (f1.mo rfl)
    rw [z] at r1 q1
    refine ⟨0, g1, G', ?_, f1.mo rfl, ?_, q2.mo rfl⟩
    · unfold Trips_refund
      rw [r1, sb, nw_0, if_pos rfl]
    · unfold M_refund
      rw [q1, sb, nw_0, if_pos rfl]
  · have zl : ¬ nw (ltM g k) = 0 := by clear k2 k3; rw [nw_id (by omega) (by omega)]; exact z
    -- away, week
    have aw01 : (if a = c then (0 : Int) else 1) = 0 ∨ (if a = c then (0 : Int) else 1) = 1 := by split <;> simp
    have wk9 : 0 ≤ g 79 k / 1440 / 7 ∧ g 79 k / 1440 / 7 ≤ 9 := by clear k2 k3 zl; omega
    have awE : (if nw (a : Int) = nw (c : Int) then (0 : Int) else 1) = (if a = c then (0 : Int) else 1) := by
      have n1 : nw (a : Int) = a := by clear k2 k3 zl; exact nw_id (by omega) (by omega)
      have n2 : nw (c : Int) = c := by clear k2 k3 zl n1; exact nw_id (by omega) (by omega)
      rw [n1, n2]
      clear n1 n2 k2 k3 zl
      split <;> split <;> omega
    have wkE : (nw ((nw (g 79 k)).tdiv 1440)).tdiv 7 = g 79 k / 1440 / 7 := by
      clear k2 k3 zl
      rw [nw_id (a := g 79 k) (by omega) (by omega), tdE (a := g 79 k) (by omega), nw_id (a := g 79 k / 1440) (by omega) (by omega), tdE (a := g 79 k / 1440) (by omega)]
    have dyM : (if nw ((nw (ltM g k + 1439)).tdiv 1440) ≤ 7 then (nw (ltM g k + 1439)).tdiv 1440 else 7) = dyF (ltM g k) := by
      clear k2 k3 zl awE wkE
      generalize ltM g k = L at lr ⊢
      unfold dyF
      rw [nw_id (a := L + 1439) (by omega) (by omega), tdE (a := L + 1439) (by omega), nw_id (a := (L + 1439) / 1440) (by omega) (by omega)]
    have dyX : mnI 7 ((nw (ltM g k + 1440 - 1)).tdiv 1440) = dyF (ltM g k) := by
      clear k2 k3 zl awE wkE dyM
      generalize ltM g k = L at lr ⊢
      unfold dyF
      rw [nw_id (a := L + 1440 - 1) (by omega) (by omega), tdE (a := L + 1440 - 1) (by omega), mnI_s (by decide) (by decide) (by omega) (by omega), show L + 1440 - 1 = L + 1439 by omega]
      split <;> omega
    have hBR1 : JBoR g1 := T1.2.1.1
    obtain ⟨g2, r2, f2, a2⟩ := X_priceLine_s (b := b) (wk := g 79 k / 1440 / 7) (aw := if a = c then 0 else 1) (g := g1) hb aw01 T1.1.2.1
    rw [f1 48 b rfl, f1 49 b rfl] at r2 a2
    have s1 : ∀ W' : Reg, ∀ G : AG, FR W' g G → djR [(2, 4), (128, 0), (132, 0), (133, 0), (134, 0)] W' = true → ∀ fc, srvG G fc 2 (G 2 3).toNat 0 = srvG g fc 2 (g 2 3).toNat 0 := by
      intro W' G f d fc
      have q := f.cg d
      unfold srvG
      rw [q 2 3 rfl, funext fun i => q 128 i rfl, funext fun i => q 132 i rfl, funext fun i => q 133 i rfl, funext fun i => q 134 i rfl]
    rw [s1 _ g1 f1 rfl] at r2
    have preX : ∀ (l : Int) (G : AG), Boats_priceLine b (g 79 k / 1440 / 7) (if a = c then 0 else 1) g1 = some (l, G) → Trips_refund k g = (if nw l = -1 then some (-1000000, G) else Rules_valueOf l G >>= fun r10 => some ((nl (nw r10.1 * nw (dyF (ltM g k)))).tdiv 7, r10.2)) := by
      intro l G hl
      have p1 : g1 77 k = a := by rw [f1 77 k rfl]; exact e2
      have p2 : g1 78 k = c := by rw [f1 78 k rfl]; exact e3
      have p3 : g1 76 k = b := by rw [f1 76 k rfl]; exact e1
      have p4 : g1 79 k = g 79 k := f1 79 k rfl
      unfold Trips_refund
      rw [r1, sb, if_neg zl, if_pos k2, k3]
      have hT : (if nw (g1 77 k) = nw (g1 78 k) then (0 : Int) else 1) = (if a = c then (0 : Int) else 1) := by rw [← awE, ← p1, ← p2]
      dsimp only
      rw [hT, sb, p3, p4, wkE, hl, sb]
      dsimp only
      rw [dyX]
    have preM : ∀ (G G1 : AG), FR [(5, 7), (5, 8), (47, 0), (27, 0), (28, 0)] g G → M_lateOf k G = some (ltM g k, G1) → FR WM G G1 → M_refund k G = (M_price b (g 79 k / 1440 / 7) (if a = c then 0 else 1) G1 >>= fun r7 => (if nw (r7.2 117 100) = 0 then some (-1000000, r7.2) else some (dyF (ltM g k)) >>= fun t10 => some ((nl (nw r7.1 * nw t10)).tdiv 7, r7.2)) >>= fun r13 => some (r13.1, r13.2)) := by
      intro G G1 fG hG fG1
      have p1 : G1 150 k = a := by rw [fG1 150 k rfl, fG 150 k rfl]; exact e5
      have p2 : G1 151 k = c := by rw [fG1 151 k rfl, fG 151 k rfl]; exact e6
      have p3 : G1 149 k = b := by rw [fG1 149 k rfl, fG 149 k rfl]; exact e4
      have p4 : G1 152 k = g 79 k := by rw [fG1 152 k rfl, fG 152 k rfl]; exact e7
      unfold M_refund
      rw [hG, sb, if_neg zl, if_pos k2, k3]
      have hT : (if nw (G1 150 k) = nw (G1 151 k) then (0 : Int) else 1) = (if a = c then (0 : Int) else 1) := by rw [← awE, ← p1, ← p2]
      dsimp only
      rw [hT, sb, p3, p4, wkE, dyM]
    have prM : ∀ (G G1 : AG), FR [(5, 7), (5, 8), (47, 0), (27, 0), (28, 0)] g G → FR WM G G1 → _ := fun (G G1 : AG) fG fG1 => M_price_s (b := b) (wk := g 79 k / 1440 / 7) (aw := if a = c then 0 else 1) (g := G1) (by
      have f : FR [(5, 7), (5, 8), (47, 0), (27, 0), (28, 0), (147, 0), (148, 0), (117, 49)] g G1 := (fG.mo rfl).tr (fG1.mo rfl)
      rw [f 6 7 rfl]; exact hb2) (by
      have f : FR [(5, 7), (5, 8), (47, 0), (27, 0), (28, 0), (147, 0), (148, 0), (117, 49)] g G1 := (fG.mo rfl).tr (fG1.mo rfl)
      unfold JBoR
      rw [f 6 7 rfl, f 117 12 rfl]; exact hBR) wk9 aw01 (by
      have f : FR [(5, 7), (5, 8), (47, 0), (27, 0), (28, 0), (147, 0), (148, 0), (117, 49)] g G1 := (fG.mo rfl).tr (fG1.mo rfl)
      exact V.2.1.cg (f.cg rfl))
    have prE : ∀ (G G1 : AG), FR [(5, 7), (5, 8), (47, 0), (27, 0), (28, 0)] g G → FR WM G G1 → G1 124 b = g 48 b ∧ G1 125 b = g 49 b ∧ G1 2 3 = g 2 3 ∧ G1 128 = g 128 ∧ G1 131 = g 131 ∧ G1 132 = g 132 ∧ G1 134 = g 134 ∧ (∀ fc, srvG G1 fc 2 (G1 2 3).toNat 0 = srvG g fc 2 (g 2 3).toNat 0) := by
      intro G G1 fG fG1
      have f : FR [(5, 7), (5, 8), (47, 0), (27, 0), (28, 0), (147, 0), (148, 0), (117, 49)] g G1 := (fG.mo rfl).tr (fG1.mo rfl)
      exact ⟨by rw [f 124 b rfl]; exact vb.1, by rw [f 125 b rfl]; exact vb.2.1, f 2 3 rfl, f.cell (fun _ => rfl), f.cell (fun _ => rfl), f.cell (fun _ => rfl), f.cell (fun _ => rfl), s1 _ G1 f rfl⟩
    by_cases y : srvG g (fcPrice (g 79 k / 1440 / 7) (g 48 b) (if a = c then 0 else 1) (g 49 b)) 2 (g 2 3).toNat 0 = -1
    · have fT : FR [(5, 7), (5, 8), (47, 0), (27, 0), (28, 0)] g g2 := (f1.mo rfl).tr (f2.mo rfl)
      obtain ⟨G1, q1, q2⟩ := refL g2 fT
      have pe := prE g2 G1 fT q2
      have pm := (prM g2 G1 fT q2).1
      rw [pe.1, pe.2.1, pe.2.2.2.2.2.2.2] at pm
      obtain ⟨G2, q3, q4, q5⟩ := pm y
      refine ⟨-1000000, g2, G2, ?_, fT, ?_, (q2.mo rfl).tr (q4.mo rfl)⟩
      · rw [y] at r2
        rw [preX _ _ r2, nw_m1, if_pos rfl]
      · rw [preM g2 G1 fT q1 q2, q3, sb]
        dsimp only
        rw [if_pos (by rw [q5, nw_0]), sb]
    · -- the line l serves
      obtain ⟨Ga, qa1, qa2⟩ := refL g Fr.rf
      have pea := prE g Ga Fr.rf qa2
      have pma := (prM g Ga Fr.rf qa2).2
      rw [pea.1, pea.2.1, pea.2.2.2.2.2.2.2, pea.2.2.1, pea.2.2.2.1, pea.2.2.2.2.1, pea.2.2.2.2.2.1, pea.2.2.2.2.2.2.1] at pma
      obtain ⟨l, v, _, w1, w2, w3, w4, _, _, _⟩ := pma y
      rw [w1] at r2
      have f12 : FR [(5, 7), (5, 8), (47, 0), (27, 0), (28, 0)] g g2 := (f1.mo rfl).tr (f2.mo rfl)
      obtain ⟨v', g3, r3, f3, hv'⟩ := (V.2.1.xrel.fr f12 rfl).val (fc := fcPrice (g 79 k / 1440 / 7) (g 48 b) (if a = c then 0 else 1) (g 49 b)) a2 (l := l) (by rw [f12 2 3 rfl]; exact w2) (by rw [w3]; exact Int.le_refl _)
      rw [w4] at hv'
      have hvv : v' = v := by
        have := Option.some.inj hv'
        simp at this
        exact this.symm
      subst hvv
      have fT : FR [(5, 7), (5, 8), (47, 0), (27, 0), (28, 0)] g g3 := f12.tr (f3.mo rfl)
      obtain ⟨G1, q1, q2⟩ := refL g3 fT
      have pe := prE g3 G1 fT q2
      have pm := (prM g3 G1 fT q2).2
      rw [pe.1, pe.2.1, pe.2.2.2.2.2.2.2, pe.2.2.1, pe.2.2.2.1, pe.2.2.2.2.1, pe.2.2.2.2.2.1, pe.2.2.2.2.2.2.1] at pm
      obtain ⟨l2, v2, G2, u1, u2, u3, u4, q3, q4, q5⟩ := pm y
      have hl : l2 = l := by
        rw [w1] at u1
        exact (Int.ofNat.inj u1).symm
      subst hl
      rw [w4] at u4
      have hv2 : v2 = v' := by
        have := Option.some.inj u4
        simp at this
        exact this.symm
      subst hv2
      refine ⟨(nl (nw v2 * nw (dyF (ltM g k)))).tdiv 7, g3, G2, ?_, fT, ?_, (q2.mo rfl).tr (q4.mo rfl)⟩
      · have n1 : ¬ nw (l2 : Int) = -1 := nw_nat_ne (Int.lt_of_lt_of_le w2 (Int.le_trans V.2.1.1.2.2 (by decide)))
        rw [preX _ _ r2, if_neg n1, r3, sb]
      · rw [preM g3 G1 fT q1 q2, q3, sb]
        dsimp only
        rw [if_neg (by rw [q5, nw_1]; decide), sb, sb]
theorem sm_back {x1 x2 : Int} {g : AG} (h1 : I32 x1) (h2 : I32 x2) (T : JT g) (hf : JFlag g) :
    ∃ r1 r2, X_back x1 x2 g = some r1 ∧ M_back x1 x2 r1.2 = some r2 ∧ nw r1.1 = nw r2.1 ∧ FR SCR g r2.2 := by
  unfold I32 at *
  have t1 := T.2.2.1
  by_cases h : 0 ≤ x1 ∧ x1 < g 7 8
  · obtain ⟨k, rfl⟩ := natOf h.1
    by_cases e0 : x2 = 0
    · subst e0
      obtain ⟨v, g1, g2, r1, f1, r2, f2⟩ := sm_turning T hf (k := k) (by omega)
      have q2 : g1 117 49 = g 7 8 := by rw [f1 117 49 rfl]; exact t1.1
      refine ⟨(v, g1), (v, g2), ?_, ?_, rfl, (f1.mo rfl).tr (f2.mo rfl)⟩
      · unfold X_back
        simp (disch := omega) only [nw_id, ix_id, sb, if_true, if_false, if_pos, if_neg, true_and, and_true, false_and, and_false, and_self, within0, r1]
      · unfold M_back
        simp (disch := omega) only [nw_id, ix_id, sb, if_true, if_false, if_pos, if_neg, true_and, and_true, false_and, and_false, and_self, isIn0, q2, r2]
    · by_cases e1 : x2 = 1
      · subst e1
        obtain ⟨v, g1, g2, r1, f1, r2, f2⟩ := sm_refund T hf (k := k) (by omega)
        have q2 : g1 117 49 = g 7 8 := by rw [f1 117 49 rfl]; exact t1.1
        refine ⟨(v, g1), (v, g2), ?_, ?_, rfl, (f1.mo rfl).tr (f2.mo rfl)⟩
        · unfold X_back
          simp (disch := omega) only [nw_id, ix_id, sb, if_true, if_false, if_pos, if_neg, true_and, and_true, false_and, and_false, and_self, within0, r1]
        · unfold M_back
          simp (disch := omega) only [nw_id, ix_id, sb, if_true, if_false, if_pos, if_neg, true_and, and_true, false_and, and_false, and_self, isIn0, q2, r2]
      · refine ⟨(-1000000, g), (-1000000, g), ?_, ?_, rfl, Fr.rf⟩
        · unfold X_back
          simp (disch := omega) only [nw_id, ix_id, sb, if_true, if_false, if_pos, if_neg, true_and, and_true, false_and, and_false, and_self, within0]
        · unfold M_back
          simp (disch := omega) only [nw_id, ix_id, sb, if_true, if_false, if_pos, if_neg, true_and, and_true, false_and, and_false, and_self, isIn0, t1.1]
  · refine ⟨(-1000000, g), (-1000000, g), ?_, ?_, rfl, Fr.rf⟩
    · unfold X_back
      simp (disch := omega) only [nw_id, ix_id, sb, if_true, if_false, if_pos, if_neg, true_and, and_true, false_and, and_false, and_self, within0]
    · unfold M_back
      simp (disch := omega) only [nw_id, ix_id, sb, if_true, if_false, if_pos, if_neg, true_and, and_true, false_and, and_false, and_self, isIn0, t1.1]
