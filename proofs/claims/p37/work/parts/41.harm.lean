/-! plain programs: harm -/
theorem FR.drop {R : Reg} {g g' : AG} {k0 i0 : Nat} (h : FR ((k0, i0 + 1) :: R) g g') (e : g' k0 i0 = g k0 i0) : FR R g g' := by
  intro k i q
  by_cases c : k0 = k ∧ i0 = i
  · rw [← c.1, ← c.2]; exact e
  · refine h k i ?_
    show (inP (k0, i0 + 1) k i || inR R k i) = false
    rw [q, Bool.or_false]
    cases z : inP (k0, i0 + 1) k i with
    | false => rfl
    | true =>
      exfalso
      unfold inP at z
      simp only [Bool.and_eq_true, Bool.or_eq_true, Nat.beq_eq] at z
      omega
theorem FR.dropC {R : Reg} {g g' : AG} {k0 : Nat} (h : FR ((k0, 0) :: R) g g') (e : g' k0 = g k0) : FR R g g' := by
  intro k i q
  by_cases c : k0 = k
  · rw [← c, e]
  · refine h k i ?_
    show (inP (k0, 0) k i || inR R k i) = false
    rw [q, Bool.or_false]
    cases z : inP (k0, 0) k i with
    | false => rfl
    | true =>
      exfalso
      unfold inP at z
      simp only [Bool.and_eq_true, Nat.beq_eq] at z
      omega
theorem clamp_eq (v : Int) : nw (mxI 0 (mnI 999 v)) = nw (clF v) := by
  have hv := nwb v
  have e9 : nw 999 = 999 := nw_id (by decide) (by decide)
  unfold mnI clF
  rw [e9]
  by_cases a : nw v < 999
  · rw [if_pos a]
    unfold mxI
    rw [nw_0]
    by_cases b : 0 < nw v
    · rw [if_pos b, if_pos (by omega), if_pos (by omega)]
    · rw [if_neg b]
      by_cases c : 0 ≤ nw v
      · rw [if_pos c, if_pos (by omega)]
        rw [nw_0]; omega
      · rw [if_neg c]
  · rw [if_neg a]
    unfold mxI
    rw [nw_0, e9, if_pos (by omega), if_pos (by omega)]
    by_cases c : nw v ≤ 999
    · rw [if_pos c, e9]; omega
    · rw [if_neg c]
theorem X_harmOfLock_s {b d : Nat} {g : AG} (hb : b < 10) (hd : d < 14) (J : JRule g) (hV : JBoV g) (hW : JWat g) : ∃ v g', Boats_harmOfLock b d g = some (v, g') ∧ FR [(27, 0), (28, 0)] g g' ∧ nw v = nw (hwF g b d) := by
  have V := hV b hb
  obtain ⟨g1, e1, f1, a1⟩ := Rules_askDay_s (day := (d : Int)) (w := g 1 5) (g := g) (by omega) (by omega)
  have f2 : FR [(27, 0)] g (up (up (up g1 27 3 (g 48 b)) 27 5 (g 49 b)) 27 8 (g 51 b)) := Fr.up (Fr.up (Fr.up f1 rfl) rfl) rfl
  have a2 : ∀ s : Nat, 1 ≤ s → s < 10 → (up (up (up g1 27 3 (g 48 b)) 27 5 (g 49 b)) 27 8 (g 51 b)) 27 (s - 1) = fcHarm d (g 117 10) (g 124 b) (g 125 b) (g 127 b) s := by
    intro s hs hs2
    have h1 := a1 s hs hs2
    rw [V.1, V.2.1, V.2.2.2, hW.1]
    unfold fcHarm
    unfold fcDay at h1
    simp only [up_at, true_and, h1]
    ((repeat' split) <;> first | rfl | omega)
  obtain ⟨g2, e2, f3⟩ := X_serving_s (sort := 4) (x := 104) (by omega) (by omega) ((J.xrel).fr f2 rfl) a2
  rw [f2 2 3 rfl] at e2
  have fT : FR [(27, 0), (28, 0)] g g2 := (f2.mo rfl).tr (f3.mo rfl)
  have a3 : ∀ s : Nat, 1 ≤ s → s < 10 → g2 27 (s - 1) = fcHarm d (g 117 10) (g 124 b) (g 125 b) (g 127 b) s := by
    intro s hs hs2
    rw [f3 27 (s - 1) rfl]
    exact a2 s hs hs2
  have c0 : g1 48 b = g 48 b := f1 48 b rfl
  have c1 : g1 49 b = g 49 b := f1 49 b rfl
  have c2 : g1 51 b = g 51 b := f1 51 b rfl
  have pre : ∀ r, Boats_harmOfLock b d g = r ↔ ((Rules_serving 104 (up (up (up g1 27 3 (g 48 b)) 27 5 (g 49 b)) 27 8 (g 51 b))) >>= fun r10 => (if nw r10.1 = -1 then some (0, r10.2) else (Rules_valueOf r10.1 r10.2 >>= fun r13 => some (mxI 0 (mnI 999 r13.1), r13.2))) >>= fun r15 => some (r15.1, r15.2)) = r := by
    intro r
    unfold Boats_harmOfLock
    have c9 : 0 ≤ nw (b : Int) ∧ nw (b : Int) < 10 := by rw [nw_id (by omega) (by omega)]; omega
    have c8 : ix (b : Int) = b := by clear c9; rw [ix_id (by omega) (by omega), Int.toNat_natCast]
    rw [e1, sb, if_pos c9, c8, ix_lits.2.2.2.1, ix_lits.2.2.2.2.2.1, ix_lits.2.2.2.2.2.2.2.2.1]
    dsimp only
    rw [c0, sb, show (up g1 27 3 (g 48 b)) 49 b = g 49 b by simp [up_at, c1], sb, show (up (up g1 27 3 (g 48 b)) 27 5 (g 49 b)) 51 b = g 51 b by simp [up_at, c2], sb]
  have J0 := J.1
  have hr := srvF_rng (kd := g 128) (md := g 132) (en := g 133) (cd := g 134) (fc := fcHarm d (g 117 10) (g 124 b) (g 125 b) (g 127 b)) (sort := 4) (g 2 3).toNat 0
  unfold hwF srvG
  generalize srvF (g 128) (g 132) (g 133) (g 134) (fcHarm d (g 117 10) (g 124 b) (g 125 b) (g 127 b)) 4 (g 2 3).toNat 0 = s at hr e2 ⊢
  by_cases e : s = -1
  · subst e
    refine ⟨0, g2, ?_, fT, ?_⟩
    · rw [pre, e2, sb, nw_m1]
      rfl
    · rw [if_pos rfl]
      unfold clF
      simp [nw_0]
  · have hr2 : 0 ≤ s ∧ s < g 2 3 ∧ g 128 s.toNat = 4 := by
      rcases hr with hr | ⟨a, b, c⟩
      · exact absurd hr e
      · exact ⟨by omega, by omega, c⟩
    clear hr
    obtain ⟨l, rfl⟩ := natOf hr2.1
    rw [Int.toNat_natCast] at hr2 ⊢
    obtain ⟨v, g3, e3, f4, v1⟩ := (J.xrel.fr fT rfl).val a3 (l := l) (by rw [fT 2 3 rfl]; exact hr2.2.1) (by omega)
    refine ⟨mxI 0 (mnI 999 v), g3, ?_, fT.tr (f4.mo rfl), ?_⟩
    · have c7 : ¬ nw (l : Int) = -1 := by rw [nw_id (by omega) (by omega)]; omega
      rw [pre, e2, sb, if_neg c7, e3, sb, sb]
    · rw [if_neg e]
      unfold vlF
      rw [v1, clamp_eq]
/-! sums over the days -/
theorem sm_add {f h : Nat → Int} : ∀ n, sm (fun i => f i + h i) n = sm f n + sm h n
  | 0 => rfl
  | n + 1 => by show sm _ n + (f n + h n) = (sm f n + f n) + (sm h n + h n); rw [sm_add n]; omega
theorem sm_ind {w : Nat → Int} {e : Nat} : ∀ n, sm (fun i => if i = e then w i else 0) n = if e < n then w e else 0
  | 0 => rfl
  | n + 1 => by
    show sm _ n + (if n = e then w n else 0) = _
    rw [sm_ind n]
    by_cases c : n = e
    · subst c; simp
    · rw [if_neg c]
      by_cases d : e < n
      · rw [if_pos d, if_pos (by omega)]; omega
      · rw [if_neg d, if_neg (by omega)]; rfl
theorem ct_sum {w : Int → Int} : ∀ (ds : List Int), DsOk ds → sm (fun d => ctF d ds * w d) 14 = wsF w ds
  | [], _ => by show sm (fun d => 0 * w d) 14 = 0; simp [sm]
  | e :: ds, h => by
    have he := h e (List.mem_cons_self ..)
    have hd : DsOk ds := fun d hd => h d (List.mem_cons_of_mem _ hd)
    have e1 : sm (fun d : Nat => ctF d (e :: ds) * w d) 14 = sm (fun d : Nat => (if d = e.toNat then w (d : Int) else 0) + ctF d ds * w d) 14 := by
      refine sm_cg 14 (fun i hi => ?_)
      show ((if e = (i : Int) then 1 else 0) + ctF i ds) * w i = _
      by_cases c : i = e.toNat
      · rw [if_pos c, if_pos (by omega), Int.add_mul, Int.one_mul]
      · rw [if_neg c, if_neg (by omega), Int.add_mul, Int.zero_mul]
    rw [e1, sm_add, sm_ind, ct_sum ds hd, if_pos (by omega)]
    show w _ + _ = w e + _
    rw [show ((e.toNat : Nat) : Int) = e by omega]
theorem ct_rng {d : Int} : ∀ (ds : List Int), 0 ≤ ctF d ds ∧ ctF d ds ≤ ds.length
  | [] => ⟨Int.le_refl _, by simp [ctF]⟩
  | e :: ds => by
    have := ct_rng (d := d) ds
    show 0 ≤ (if e = d then 1 else 0) + ctF d ds ∧ (if e = d then 1 else 0) + ctF d ds ≤ ((ds.length + 1 : Nat) : Int)
    split <;> omega
theorem X_harmWay_s {b : Nat} {W : Int → Int} {ct : Nat → Int} (hb : b < 10) (hct : ∀ d, d < 14 → 0 ≤ ct d ∧ ct d ≤ 1000) : ∀ (n k : Nat) (v : Int) (g : AG), k + n = 14 → JRule g → JBoV g → JWat g → hwF g b = W → (∀ d : Nat, d < 14 → g 47 d = ct d) → ∃ r g', Boats_harmOfLatestWay_b b v k g = some (r, g') ∧ FR [(27, 0), (28, 0)] g g' ∧ nw r = nw (v + (sm (fun d => ct d * W d) 14 - sm (fun d => ct d * W d) k)) := by
  intro n
  induction n with
  | zero =>
    intro k v g h J hV hW hw hc
    refine ⟨v, g, ?_, Fr.rf, ?_⟩
    · rw [Boats_harmOfLatestWay_b]
      simp (disch := omega) only [nw_id, ix_id, sb, if_true, if_false, if_pos, if_neg, true_and, and_true, false_and, and_false, and_self]
    · rw [show k = 14 by omega]
      congr 1; omega
  | succ n ih =>
    intro k v g h J hV hW hw hc
    have hk := hc k (by omega)
    have hk2 := hct k (by omega)
    have fin2 : ∀ r : Int, ∀ v' : Int, nw v' = nw (v + ct k * W k) → nw r = nw (v' + (sm (fun d => ct d * W d) 14 - sm (fun d => ct d * W d) (k + 1))) → nw r = nw (v + (sm (fun d => ct d * W d) 14 - sm (fun d => ct d * W d) k)) := by
      intro r v' h1 h2
      rw [h2]
      have e : v + (sm (fun d => ct d * W d) 14 - sm (fun d => ct d * W d) k) = (v + ct k * W k) + (sm (fun d => ct d * W d) 14 - sm (fun d => ct d * W d) (k + 1)) := by
        show _ = (v + ct k * W k) + (sm (fun d => ct d * W d) 14 - (sm (fun d => ct d * W d) k + ct k * W k)); omega
      rw [e]
      exact nw_add h1 rfl
    have c0 : ¬ 14 ≤ nw (k : Int) := by clear fin2; rw [nw_id (by omega) (by omega)]; omega
    have c1 : 0 ≤ nw (k : Int) ∧ nw (k : Int) < 14 := by clear c0 fin2; rw [nw_id (by omega) (by omega)]; omega
    have c2 : ix (k : Int) = k := by clear c0 c1 fin2; rw [ix_id (by omega) (by omega), Int.toNat_natCast]
    rw [Boats_harmOfLatestWay_b, if_neg c0, if_pos c1, c2, hk]
    clear c0 c1 c2
    by_cases z : ct k ≤ 0
    · have z0 : ct k = 0 := by omega
      obtain ⟨r, g1, e1, f1, q1⟩ := ih (k + 1) v g (by omega) J hV hW hw hc
      rw [show ((k + 1 : Nat) : Int) = (k : Int) + 1 from rfl] at e1
      refine ⟨r, g1, ?_, f1, fin2 r v (by rw [z0, Int.zero_mul, Int.add_zero]) q1⟩
      have c3 : nw (ct k) ≤ 0 := by clear fin2 q1; rw [nw_id (by omega) (by omega)]; exact z
      rw [if_pos c3, sb]
      exact e1
    · obtain ⟨hv, g1, e1, f1, q1⟩ := X_harmOfLock_s (b := b) (d := k) (g := g) hb (by omega) J hV hW
      obtain ⟨r, g2, e2, f2, q2⟩ := ih (k + 1) (v + ct k * hv) g1 (by omega) (J.cg (f1.cg rfl)) (fun j hj => by rw [f1 124 j rfl, f1 125 j rfl, f1 126 j rfl, f1 127 j rfl, f1 48 j rfl, f1 49 j rfl, f1 50 j rfl, f1 51 j rfl]; exact hV j hj) (hW.cg (f1.cg rfl)) (by rw [hwF_fr f1 rfl]; exact hw) (fun j hj => by rw [f1 47 j rfl]; exact hc j hj)
      rw [show ((k + 1 : Nat) : Int) = (k : Int) + 1 from rfl] at e2
      refine ⟨r, g2, ?_, f1.tr f2, fin2 r _ (nw_add rfl ?_) q2⟩
      · have c3 : ¬ nw (ct k) ≤ 0 := by clear fin2 q1 q2; rw [nw_id (by omega) (by omega)]; exact z
        rw [if_neg c3, e1, sb, sb]
        exact e2
      · rw [← hw]
        exact nw_mulc _ q1
theorem sm_harm {x1 x2 x3 x4 : Int} {g : AG} (h1 : I32 x1) (h2 : I32 x2) (h3 : I32 x3) (h4 : I32 x4) (V : JV g) (B : JBoat g) (hf : JFlag g) :
    ∃ r1 r2, X_harm x1 x2 x3 x4 g = some r1 ∧ M_harm x1 x2 x3 x4 r1.2 = some r2 ∧ nw r1.1 = nw r2.1 ∧ FR [(5, 7), (5, 8), (47, 0), (27, 0), (28, 0), (147, 0), (148, 0), (117, 49)] g r2.2 := by
  unfold I32 at *
  have B0 := B
  obtain ⟨⟨b1, b2, b3⟩, bv, bs⟩ := B
  by_cases h : 0 ≤ x1 ∧ x1 < g 6 7 ∧ 0 ≤ x2 ∧ x2 ≤ 15 ∧ 0 ≤ x3 ∧ x3 ≤ 15 ∧ 0 ≤ x4 ∧ x4 ≤ 20159
  · obtain ⟨b, rfl⟩ := natOf h.1
    obtain ⟨a, rfl⟩ := natOf h.2.2.1
    obtain ⟨c, rfl⟩ := natOf h.2.2.2.2.1
    have vb := bv b (by omega)
    have sbb := bs b (by omega)
    have tm : TmOk x4 := Or.inr (by omega)
    obtain ⟨g1, e1, f1, ct1⟩ := X_comesTo_s (a := a) (c := c) (ta := g 51 b) (t := x4) (hd := 1) V (by omega) (by omega) (by omega) (Or.inr rfl) tm
    rw [if_pos rfl] at e1 ct1
    have v1 := V.1
    have lok := ledF_ok (ok := okM g (stpM g)) (tu := tuM g) (mi := g 118) (lk := g 119) (lasts := laF (g 51 b)) (by unfold laF; omega) (fun i hi => (v1 i hi).2.2.2.1) (fun i hi => ⟨(v1 i hi).2.2.2.2.2.1, (v1 i hi).2.2.2.2.2.2.1⟩) (a := a) (c := c) (p := (x4, [])) (by omega) (by omega) tm (by intro d hd; cases hd)
    -- the reference
    have refM : ∀ g2 : AG, FR [(5, 7), (5, 8), (47, 0), (27, 0), (28, 0)] g g2 → ∃ g3, M_harm b a c x4 g2 = some ((if (ledF (okM g (stpM g)) (tuM g) (g 118) (g 119) (laF (g 51 b)) a c (x4, [])).1 = -1 then -1 else wsF (hwF g b) (ledF (okM g (stpM g)) (tuM g) (g 118) (g 119) (laF (g 51 b)) a c (x4, [])).2), g3) ∧ FR [(147, 0), (148, 0), (117, 49)] g2 g3 := by
      intro g2 f2
      have f3 : FR [(5, 7), (5, 8), (47, 0), (27, 0), (28, 0), (117, 48), (117, 49)] g (up (up g2 117 47 1) 117 48 0) := Fr.up (Fr.up (f2.mo rfl) rfl) rfl
      have V3 := V.fr f3 rfl
      have hm := MI.of (g := up (up g2 117 47 1) 117 48 0) (b := b) V3 (by omega) (by rw [f3 127 b rfl]; omega) (Or.inr (by simp [up_at]))
      have k1 : okM (up (up g2 117 47 1) 117 48 0) (stpM (up (up g2 117 47 1) 117 48 0)) = okM g (stpM g) := by rw [stpM_fr f3 rfl, okM_fr f3 rfl]
      have k3 : tuM (up (up g2 117 47 1) 117 48 0) = tuM g := by funext i; unfold tuM; rw [f3.cell (k := 144) (fun _ => rfl)]
      have k4 : (up (up g2 117 47 1) 117 48 0) 118 = g 118 := f3.cell (fun _ => rfl)
      have k5 : (up (up g2 117 47 1) 117 48 0) 119 = g 119 := f3.cell (fun _ => rfl)
      rw [k1, k3, k4, k5, hwF_fr f3 rfl, f3 127 b rfl, vb.2.2.2] at hm
      obtain ⟨g3, e3, f4, q3⟩ := M_led_s (a := a) (c := c) (by omega) (by omega) tm [] hm
      have q4 := q3.2 (by simp [up_at])
      have f5 : FR [(147, 0), (148, 0), (117, 49), (117, 48)] g2 (up g3 117 47 0) := Fr.up ((show FR [(147, 0), (148, 0), (117, 49), (117, 48)] g2 (up (up g2 117 47 1) 117 48 0) from Fr.up (Fr.up Fr.rf rfl) rfl).tr (f4.mo rfl)) rfl
      have z0 : g2 117 47 = 0 := by rw [f2 117 47 rfl]; exact hf
      refine ⟨up g3 117 47 0, ?_, ?_⟩
      · have q1 : g2 117 12 = g 117 12 := f2 117 12 rfl
        have c1 : ¬ nw (M_isBoat b g2) = 0 := by rw [M_isBoat0 (by omega) (by omega) (by omega) (by omega)]; omega
        have c2 : ¬ nw (M_isPoint a) = 0 := by clear c1; rw [isPoint0 (by omega) (by omega)]; omega
        have c3 : ¬ nw (M_isPoint c) = 0 := by clear c1 c2; rw [isPoint0 (by omega) (by omega)]; omega
        have c4 : ¬ nw (M_isTime x4) = 0 := by clear c1 c2 c3; rw [isTime0 (by omega) (by omega)]; omega
        unfold M_harm
        rw [if_neg c1, if_neg c2, if_neg c3, if_neg c4, sb, sb, e3, sb, sb, sb]
        dsimp only
        have lt := lok.1
        unfold TmOk at lt
        have z1 : (up g3 117 47 0) 117 48 = wsF (hwF g b) (ledF (okM g (stpM g)) (tuM g) (g 118) (g 119) (laF (g 51 b)) a c (x4, [])).2 := by
          simp only [up_at, and_self, if_true, wsF] at q4
          simp only [up_at, Nat.reduceEqDiff, and_false, if_false]
          omega
        rw [z1]
        clear c1 c2 c3 c4
        congr 2
        generalize (ledF (okM g (stpM g)) (tuM g) (g 118) (g 119) (laF (g 51 b)) a c (x4, [])).1 = L at lt
        by_cases e : L = -1
        · subst e; rw [nw_m1]
        · have e2 : ¬ nw L = -1 := by rw [nw_id (by omega) (by omega)]; exact e
          rw [if_neg e, if_neg e2]
      · exact FR.drop (k0 := 117) (i0 := 47) (f5.mo rfl) (by rw [z0]; simp [up_at])
    by_cases eL : (ledF (okM g (stpM g)) (tuM g) (g 118) (g 119) (laF (g 51 b)) a c (x4, [])).1 = -1
    · obtain ⟨g3, e3, f3⟩ := refM g1 (f1.mo rfl)
      rw [eL] at e1
      rw [if_pos eL] at e3
      have eX : X_harm b a c x4 g = some (-1, g1) := by
        unfold X_harm
        clear lok
        simp (disch := omega) only [nw_id, ix_id, sb, if_true, if_false, if_pos, if_neg, true_and, and_true, false_and, and_false, and_self, X_isWay0, Int.toNat_natCast, e1]
      exact ⟨_, _, eX, e3, rfl, (f1.mo rfl).tr (f3.mo rfl)⟩
    · have lt := lok.1
      unfold TmOk at lt
      have V1 := V.fr f1 rfl
      obtain ⟨r, g2, e2, f2, q2⟩ := X_harmWay_s (b := b) (W := hwF g b) (ct := fun d => ctF d (ledF (okM g (stpM g)) (tuM g) (g 118) (g 119) (laF (g 51 b)) a c (x4, [])).2) (by omega) (fun d hd => by have := ct_rng (d := (d : Int)) (ledF (okM g (stpM g)) (tuM g) (g 118) (g 119) (laF (g 51 b)) a c (x4, [])).2; have := lok.2.2; simp at this; omega) 14 0 0 g1 (by omega) V1.2.1 (fun j hj => by rw [f1 124 j rfl, f1 125 j rfl, f1 126 j rfl, f1 127 j rfl, f1 48 j rfl, f1 49 j rfl, f1 50 j rfl, f1 51 j rfl]; exact bv j hj) V1.2.2.2.2 (hwF_fr f1 rfl) ct1
      have fT : FR [(5, 7), (5, 8), (47, 0), (27, 0), (28, 0)] g g2 := (f1.mo rfl).tr (f2.mo rfl)
      obtain ⟨g3, e3, f3⟩ := refM g2 fT
      rw [if_neg eL] at e3
      have eX : X_harm b a c x4 g = some (r, g2) := by
        unfold X_harm Boats_harmOfLatestWay
        have c9 : ¬ nw (ledF (okM g (stpM g)) (tuM g) (g 118) (g 119) (laF (g 51 b)) a c (x4, [])).1 = -1 := by
          clear refM q2
          rw [nw_id (by omega) (by omega)]; exact eL
        have c1 : ¬ nw (X_isWay b a c x4 g) = 0 := by clear c9 q2; rw [X_isWay0 (by omega) (by omega) (by omega) (by omega) (by omega) (by omega) (by omega) (by omega) (by omega) (by omega)]; omega
        have c2 : 0 ≤ nw (b : Int) ∧ nw (b : Int) < 10 := by clear c9 c1 q2; rw [nw_id (by omega) (by omega)]; omega
        have c3 : ix (b : Int) = b := by clear c9 c1 c2 q2; rw [ix_id (by omega) (by omega), Int.toNat_natCast]
        rw [show ((0 : Nat) : Int) = (0 : Int) from rfl] at e2
        rw [if_neg c1, if_pos c2, c3, e1, sb, if_neg c9, e2, sb, sb]
      refine ⟨_, _, eX, e3, ?_, fT.mo rfl |>.tr (f3.mo rfl)⟩
      dsimp only
      rw [q2, ct_sum _ lok.2.1]
      show nw (0 + (_ - 0)) = _
      rw [Int.sub_zero, Int.zero_add]
  · have eX : X_harm x1 x2 x3 x4 g = some (-1, g) := by
      unfold X_harm
      simp (disch := omega) only [nw_id, ix_id, sb, if_true, if_false, if_pos, if_neg, true_and, and_true, false_and, and_false, and_self, X_isWay0]
    have eM : M_harm x1 x2 x3 x4 g = some (-1, g) := by
      unfold M_harm
      revert h
      simp (disch := omega) only [nw_id, ix_id, M_isBoat0, isPoint0, isTime0]
      intro h
      by_cases c1 : x1 < 0 ∨ g 117 12 - 1 < x1
      · rw [if_pos c1]
      · rw [if_neg c1]
        by_cases c2 : x2 < 0 ∨ 15 < x2
        · rw [if_pos c2]
        · rw [if_neg c2]
          by_cases c3 : x3 < 0 ∨ 15 < x3
          · rw [if_pos c3]
          · rw [if_neg c3, if_pos (by omega)]
    exact ⟨_, _, eX, eM, rfl, Fr.rf⟩
