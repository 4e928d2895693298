/-! plain programs: through a stretch, and along the canal -/
/-- the locks of a stretch: (minute, days on which locks were begun) -/
def lkF (ok : TOK) (i : Nat) (lasts : Int) : Nat → Int × List Int → Int × List Int
  | 0, p => p
  | n + 1, p => lkF ok i lasts n (if stF ok i 1 p.1 lasts = -1 then (-1, p.2) else (stF ok i 1 p.1 lasts, (stF ok i 1 p.1 lasts - lasts) / 1440 :: p.2))
def miF (ok : TOK) (i : Nat) : Nat → Int → Int
  | 0, t => t
  | n + 1, t => miF ok i n (stF ok i 0 t 20)
def enF (ok : TOK) (tu : Nat → Bool) (mi : Nat → Int) (i : Nat) (up : Bool) (t : Int) : Int := if tu i = true then (if 0 < mi i then stF ok i (if up = true then 2 else 3) t (20 * mi i) else t) else miF ok i (mi i).toNat t
def thF (ok : TOK) (tu : Nat → Bool) (mi lk : Nat → Int) (lasts : Int) (i : Nat) (up : Bool) (p : Int × List Int) : Int × List Int := lkF ok i lasts (lk i).toNat (enF ok tu mi i up p.1, p.2)
def upF (ok : TOK) (tu : Nat → Bool) (mi lk : Nat → Int) (lasts : Int) : Nat → Nat → Int × List Int → Int × List Int
  | 0, _, p => p
  | n + 1, a, p => upF ok tu mi lk lasts n (a + 1) (thF ok tu mi lk lasts a true p)
def dnF (ok : TOK) (tu : Nat → Bool) (mi lk : Nat → Int) (lasts : Int) : Nat → Nat → Int × List Int → Int × List Int
  | 0, _, p => p
  | n + 1, a, p => dnF ok tu mi lk lasts n (a - 1) (thF ok tu mi lk lasts (a - 1) false p)
def ledF (ok : TOK) (tu : Nat → Bool) (mi lk : Nat → Int) (lasts : Int) (a c : Nat) (p : Int × List Int) : Int × List Int := dnF ok tu mi lk lasts (a - c) a (upF ok tu mi lk lasts (c - a) a p)
theorem lkF_m1 {ok : TOK} {i : Nat} {lasts : Int} {ds : List Int} : ∀ n, lkF ok i lasts n (-1, ds) = (-1, ds)
  | 0 => rfl
  | n + 1 => by unfold lkF; rw [if_pos stF_m1]; exact lkF_m1 n
theorem miF_m1 {ok : TOK} {i : Nat} : ∀ n, miF ok i n (-1) = -1
  | 0 => rfl
  | n + 1 => by unfold miF; rw [stF_m1]; exact miF_m1 n
theorem enF_m1 {ok : TOK} {tu : Nat → Bool} {mi : Nat → Int} {i : Nat} {up : Bool} : enF ok tu mi i up (-1) = -1 := by
  unfold enF
  rw [miF_m1, stF_m1]
  split
  · split <;> rfl
  · rfl
theorem thF_m1 {ok : TOK} {tu : Nat → Bool} {mi lk : Nat → Int} {lasts : Int} {i : Nat} {up : Bool} {ds : List Int} : thF ok tu mi lk lasts i up (-1, ds) = (-1, ds) := by
  unfold thF
  rw [enF_m1]
  exact lkF_m1 _
theorem upF_m1 {ok : TOK} {tu : Nat → Bool} {mi lk : Nat → Int} {lasts : Int} {ds : List Int} : ∀ n a, upF ok tu mi lk lasts n a (-1, ds) = (-1, ds)
  | 0, _ => rfl
  | n + 1, a => by unfold upF; rw [thF_m1]; exact upF_m1 n (a + 1)
theorem dnF_m1 {ok : TOK} {tu : Nat → Bool} {mi lk : Nat → Int} {lasts : Int} {ds : List Int} : ∀ n a, dnF ok tu mi lk lasts n a (-1, ds) = (-1, ds)
  | 0, _ => rfl
  | n + 1, a => by unfold dnF; rw [thF_m1]; exact dnF_m1 n (a - 1)
/-- a time, or none -/
def TmOk (t : Int) : Prop := t = -1 ∨ (0 ≤ t ∧ t ≤ 20159)
def DsOk (ds : List Int) : Prop := ∀ d, d ∈ ds → 0 ≤ d ∧ d < 14
theorem stF_tm {ok : TOK} {i : Nat} {sort t lasts : Int} (ht : TmOk t) (hl : 0 ≤ lasts) : TmOk (stF ok i sort t lasts) := by
  rcases stF_rng (ok := ok) (i := i) (sort := sort) (t := t) (lasts := lasts) (by unfold TmOk at ht; omega) hl with h | h
  · exact Or.inl h
  · exact Or.inr ⟨by omega, by omega⟩
theorem miF_tm {ok : TOK} {i : Nat} : ∀ (n : Nat) (t : Int), TmOk t → TmOk (miF ok i n t)
  | 0, _, h => h
  | n + 1, t, h => miF_tm n _ (stF_tm h (by decide))
theorem enF_tm {ok : TOK} {tu : Nat → Bool} {mi : Nat → Int} {i : Nat} {up : Bool} {t : Int} (hm : 0 ≤ mi i) (h : TmOk t) : TmOk (enF ok tu mi i up t) := by
  unfold enF
  by_cases e : tu i = true
  · rw [if_pos e]
    by_cases e2 : 0 < mi i
    · rw [if_pos e2]; exact stF_tm h (by omega)
    · rw [if_neg e2]; exact h
  · rw [if_neg e]; exact miF_tm _ _ h
theorem lkF_ok {ok : TOK} {i : Nat} {lasts : Int} (hl : 0 ≤ lasts) : ∀ (n : Nat) (p : Int × List Int), TmOk p.1 → DsOk p.2 → TmOk (lkF ok i lasts n p).1 ∧ DsOk (lkF ok i lasts n p).2 ∧ (lkF ok i lasts n p).2.length ≤ p.2.length + n
  | 0, p, h1, h2 => ⟨h1, h2, by simp [lkF]⟩
  | n + 1, p, h1, h2 => by
    unfold lkF
    by_cases e : stF ok i 1 p.1 lasts = -1
    · rw [if_pos e]
      have q := lkF_ok (ok := ok) (i := i) hl n (-1, p.2) (Or.inl rfl) h2
      exact ⟨q.1, q.2.1, by have := q.2.2; simp at this ⊢; omega⟩
    · rw [if_neg e]
      have r := stF_rng (ok := ok) (i := i) (sort := 1) (t := p.1) (lasts := lasts) (by unfold TmOk at h1; omega) hl
      have q := lkF_ok (ok := ok) (i := i) hl n (stF ok i 1 p.1 lasts, (stF ok i 1 p.1 lasts - lasts) / 1440 :: p.2) (stF_tm h1 hl) (by
        intro d hd
        rcases List.mem_cons.mp hd with h | h
        · rw [h]
          rcases r with r | r
          · exact absurd r e
          · omega
        · exact h2 d h)
      exact ⟨q.1, q.2.1, by have := q.2.2; simp at this ⊢; omega⟩
theorem thF_ok {ok : TOK} {tu : Nat → Bool} {mi lk : Nat → Int} {lasts : Int} {i : Nat} {up : Bool} {p : Int × List Int} (hl : 0 ≤ lasts) (hm : 0 ≤ mi i) (hk : 0 ≤ lk i ∧ lk i ≤ 9) (h1 : TmOk p.1) (h2 : DsOk p.2) : TmOk (thF ok tu mi lk lasts i up p).1 ∧ DsOk (thF ok tu mi lk lasts i up p).2 ∧ (thF ok tu mi lk lasts i up p).2.length ≤ p.2.length + 9 := by
  have q := lkF_ok (ok := ok) (i := i) hl (lk i).toNat (enF ok tu mi i up p.1, p.2) (enF_tm hm h1) h2
  unfold thF
  exact ⟨q.1, q.2.1, by have := q.2.2; simp at this ⊢; omega⟩
theorem upF_ok {ok : TOK} {tu : Nat → Bool} {mi lk : Nat → Int} {lasts : Int} (hl : 0 ≤ lasts) (hm : ∀ i, i < 15 → 0 ≤ mi i) (hk : ∀ i, i < 15 → 0 ≤ lk i ∧ lk i ≤ 9) : ∀ (n a : Nat) (p : Int × List Int), a + n ≤ 15 → TmOk p.1 → DsOk p.2 → TmOk (upF ok tu mi lk lasts n a p).1 ∧ DsOk (upF ok tu mi lk lasts n a p).2 ∧ (upF ok tu mi lk lasts n a p).2.length ≤ p.2.length + 9 * n
  | 0, a, p, h, h1, h2 => ⟨h1, h2, by simp [upF]⟩
  | n + 1, a, p, h, h1, h2 => by
    unfold upF
    have t := thF_ok (ok := ok) (tu := tu) (mi := mi) (lk := lk) (up := true) (p := p) hl (hm a (by omega)) (hk a (by omega)) h1 h2
    have q := upF_ok (ok := ok) (tu := tu) hl hm hk n (a + 1) _ (by omega) t.1 t.2.1
    exact ⟨q.1, q.2.1, by have := q.2.2; have := t.2.2; omega⟩
theorem dnF_ok {ok : TOK} {tu : Nat → Bool} {mi lk : Nat → Int} {lasts : Int} (hl : 0 ≤ lasts) (hm : ∀ i, i < 15 → 0 ≤ mi i) (hk : ∀ i, i < 15 → 0 ≤ lk i ∧ lk i ≤ 9) : ∀ (n a : Nat) (p : Int × List Int), n ≤ a → a ≤ 15 → TmOk p.1 → DsOk p.2 → TmOk (dnF ok tu mi lk lasts n a p).1 ∧ DsOk (dnF ok tu mi lk lasts n a p).2 ∧ (dnF ok tu mi lk lasts n a p).2.length ≤ p.2.length + 9 * n
  | 0, a, p, h, h', h1, h2 => ⟨h1, h2, by simp [dnF]⟩
  | n + 1, a, p, h, h', h1, h2 => by
    unfold dnF
    have t := thF_ok (ok := ok) (tu := tu) (mi := mi) (lk := lk) (up := false) (p := p) hl (hm (a - 1) (by omega)) (hk (a - 1) (by omega)) h1 h2
    have q := dnF_ok (ok := ok) (tu := tu) hl hm hk n (a - 1) _ (by omega) (by omega) t.1 t.2.1
    exact ⟨q.1, q.2.1, by have := q.2.2; have := t.2.2; omega⟩
theorem ledF_ok {ok : TOK} {tu : Nat → Bool} {mi lk : Nat → Int} {lasts : Int} (hl : 0 ≤ lasts) (hm : ∀ i, i < 15 → 0 ≤ mi i) (hk : ∀ i, i < 15 → 0 ≤ lk i ∧ lk i ≤ 9) {a c : Nat} {p : Int × List Int} (ha : a ≤ 15) (hc : c ≤ 15) (h1 : TmOk p.1) (h2 : DsOk p.2) : TmOk (ledF ok tu mi lk lasts a c p).1 ∧ DsOk (ledF ok tu mi lk lasts a c p).2 ∧ (ledF ok tu mi lk lasts a c p).2.length ≤ p.2.length + 270 := by
  unfold ledF
  have t := upF_ok (ok := ok) (tu := tu) hl hm hk (c - a) a p (by omega) h1 h2
  have q := dnF_ok (ok := ok) (tu := tu) hl hm hk (a - c) a _ (by omega) ha t.1 t.2.1
  exact ⟨q.1, q.2.1, by have := q.2.2; have := t.2.2; omega⟩
/-! the reference -/
def tuM (g : AG) (i : Nat) : Bool := decide (g 144 (2 * i) = 1 ∨ g 144 (2 * i + 1) = 1)
/-- what a lock begun on a day harms -/
def vlF (cd fc : Nat → Int) (a b : Int) : Int := match evl cd fc (b - a).toNat a.toNat [] with | some (v :: _) => v | _ => 0
def clF (v : Int) : Int := if 0 ≤ nw v then (if nw v ≤ 999 then v else 999) else 0
def hwF (g : AG) (b : Nat) (d : Int) : Int := clF (if srvG g (fcHarm d (g 117 10) (g 124 b) (g 125 b) (g 127 b)) 4 (g 2 3).toNat 0 = -1 then 0 else vlF (g 134) (fcHarm d (g 117 10) (g 124 b) (g 125 b) (g 127 b)) (g 131 (srvG g (fcHarm d (g 117 10) (g 124 b) (g 125 b) (g 127 b)) 4 (g 2 3).toNat 0).toNat) (g 132 (srvG g (fcHarm d (g 117 10) (g 124 b) (g 125 b) (g 127 b)) 4 (g 2 3).toNat 0).toNat))
def wsF (w : Int → Int) : List Int → Int
  | [] => 0
  | d :: ds => w d + wsF w ds
theorem hwF_fr {W : Reg} {g g' : AG} {b : Nat} (f : FR W g g') (d : djR [(117, 11), (124, 0), (125, 0), (127, 0), (2, 4), (128, 0), (131, 0), (132, 0), (133, 0), (134, 0)] W = true) : hwF g' b = hwF g b := by
  have c := f.cg d
  have c0 : g' 117 10 = g 117 10 := c 117 10 rfl
  have c1 : g' 2 3 = g 2 3 := c 2 3 rfl
  have c2 : g' 128 = g 128 := funext fun i => c 128 i rfl
  have c3 : g' 131 = g 131 := funext fun i => c 131 i rfl
  have c5 : g' 132 = g 132 := funext fun i => c 132 i rfl
  have c6 : g' 133 = g 133 := funext fun i => c 133 i rfl
  have c7 : g' 134 = g 134 := funext fun i => c 134 i rfl
  have c8 : g' 124 b = g 124 b := c 124 b rfl
  have c9 : g' 125 b = g 125 b := c 125 b rfl
  have c10 : g' 127 b = g 127 b := c 127 b rfl
  funext d
  unfold hwF srvG
  simp only [c0, c1, c2, c3, c5, c6, c7, c8, c9, c10]
theorem M_harmOf_s {b : Nat} {d : Int} {g : AG} (hb : b < 10) (hd : 0 ≤ d ∧ d < 14) (J : JRule g) : ∃ g', M_harmOf b d g = some (hwF g b d, g') ∧ FR [(147, 0), (148, 0)] g g' := by
  have f1 : FR [(148, 0)] g (up (up (up (up (up (up (fun a b => if a = 148 ∧ b < 10 then 0 else g a b) 148 1 (d % 7)) 148 2 (d / 7)) 148 3 (g 117 10)) 148 4 (g 124 b)) 148 6 (g 125 b)) 148 9 (g 127 b)) := by
    intro a b hab
    have n1 : a ≠ 148 := fun e => by subst e; revert hab; simp [inR, inP]
    simp only [up_at, n1, false_and, if_false]
  have a1 : ∀ k, k < 10 → (up (up (up (up (up (up (fun a b => if a = 148 ∧ b < 10 then 0 else g a b) 148 1 (d % 7)) 148 2 (d / 7)) 148 3 (g 117 10)) 148 4 (g 124 b)) 148 6 (g 125 b)) 148 9 (g 127 b)) 148 k = fcHarm d (g 117 10) (g 124 b) (g 125 b) (g 127 b) k := by
    intro k hk
    unfold fcHarm
    simp only [up_at, true_and]
    ((repeat' split) <;> first | rfl | omega)
  obtain ⟨g2, e2, f2⟩ := M_serves_s (sort := 4) (by omega) (J.cg (f1.cg rfl)) a1
  have J0 := J.1
  have fT : FR [(147, 0), (148, 0)] g g2 := (f1.mo rfl).tr (f2.mo rfl)
  have k1 : ∀ G : AG, G = up (up (up (up (up (up (fun a b => if a = 148 ∧ b < 10 then 0 else g a b) 148 1 (d % 7)) 148 2 (d / 7)) 148 3 (g 117 10)) 148 4 (g 124 b)) 148 6 (g 125 b)) 148 9 (g 127 b) → G 128 = g 128 ∧ G 132 = g 132 ∧ G 133 = g 133 ∧ G 134 = g 134 ∧ G 2 3 = g 2 3 := by
    intro G hG
    rw [hG]
    exact ⟨f1.cell (fun _ => rfl), f1.cell (fun _ => rfl), f1.cell (fun _ => rfl), f1.cell (fun _ => rfl), f1 2 3 rfl⟩
  obtain ⟨k2, k3, k4, k5, k6⟩ := k1 _ rfl
  unfold srvG at e2
  rw [k2, k3, k4, k5, k6] at e2
  have pre : ∀ r, M_harmOf b d g = r ↔ ((M_serves 4 (up (up (up (up (up (up (fun a b => if a = 148 ∧ b < 10 then 0 else g a b) 148 1 (d % 7)) 148 2 (d / 7)) 148 3 (g 117 10)) 148 4 (g 124 b)) 148 6 (g 125 b)) 148 9 (g 127 b))) >>= fun r16 => (if nw r16.1 = -1 then some (0, r16.2) else if 0 ≤ nw r16.1 ∧ nw r16.1 < 16 then (M_comesTo (r16.2 131 (ix r16.1)) (r16.2 132 (ix r16.1)) r16.2 >>= fun r20 => some (r20.1, r20.2)) else none) >>= fun r22 => some (clF r22.1) >>= fun t24 => some (t24, r22.2)) = r := by
    intro r
    unfold M_harmOf clF
    rw [M_forgets_s, ix_lits.2.1, ix_lits.2.2.1, ix_lits.2.2.2.1, ix_lits.2.2.2.2.1, ix_lits.2.2.2.2.2.2.1, ix_lits.2.2.2.2.2.2.2.2.2]
    clear a1 e2
    simp (disch := omega) only [tmE, tdE, if_neg, sb, nw_id (a := (b : Int)), nw_id (a := d), if_pos, ix_id (a := (b : Int)), Int.toNat_natCast]
    simp only [up_at, Nat.reduceEqDiff, false_and, if_false]
  have hr := srvF_rng (kd := g 128) (md := g 132) (en := g 133) (cd := g 134) (fc := fcHarm d (g 117 10) (g 124 b) (g 125 b) (g 127 b)) (sort := 4) (g 2 3).toNat 0
  unfold hwF srvG
  generalize srvF (g 128) (g 132) (g 133) (g 134) (fcHarm d (g 117 10) (g 124 b) (g 125 b) (g 127 b)) 4 (g 2 3).toNat 0 = s at hr e2 ⊢
  by_cases e : s = -1
  · subst e
    refine ⟨g2, ?_, fT⟩
    rw [pre, e2, sb, nw_m1]
    rfl
  · have hr2 : 0 ≤ s ∧ s < g 2 3 ∧ g 128 s.toNat = 4 := by
      rcases hr with hr | ⟨a, b, c⟩
      · exact absurd hr e
      · exact ⟨by omega, by omega, c⟩
    clear hr
    obtain ⟨l, rfl⟩ := natOf hr2.1
    rw [Int.toNat_natCast] at hr2 ⊢
    obtain ⟨v, g3, e3, f4, v1⟩ := (J.cg (fT.cg rfl)).val (fc := fcHarm d (g 117 10) (g 124 b) (g 125 b) (g 127 b)) (by
      intro k hk
      have := a1 k hk
      rw [f2 148 k rfl]
      exact this) (l := l) (by rw [fT 2 3 rfl]; exact hr2.2.1) (by rw [fT 128 l rfl]; omega)
    have q1 : g2 134 = g 134 := fT.cell (fun _ => rfl)
    rw [q1, fT 132 l rfl, fT 131 l rfl] at v1
    refine ⟨g3, ?_, fT.tr (f4.mo rfl)⟩
    rw [pre, e2, sb, if_neg e]
    simp (disch := omega) only [nw_id (a := (l : Int)), if_neg, sb, if_pos, ix_id (a := (l : Int)), Int.toNat_natCast, e3]
    unfold vlF
    rw [v1]
