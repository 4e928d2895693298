/-! plain programs: a new boat keeps trips and yard -/
theorem JTrip.mono {g g' : AG} (h : ∀ k i, inR [(7, 9), (117, 50), (76, 0), (77, 0), (78, 0), (79, 0), (80, 0), (149, 0), (150, 0), (151, 0), (152, 0), (153, 0)] k i = true → g' k i = g k i) (le : g 6 7 ≤ g' 6 7) (q : JTrip g) : JTrip g' := by
  obtain ⟨q1, q2, q3⟩ := q
  unfold JTrip
  rw [h 117 49 rfl, h 7 8 rfl]
  refine ⟨q1, fun k hk => ?_, fun k hk => ?_⟩
  · rw [h 149 k rfl, h 150 k rfl, h 151 k rfl, h 152 k rfl, h 153 k rfl, h 76 k rfl, h 77 k rfl, h 78 k rfl, h 79 k rfl, h 80 k rfl]
    exact q2 k hk
  · have := q3 k hk
    rw [h 76 k rfl, h 77 k rfl, h 78 k rfl, h 79 k rfl, h 80 k rfl]
    exact ⟨⟨this.1.1, by omega⟩, this.2⟩
theorem JYard.mono {g g' : AG} (h : ∀ k i, inR [(97, 0), (98, 0), (173, 0), (174, 0)] k i = true → g' k i = g k i) (le : g 6 7 ≤ g' 6 7) (q : JYard g) : JYard g' := by
  obtain ⟨q1, q2, q3⟩ := q
  refine ⟨fun b hb => ?_, fun b hb hb2 => ?_, ?_⟩
  · rw [h 173 b rfl, h 97 b rfl, h 174 b rfl, h 98 b rfl]; exact q1 b hb
  · rw [h 98 b rfl]; exact q2 b hb (by omega)
  · rw [show dkF g' = dkF g from funext fun k => by unfold dkF; rw [h 98 k rfl]]; exact q3
theorem boat_up {x1 x2 x3 x4 : Int} {g : AG} (h1 : I32 x1) (h2 : I32 x2) (h3 : I32 x3) (h4 : I32 x4) (hb : g 117 12 = g 6 7 ∧ 0 ≤ g 6 7 ∧ g 6 7 ≤ 10) {r1 r2 : Int × AG} (e1 : X_boat x1 x2 x3 x4 g = some r1) (e2 : M_boat x1 x2 x3 x4 r1.2 = some r2) : g 6 7 ≤ r2.2 6 7 := by
  have X := X_boat_s (g := g) h1 h2 h3 h4 hb.2 hb.2
  have p : r1.2 117 12 = g 117 12 ∧ g 6 7 ≤ r1.2 6 7 := by
    by_cases o : BoatOk x1 x2 x3 x4 (g 6 7) (g 6 7)
    · have a := X.1 o
      rw [e1] at a
      rw [Option.some.inj a]
      simp [up_at]
      omega
    · have a := X.2 o
      rw [e1] at a
      rw [Option.some.inj a]
      exact ⟨rfl, Int.le_refl _⟩
  have M := M_boat_s (g := r1.2) h1 h2 h3 h4 (by rw [p.1, hb.1]; exact hb.2) (by rw [p.1, hb.1]; exact hb.2)
  have s : r2.2 6 7 = r1.2 6 7 := by
    by_cases o : BoatOk x1 x2 x3 x4 (r1.2 117 12) (r1.2 117 12)
    · have a := M.1 o
      rw [e2] at a
      rw [Option.some.inj a]
      simp [up_at]
    · have a := M.2 o
      rw [e2] at a
      rw [Option.some.inj a]
  rw [s]
  exact p.2
