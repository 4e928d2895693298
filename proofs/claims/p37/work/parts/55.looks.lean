/-! plain programs: faults and looks -/
def JFault (g : AG) : Prop := g 117 44 = g 4 7 ∧ g 117 46 = g 4 8
theorem sm_fault {x1 : Int} {g : AG} (J : JFault g) : nw (X_fault x1 g) = nw (M_fault x1 g) := by
  unfold X_fault M_fault
  rw [J.1, J.2]
theorem sm_look {x1 : Int} {g : AG} (j0 : g 117 12 = g 6 7) (j1 : g 117 49 = g 7 8) (j2 : g 117 65 = g 9 4) (j3 : g 117 87 = g 10 7) (j4 : g 117 59 = g 8 2) (j5 : g 117 11 = g 1 4) (j6 : g 117 10 = g 1 5) (j7 : g 117 92 = g 11 5) : nw (X_look x1 g) = nw (M_look x1 g) := by
  unfold X_look M_look
  rw [j0, j1, j2, j3, j4, j5, j6, j7]
