/-! the texts and the tables at the start -/
def stD : String × Nat × String × Nat := ("", 0, "", 0)
def tmS (i : Nat) : Term := .string (strL.getD i stD).1 (strL.getD i stD).2.1
def blkS (i : Nat) : List Cond :=
  .exactly (tmS i) "java/lang/String" :: .eq (.field (tmS i) "java/lang/String" "coder" "B") (.int 0) :: .arrayOf (.field (tmS i) "java/lang/String" "value" "[B") .byte :: .eq (.length (.field (tmS i) "java/lang/String" "value" "[B")) (.int (Int32.ofNat (lenJ.getD i 0))) ::
    ((List.range (lenJ.getD i 0)).map (fun j => Cond.eq (.elem (.field (tmS i) "java/lang/String" "value" "[B") (.int (Int32.ofNat j))) (.int ((bytJ.getD i []).getD j 0))) ++ (List.range i).map (fun j => Cond.not (Cond.eq (tmS j) (tmS i))))
def preS : List Cond := [.count 1, .isRef (.arg 0), .arrayOf (.arg 0) .int, .le (.length (.arg 0)) (.int 3072), .eq (.static "java/lang/String" "COMPACT_STRINGS" "Z") (.int 1), .isRef (.static "jdk/internal/util/Preconditions" "SIOOBE_FORMATTER" "Ljava/util/function/BiFunction;"), .eq (.static "java/lang/StringUTF16" "$assertionsDisabled" "Z") (.int 1), .eq (.static "java/lang/StringUTF16" "HI_BYTE_SHIFT" "I") (.int 0), .eq (.static "java/lang/StringUTF16" "LO_BYTE_SHIFT" "I") (.int 8)]
theorem flS : flatC (Jvm.Cond.and given_1 narrow_1) = preS ++ (List.range 22).flatMap blkS := by decide +kernel
theorem memS {i : Nat} (hi : i < 22) {c : Cond} (h : c ∈ blkS i) : c ∈ flatC (Jvm.Cond.and given_1 narrow_1) := by
  rw [flS]
  exact List.mem_append_right _ (List.mem_flatMap.mpr ⟨i, List.mem_range.mpr hi, h⟩)
theorem st_neq {i j : Nat} (h : j < i) : Cond.not (Cond.eq (tmS j) (tmS i)) ∈ blkS i := List.mem_cons_of_mem _ (List.mem_cons_of_mem _ (List.mem_cons_of_mem _ (List.mem_cons_of_mem _ (List.mem_append_right _ (List.mem_map.mpr ⟨j, List.mem_range.mpr h, rfl⟩)))))
theorem st_texts {s : State} {args : Array Value} (hs : ∀ c ∈ flatC (Jvm.Cond.and given_1 narrow_1), c.before args s = true) : ∃ aK aV : Nat → Nat, vk_S 22 lenJ bytJ aK aV (fun q : Nat => s.heap.size ≤ q) s s.heap ∧ ∀ i : Nat, i < 22 → (tmS i).eval args s none [] s = some (.ref (aK i)) :=
  vk_Sof (tm := tmS) (by decide +kernel) (fun i hi => hs _ (memS hi (List.mem_cons_self ..))) (fun i hi => hs _ (memS hi (List.mem_cons_of_mem _ (List.mem_cons_self ..)))) (fun i hi => hs _ (memS hi (List.mem_cons_of_mem _ (List.mem_cons_of_mem _ (List.mem_cons_self ..))))) (fun i hi => hs _ (memS hi (List.mem_cons_of_mem _ (List.mem_cons_of_mem _ (List.mem_cons_of_mem _ (List.mem_cons_self ..))))))
    (fun i hi j hj => hs _ (memS hi (List.mem_cons_of_mem _ (List.mem_cons_of_mem _ (List.mem_cons_of_mem _ (List.mem_cons_of_mem _ (List.mem_append_left _ (List.mem_map.mpr ⟨j, List.mem_range.mpr hj, rfl⟩))))))))
    (fun i j hi hj hij => by
      rcases Nat.lt_or_ge i j with h | h
      · exact Or.inl (hs _ (memS hj (st_neq h)))
      · exact Or.inr (hs _ (memS hi (st_neq (Nat.lt_of_le_of_ne h (Ne.symm hij))))))
    (fun a ha h => absurd ha (Nat.not_lt.mpr h))
def ixS : List Nat := [783, 851, 1852, 1859, 1860, 1861, 1862, 1863, 1864, 1865, 1866, 1867, 1868, 1869, 1870, 1871, 1872, 1873, 1874, 1875, 1876, 1877]
theorem st_ref : ∀ i, i < 22 → lw_tbl[ixS.getD i 0]? = some (Cond.stringRef (strL.getD i stD).1 (strL.getD i stD).2.1 (strL.getD i stD).2.2.1) := by decide +kernel
theorem st_ord : ∀ i, i < 22 → (strL.getD i stD).2.2.2 = i := by decide +kernel
theorem st_len : strL.length = 22 := by decide +kernel
theorem st_refs {s : State} {args : Array Value} {aK : Nat → Nat} (hts : ∀ w ∈ lw_tbl, w.before args s = true) (he : ∀ i : Nat, i < 22 → (tmS i).eval args s none [] s = some (.ref (aK i))) : ∀ q ∈ strL, vk_R q.1 q.2.1 q.2.2.1 (aK q.2.2.2) s := by
  intro q hq
  obtain ⟨i, hi, e⟩ := List.mem_iff_getElem.mp hq
  have hi2 : i < 22 := by rw [← st_len]; exact hi
  have eg : strL.getD i stD = q := by rw [List.getD_eq_getElem?_getD, List.getElem?_eq_getElem hi, Option.getD_some, e]
  have h1 := hts _ (List.mem_of_getElem? (st_ref i hi2))
  have h2 := he i hi2
  have h3 := st_ord i hi2
  unfold tmS at h2
  rw [eg] at h1 h2 h3
  rw [h3]
  exact vk_R.of h1 h2
theorem st_nest {s : State} {args : Array Value} (hts : ∀ w ∈ lw_tbl, w.before args s = true) : ∀ q ∈ nestL, va_Nw (.methodLinkNest q.1 q.2 ⟨"WeekBoats", "within", "(III)Z"⟩ "WeekBoats") s := by
  have a1 := hts _ (List.mem_of_getElem? (l := lw_tbl) (i := 710) (a := Cond.methodLinkNest "WeekBoats$Rules" 78 ⟨"WeekBoats", "within", "(III)Z"⟩ "WeekBoats") (by decide +kernel))
  have a2 := hts _ (List.mem_of_getElem? (l := lw_tbl) (i := 774) (a := Cond.methodLinkNest "WeekBoats$Parser" 87 ⟨"WeekBoats", "within", "(III)Z"⟩ "WeekBoats") (by decide +kernel))
  have a3 := hts _ (List.mem_of_getElem? (l := lw_tbl) (i := 1268) (a := Cond.methodLinkNest "WeekBoats$LockQueue" 61 ⟨"WeekBoats", "within", "(III)Z"⟩ "WeekBoats") (by decide +kernel))
  have a4 := hts _ (List.mem_of_getElem? (l := lw_tbl) (i := 1357) (a := Cond.methodLinkNest "WeekBoats$Yard" 58 ⟨"WeekBoats", "within", "(III)Z"⟩ "WeekBoats") (by decide +kernel))
  have a5 := hts _ (List.mem_of_getElem? (l := lw_tbl) (i := 1449) (a := Cond.methodLinkNest "WeekBoats$Vans" 92 ⟨"WeekBoats", "within", "(III)Z"⟩ "WeekBoats") (by decide +kernel))
  exact List.forall_mem_cons.mpr ⟨va_Nw.of rfl a1, List.forall_mem_cons.mpr ⟨va_Nw.of rfl a2, List.forall_mem_cons.mpr ⟨va_Nw.of rfl a3, List.forall_mem_cons.mpr ⟨va_Nw.of rfl a4, List.forall_mem_cons.mpr ⟨va_Nw.of rfl a5, fun _ h => absurd h List.not_mem_nil⟩⟩⟩⟩⟩
theorem st_nestI {s : State} {args : Array Value} (hts : ∀ w ∈ lw_tbl, w.before args s = true) : KWb s := by
  have a0 := hts _ (List.mem_of_getElem? (l := lw_tbl) (i := 333) (a := Cond.arrayOver (.array .int)) (by decide +kernel))
  have a1 := hts _ (List.mem_of_getElem? (l := lw_tbl) (i := 187) (a := Cond.methodLinkNest "WeekBoats" 18 ⟨"WeekBoats$Rules", "<init>", "()V"⟩ "WeekBoats") (by decide +kernel))
  have a2 := hts _ (List.mem_of_getElem? (l := lw_tbl) (i := 414) (a := Cond.methodLinkNest "WeekBoats" 64 ⟨"WeekBoats$LockQueue", "<init>", "()V"⟩ "WeekBoats") (by decide +kernel))
  have a3 := hts _ (List.mem_of_getElem? (l := lw_tbl) (i := 445) (a := Cond.methodLinkNest "WeekBoats" 71 ⟨"WeekBoats$Bookings", "<init>", "()V"⟩ "WeekBoats") (by decide +kernel))
  have a4 := hts _ (List.mem_of_getElem? (l := lw_tbl) (i := 507) (a := Cond.methodLinkNest "WeekBoats" 78 ⟨"WeekBoats$Yard", "<init>", "()V"⟩ "WeekBoats") (by decide +kernel))
  have a5 := hts _ (List.mem_of_getElem? (l := lw_tbl) (i := 626) (a := Cond.methodLinkNest "WeekBoats" 94 ⟨"WeekBoats$Rain", "<init>", "()V"⟩ "WeekBoats") (by decide +kernel))
  exact ⟨va_AOA.of a0, List.forall_mem_cons.mpr ⟨va_Nw.of rfl a1, List.forall_mem_cons.mpr ⟨va_Nw.of rfl a2, List.forall_mem_cons.mpr ⟨va_Nw.of rfl a3, List.forall_mem_cons.mpr ⟨va_Nw.of rfl a4, List.forall_mem_cons.mpr ⟨va_Nw.of rfl a5, fun _ h => absurd h List.not_mem_nil⟩⟩⟩⟩⟩⟩
theorem st_arr {s : State} {args : Array Value} {ty : FieldType} (h : (Cond.arrayClass ty).before args s = true) : ∃ cA : ClassId, ArrOfT s cA ty ∧ s.vm.findClass ("[" ++ ty.toString) = some cA := by
  obtain ⟨c, k, comp, h1, h2, h3⟩ := Cond.arrayClass_spec h
  exact ⟨c, fun n z => ⟨fun k h => (by cases h), k, h2, comp, h3⟩, h1⟩
theorem st_over {s : State} {args : Array Value} {t : FieldType} (h : (Cond.arrayOver (.array t)).before args s = true) : ∃ cA : ClassId, ArrOfT s cA (.array t) ∧ s.vm.findClass ("[" ++ (FieldType.array t).toString) = some cA := by
  obtain ⟨comp, c, k, h1, h2, h3, h4⟩ := Cond.arrayOver_specA h
  exact ⟨c, fun n z => ⟨fun k h => (by cases h), k, h2, comp, h3⟩, h4⟩
theorem st_class {s : State} {args : Array Value} {C : String} {T : u_T} {N i : Nat} (hts : ∀ w ∈ lw_tbl, w.before args s = true) (hin : ∀ w ∈ u_ws C T N, w ∈ lw_gd) (hi : lw_tbl[i]? = some (Cond.instantiable C N)) : ∃ p : ClassId × (Nat → Nat), u_Kn s C T N p.1 p.2 := by
  obtain ⟨c, f, h⟩ := u_known (ws := lw_gd) (n := N) (fun w hw => hts w (List.mem_filter.mp hw).1) hin (hts _ (List.mem_of_getElem? hi))
  exact ⟨(c, f), h⟩
theorem st_known {s : State} {args : Array Value} (hts : ∀ w ∈ lw_tbl, w.before args s = true) : ∃ E : CE, va_K E.1 vwCl (cTy E) s := by
  have h : ∀ k : Nat, ∃ p : ClassId × (Nat → Nat), ∀ q : vw_C, vwCl[k]? = some q → u_Kn s q.1 q.2.1 q.2.2 p.1 p.2 := by
    intro k
    by_cases hk : k < 13
    · have key : ∀ {C : String} {T : u_T} {N : Nat} {k : Nat}, vwCl[k]? = some (C, T, N) → (∃ p : ClassId × (Nat → Nat), u_Kn s C T N p.1 p.2) → ∃ p : ClassId × (Nat → Nat), ∀ q : vw_C, vwCl[k]? = some q → u_Kn s q.1 q.2.1 q.2.2 p.1 p.2 := by
        intro C T N k hk2 hp
        obtain ⟨p, hp⟩ := hp
        refine ⟨p, fun q hq => ?_⟩
        rw [hk2] at hq
        cases hq
        exact hp
      rcases (show k = 0 ∨ k = 1 ∨ k = 2 ∨ k = 3 ∨ k = 4 ∨ k = 5 ∨ k = 6 ∨ k = 7 ∨ k = 8 ∨ k = 9 ∨ k = 10 ∨ k = 11 ∨ k = 12 by omega) with rfl | rfl | rfl | rfl | rfl | rfl | rfl | rfl | rfl | rfl | rfl | rfl | rfl
      · exact key rfl (st_class (i := 327) hts gX0 (by decide +kernel))
      · exact key rfl (st_class (i := 444) hts gX1 (by decide +kernel))
      · exact key rfl (st_class (i := 142) hts gX2 (by decide +kernel))
      · exact key rfl (st_class (i := 413) hts gX3 (by decide +kernel))
      · exact key rfl (st_class (i := 254) hts gX4 (by decide +kernel))
      · exact key rfl (st_class (i := 625) hts gX5 (by decide +kernel))
      · exact key rfl (st_class (i := 186) hts gX6 (by decide +kernel))
      · exact key rfl (st_class (i := 378) hts gX7 (by decide +kernel))
      · exact key rfl (st_class (i := 566) hts gX8 (by decide +kernel))
      · exact key rfl (st_class (i := 291) hts gX9 (by decide +kernel))
      · exact key rfl (st_class (i := 506) hts gX10 (by decide +kernel))
      · exact key rfl (st_class (i := 134) hts gX11 (by decide +kernel))
      · exact key rfl (st_class (i := 1493) hts gX12 (by decide +kernel))
    · refine ⟨(0, fun _ => 0), fun q hq => ?_⟩
      have hl := (List.getElem?_eq_some_iff.mp hq).1
      have : vwCl.length = 13 := rfl
      omega
  obtain ⟨f, hf⟩ := Classical.axiomOfChoice h
  obtain ⟨cI, i1, i2⟩ := st_arr (ty := .int) (hts _ (List.mem_of_getElem? (l := lw_tbl) (i := 184) (by decide +kernel)))
  obtain ⟨cZ, z1, z2⟩ := st_arr (ty := .boolean) (hts _ (List.mem_of_getElem? (l := lw_tbl) (i := 1802) (by decide +kernel)))
  obtain ⟨cQ, q1, q2⟩ := st_over (t := .int) (hts _ (List.mem_of_getElem? (l := lw_tbl) (i := 333) (by decide +kernel)))
  refine ⟨((fun k => (f k).1, fun k => (f k).2), cI, cZ, cQ), fun k q hq => hf k q hq, fun k q hq => ?_⟩
  match k, hq with
  | 0, hq => cases hq; exact ⟨i1, i2⟩
  | 1, hq => cases hq; exact ⟨z1, z2⟩
  | 2, hq => cases hq; exact ⟨q1, q2⟩
  | n + 3, hq => simp [cTy] at hq
