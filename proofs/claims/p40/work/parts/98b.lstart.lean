/-! the law's two objects -/
section LAWN
def LNC (p : Program) (s : State) (m : MethodId) (meth : Method) (c : Code) (b L : Nat) (xs : Nat → Int32) (E : CE) : Prop := lw_At p s m meth c b L xs ∧ va_K E.1 vwCl (cTy E) s ∧ KWb s
def LN (p : Program) (l : Launch) (e : Env) (s : State) (m : MethodId) (below : List Frame) (meth : Method) (c : Code) (b : Nat) (E : CE) (pc : Nat) (lv : List (Nat × Value)) (st : List Value) (ws : va_W) (cells slots : Nat) : Prop :=
  ∀ (H : Heap) (locs : List Loc) (ls : Array Slot), cP E ws H → va_D (fun q => s.heap.size ≤ q) ws → va_S (fun q => s.heap.size ≤ q) s.heap H locs → lv_has ls 4 lv → W p l e room_1 s m #[Value.ref b] below meth c H locs cells slots (lw_Z below #[Value.ref b] s) (F0 m pc ls st)
variable {p : Program} {l : Launch} {e : Env} {s : State} {m : MethodId} {below : List Frame} {meth : Method} {c : Code} {b L : Nat} {xs : Nat → Int32} {E : CE} {pc : Nat} {lv : List (Nat × Value)} {st : List Value} {ws : va_W} {cells slots : Nat}
theorem LNC.ts (C : LNC p s m meth c b L xs E) : ∀ w ∈ lw_gd, w.before #[Value.ref b] s = true := fun w hw => C.1.2.2.2.2.2.1 w (List.mem_filter.mp hw).1
theorem LN.new (C : LNC p s m meth c b L xs E) {C1 : String} {T : u_T} {ty : Nat → FieldType} {N cj idx : Nat} {fs1 : List Value} (hin : ∀ w ∈ u_ws C1 T N, w ∈ lw_gd) (hty : ∀ k, k < N → parseFieldDescriptor (T k).2.2.1 = some (ty k)) (h1 : Cond.classLink "WeekBoatsLaw" idx C1 ∈ lw_gd) (h2 : Cond.instantiable C1 N ∈ lw_gd) (h3 : Cond.initialized C1 ∈ lw_gd) (hcj : vwCl[cj]? = some (C1, T, N)) (hfs : ∀ j, j < N → defaultValue (ty j) = vp_V fs1 j) (hc : cells + 1 ≤ 600000) (hs : slots + N ≤ 7302250) (hd : decode code pc = .ok (.new idx, 3))
    (kk : ∀ q : Nat, LN p l e s m below meth c b E (pc + 3) lv (.ref q :: st) (ws ++ [(q, .inr (cj, fs1))]) (cells + 1) (slots + N)) : LN p l e s m below meth c b E pc lv st ws cells slots := by
  intro H locs ls hP hD hS hl
  exact va_new (ci := cj) C.1.1 C.1.2.1 C.ts hin ty hty C.1.2.2.2.2.1 (C.ts _ h1) (C.ts _ h2) (C.ts _ h3) C.2.1 hP hD hS (fun _ h => h) hcj hfs hc hs hd (fun q H1 hP1 hD1 hS1 => kk q H1 locs ls hP1 hD1 hS1 hl)
theorem LN.dup (C : LNC p s m meth c b L xs E) {x : Nat} (hd : decode code pc = .ok (.dup, 1)) (k : LN p l e s m below meth c b E (pc + 1) lv (.ref x :: .ref x :: st) ws cells slots) : LN p l e s m below meth c b E pc lv (.ref x :: st) ws cells slots := fun H locs ls hP hD hS hl => lv_dup C.1.1 C.1.2.1 hd rfl (k H locs ls hP hD hS hl)
theorem LN.astore_n (C : LNC p s m meth c b L xs E) {i : Fin 4} {x : Nat} {lv1 : List (Nat × Value)} (hd : decode code pc = .ok (.astore_n i, 1)) (hn : (i : Nat) < 4) (hl1 : ((i : Nat), .ref x) :: lv.filter (fun q => !(q.1 == (i : Nat)) && !(q.1 + 1 == (i : Nat) && q.2.category == 2)) = lv1) (k : LN p l e s m below meth c b E (pc + 1) lv1 st ws cells slots) : LN p l e s m below meth c b E pc lv (.ref x :: st) ws cells slots := fun H locs ls hP hD hS hl => lv_astore_n C.1.1 C.1.2.1 hd rfl hl hn hl1 (fun ls hl => k H locs ls hP hD hS hl)
theorem LN.iconst (C : LNC p s m meth c b L xs E) {n : Int} (hd : decode code pc = .ok (.iconst n, 1)) (k : LN p l e s m below meth c b E (pc + 1) lv (iv n :: st) ws cells slots) : LN p l e s m below meth c b E pc lv st ws cells slots := fun H locs ls hP hD hS hl => lv_iconst C.1.1 C.1.2.1 hd rfl (k H locs ls hP hD hS hl)
theorem LN.istore_n (C : LNC p s m meth c b L xs E) {i : Fin 4} {x : Int} {lv1 : List (Nat × Value)} (hd : decode code pc = .ok (.istore_n i, 1)) (hn : (i : Nat) < 4) (hl1 : ((i : Nat), iv x) :: lv.filter (fun q => !(q.1 == (i : Nat)) && !(q.1 + 1 == (i : Nat) && q.2.category == 2)) = lv1) (k : LN p l e s m below meth c b E (pc + 1) lv1 st ws cells slots) : LN p l e s m below meth c b E pc lv (iv x :: st) ws cells slots := fun H locs ls hP hD hS hl => lv_istore_n C.1.1 C.1.2.1 hd rfl hl hn hl1 (fun ls hl => k H locs ls hP hD hS hl)
theorem LN.runI (C : LNC p s m meth c b L xs E) {idx a cj nL' d' mc ms : Nat} {y : MethodName} {b' : ByteArray} {fs1 : List Value} {K' : State → Prop} {fF : (Nat → Nat) → List Value} {fA : (Nat → Nat) → va_W}
    (hM : CM E y b' nL' d' cj a [] fs1 K' fF fA mc ms) (hK' : StK K') (hKK : ∀ U, KWb U → K' U) (hy : y.name = "<init>") (h3 : Cond.code y b' nL' none ∈ lw_gd) (hini : Cond.initialized y.cls ∈ lw_gd) (hins : Cond.instanceMethod y ∈ lw_gd)
    (hlink : Cond.methodLink "WeekBoatsLaw" idx y ∈ lw_gd) (hyd : y.cls ≠ "java/lang/invoke/MethodHandle" ∧ y.cls ≠ "java/lang/invoke/VarHandle" ∧ (parseMethodDescriptor y.desc).map (fun d => d.parameters.length) = some 0)
    (hf : d' + 1 ≤ 2048) (hlo : 8 + (nL' + 11) + 64 * d' ≤ 84000) (hcl : cells + mc ≤ 600000) (hsl : slots + ms ≤ 7302250) (hc : (st.map fun v => v.category).sum ≤ 8) (hd : decode code pc = .ok (.invokespecial idx, 3))
    (kk : ∀ q : Nat → Nat, LN p l e s m below meth c b E (pc + 3) lv st (ws ++ ((a, .inr (cj, fF q)) :: fA q)) (cells + mc) (slots + ms)) : LN p l e s m below meth c b E pc lv (.ref a :: st) (ws ++ [(a, .inr (cj, fs1))]) cells slots := by
  intro H locs ls hP hD hS hl
  have hts := C.ts
  have hlast : (ws ++ [(a, (.inr (cj, fs1) : va_E))])[ws.length]? = some (a, .inr (cj, fs1)) := by
    rw [List.getElem?_append_right (Nat.le_refl _), Nat.sub_self]
    rfl
  have hPc : cP E [(a, .inr (cj, fs1))] H := fun k q hk => by
    have hk0 : k = 0 := by
      have := (List.getElem?_eq_some_iff.mp hk).1
      simp at this
      exact this
    subst hk0
    cases hk
    exact hP ws.length _ hlast
  have hFc : ∀ q, va_A [(a, .inr (cj, fs1))] H.size q → (fun q => s.heap.size ≤ q) q := by
    intro q h
    rcases h with ⟨k, e, h⟩ | h
    · have hk0 : k = 0 := by
        have := (List.getElem?_eq_some_iff.mp h).1
        simp at this
        exact this
      subst hk0
      have hx : a = q := congrArg Prod.fst (Option.some.inj h)
      subst hx
      exact hD.2 ws.length _ hlast
    · exact Nat.le_trans hS.1 h
  have hpre : PreS s H (va_Pc (.ref a :: []) (fun U => U.heap.size = H.size ∧ cP E [(a, .inr (cj, fs1))] U.heap ∧ va_K E.1 vwCl (cTy E) U ∧ K' U)) (.ref a :: []) := ⟨cblind hK', fun U hU hW => ⟨rfl, by rw [hU], by rw [hU]; exact hPc, va_K.moved hW.alike C.2.1, hK'.2 _ _ hW (hKK _ C.2.2)⟩⟩
  have hrun := va_runI (R := room_1) (p := p) (e := e) (meth := meth) (below := below) (locs := locs) (cells := cells) (slots := slots) (As := []) (rest := st) (g := F0 m pc ls (.ref a :: st)) ⟨C.1.1, C.1.2.1, C.1.2.2.2.1, C.1.2.2.2.2.1, hts⟩ (hM l H.size) ⟨callB_of 0 hts (good_code h3) rfl rfl rfl (hts _ hini) (hts _ hlink) hyd ⟨hf, hlo⟩, hy, hts _ hins⟩ hpre rfl rfl hl.1 rfl (by show 2 * 0 + _ ≤ 8; omega) hd ⟨hcl, hsl⟩
  intro T hT X
  obtain ⟨v, st₀, t, T', L9, e0, X', hL, e1, e2, ⟨⟨hv, q, hP1, hD1⟩, hz, hk⟩, stp⟩ := hrun T hT X
  cases hv
  rw [e0] at hz hk
  have hS1 : va_S (fun q => s.heap.size ≤ q) s.heap T'.heap (locs ++ L9) := by
    refine ⟨Nat.le_trans hS.1 (by rw [e1]; exact hz), fun q h1 h2 => by rw [e1, hk q (Nat.lt_of_lt_of_le h1 hS.1) (fun h => h2 (hFc q h))]; exact hS.2.1 q h1 h2, fun q hq => ?_⟩
    rcases List.mem_append.mp hq with h | h
    · exact hS.2.2 q h
    · exact hFc _ (hL q h)
  have hJ := join2 (wr := ws) (wc := [(a, .inr (cj, fs1))]) (w1 := (a, .inr (cj, fF q)) :: fA q) hP hD hk hFc hP1 hD1
  obtain ⟨t2, a1, b1⟩ := kk q T'.heap (locs ++ L9) ls (by rw [e1]; exact hJ.1) hJ.2 hS1 hl T' rfl X'
  exact ⟨t2, stp t2 a1, b1⟩
end LAWN
