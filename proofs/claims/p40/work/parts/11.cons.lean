/-! CONSTRUCTORS: an object at h0, and the cells that have been made beside it -/
abbrev CE : Type := va_G × ClassId × ClassId × ClassId
def cTy (E : CE) : List (ClassId × FieldType) := [(E.2.1, .int), (E.2.2.1, .boolean), (E.2.2.2, .array .int)]
def cR (d mc ms : Nat) : Room := { frames := d, cells := mc, slots := ms, locals := 64 * d }
abbrev cP (E : CE) (ws : va_W) (H : Heap) : Prop := va_P E.1 vwCl ws H
def cqc (E : CE) (h0 ci : Nat) (fF : (Nat → Nat) → List Value) (fA : (Nat → Nat) → va_W) (A : Nat → Prop) : Array Value → State → Outcome → State → Prop :=
  fun _ st o t => (o = .returned none ∧ ∃ q : Nat → Nat, cP E ((h0, .inr (ci, fF q)) :: fA q) t.heap ∧ va_D A ((h0, .inr (ci, fF q)) :: fA q)) ∧ va_F A st t
def cC (E : CE) (own : String) (b : ByteArray) (nL : Nat) (A : Nat → Prop) (K : State → Prop) (p : Program) (s : State) (m : MethodId) (args : Array Value) (meth : Method) (c : Code) : Prop :=
  p.tables.exec = Jvm.exec ∧ c.code = b ∧ meth.sig.returnType = none ∧ c.maxLocals = nL ∧ s.vm.findClass own = some m.cls ∧ (∀ w ∈ lw_gd, w.before args s = true) ∧ meth.locks = false ∧ meth.name = "<init>" ∧ va_K E.1 vwCl (cTy E) s ∧ K s ∧ ∀ q, s.heap.size ≤ q → A q
def CW (E : CE) (own : String) (b : ByteArray) (nL : Nat) (R : Room) (ci h0 : Nat) (A : Nat → Prop) (K : State → Prop) (Fz : List Frame → Array Value → State → State → Prop) (pc : Nat) (lv : List (Nat × Value)) (st fs : List Value) (arrs : va_W) (cells slots : Nat) : Prop :=
  ∀ (p : Program) (l : Launch) (e : Env) (s : State) (m : MethodId) (args : Array Value) (below : List Frame) (meth : Method) (c : Code) (H : Heap) (locs : List Loc) (ls : Array Slot),
    cC E own b nL A K p s m args meth c → cP E ((h0, .inr (ci, fs)) :: arrs) H → va_D A ((h0, .inr (ci, fs)) :: arrs) → va_S A s.heap H locs → lv_has ls nL lv →
    W p l e R s m args below meth c H locs cells slots (Fz below args s) (F0 m pc ls st)
section CWR
variable {E : CE} {own : String} {b : ByteArray} {nL : Nat} {R : Room} {ci h0 : Nat} {A : Nat → Prop} {K : State → Prop} {Fz : List Frame → Array Value → State → State → Prop} {pc : Nat} {lv : List (Nat × Value)} {st fs : List Value} {arrs : va_W} {cells slots : Nat}
theorem CW.aload_n {i : Fin 4} {x : Nat} (q : Nat) (hd : decode b pc = .ok (.aload_n i, 1)) (hq : lv[q]? = some ((i : Nat), .ref x)) (k : CW E own b nL R ci h0 A K Fz (pc + 1) lv (.ref x :: st) fs arrs cells slots) : CW E own b nL R ci h0 A K Fz pc lv st fs arrs cells slots := by
  intro p l e s m args below meth c H locs ls C hP hD hS hl
  exact lv_aload_n C.1 C.2.1 hd rfl (lv_at hl q hq) (k p l e s m args below meth c H locs ls C hP hD hS hl)
theorem CW.iconst {n : Int} (hd : decode b pc = .ok (.iconst n, 1)) (k : CW E own b nL R ci h0 A K Fz (pc + 1) lv (iv n :: st) fs arrs cells slots) : CW E own b nL R ci h0 A K Fz pc lv st fs arrs cells slots := by
  intro p l e s m args below meth c H locs ls C hP hD hS hl
  exact lv_iconst C.1 C.2.1 hd rfl (k p l e s m args below meth c H locs ls C hP hD hS hl)
theorem CW.bipush {n : Int} (hd : decode b pc = .ok (.bipush n, 2)) (h1 : -128 ≤ n) (h2 : n ≤ 127) (k : CW E own b nL R ci h0 A K Fz (pc + 2) lv (iv n :: st) fs arrs cells slots) : CW E own b nL R ci h0 A K Fz pc lv st fs arrs cells slots := by
  intro p l e s m args below meth c H locs ls C hP hD hS hl
  exact lv_bipush C.1 C.2.1 hd (Int8.toInt32_ofInt h1 h2) (k p l e s m args below meth c H locs ls C hP hD hS hl)
theorem CW.sipush {n : Int} (hd : decode b pc = .ok (.sipush n, 3)) (h1 : -32768 ≤ n) (h2 : n ≤ 32767) (k : CW E own b nL R ci h0 A K Fz (pc + 3) lv (iv n :: st) fs arrs cells slots) : CW E own b nL R ci h0 A K Fz pc lv st fs arrs cells slots := by
  intro p l e s m args below meth c H locs ls C hP hD hS hl
  exact lv_sipush C.1 C.2.1 hd (Int16.toInt32_ofInt h1 h2) (k p l e s m args below meth c H locs ls C hP hD hS hl)
theorem CW.dup {x : Nat} (hd : decode b pc = .ok (.dup, 1)) (k : CW E own b nL R ci h0 A K Fz (pc + 1) lv (.ref x :: .ref x :: st) fs arrs cells slots) : CW E own b nL R ci h0 A K Fz pc lv (.ref x :: st) fs arrs cells slots := by
  intro p l e s m args below meth c H locs ls C hP hD hS hl
  exact lv_dup C.1 C.2.1 hd rfl (k p l e s m args below meth c H locs ls C hP hD hS hl)
theorem CW.objInit {idx x : Nat} (hF : Cond.methodLink own idx Lib.objectInit ∈ lw_gd) (h1 : Cond.instanceMethod Lib.objectInit ∈ lw_gd) (h2 : Cond.code Lib.objectInit ⟨#[0xb1]⟩ 1 none ∈ lw_gd) (hf : 1 ≤ R.frames) (hR : (st.map fun v => v.category).sum + 12 ≤ R.locals) (hd : decode b pc = .ok (.invokespecial idx, 3)) (k : CW E own b nL R ci h0 A K Fz (pc + 3) lv st fs arrs cells slots) : CW E own b nL R ci h0 A K Fz pc lv (.ref x :: st) fs arrs cells slots := by
  intro p l e s m args below meth c H locs ls C hP hD hS hl
  exact W.objInit C.1 C.2.1 C.2.2.2.2.1 (C.2.2.2.2.2.1 _ hF) (C.2.2.2.2.2.1 _ h1) (C.2.2.2.2.2.1 _ h2) rfl (by rw [C.2.2.2.1]; exact hl.1) rfl hd hf (by show 2 * 0 + _ + 12 ≤ _; omega) (W.eq rfl (k p l e s m args below meth c H locs ls C hP hD hS hl))
theorem CW.get {idx k N : Nat} {T : u_T} {v : Value} (hc : vwCl[ci]? = some (own, T, N)) (hin : ∀ w ∈ u_ws own T N, w ∈ lw_gd) (hk : k < N) (hw : Cond.fieldLink own idx (T k).1 (T k).2.1 (T k).2.2.1 ∈ lw_gd) (hv : fs[k]? = some v) (hd : decode b pc = .ok (.getfield idx, 3)) (kk : CW E own b nL R ci h0 A K Fz (pc + 3) lv (v :: st) fs arrs cells slots) : CW E own b nL R ci h0 A K Fz pc lv (.ref h0 :: st) fs arrs cells slots := by
  intro p l e s m args below meth c H locs ls C hP hD hS hl
  exact va_get (ci := ci) C.1 C.2.1 C.2.2.2.2.2.1 hin C.2.2.2.2.1 C.2.2.2.2.2.2.2.2.1 hP 0 rfl hc k hk (C.2.2.2.2.2.1 _ hw) (fun _ h => h) hv hd (kk p l e s m args below meth c H locs ls C hP hD hS hl)
theorem CW.putF {idx k N : Nat} {T : u_T} {ty0 : Nat → FieldType} {ty : FieldType} {v : Value} (hc : vwCl[ci]? = some (own, T, N)) (hin : ∀ w ∈ u_ws own T N, w ∈ lw_gd) (hty : ∀ j, j < N → parseFieldDescriptor (T j).2.2.1 = some (ty0 j)) (hnm : ∀ a, a < N → ∀ b, b < N → a ≠ b → (T a).2.1 ≠ (T b).2.1) (hk : k < N) (hw : Cond.fieldLink own idx (T k).1 (T k).2.1 (T k).2.2.1 ∈ lw_gd) (hfin : (T k).2.2.2 = true) (hdecl : (T k).1 = own) (hpd : parseFieldDescriptor (T k).2.2.1 = some ty) (hn : narrow ty v = v) (hfit : fits ty v = true) (hl0 : k < fs.length) (hd : decode b pc = .ok (.putfield idx, 3))
    (kk : CW E own b nL R ci h0 A K Fz (pc + 3) lv st (fs.set k v) arrs cells slots) : CW E own b nL R ci h0 A K Fz pc lv (v :: .ref h0 :: st) fs arrs cells slots := by
  intro p l e s m args below meth c H locs ls C hP hD hS hl
  exact va_putF (ci := ci) C.1 C.2.1 C.2.2.2.2.2.1 hin ty0 hty hnm C.2.2.2.2.1 C.2.2.2.2.2.2.2.2.1 hP hD hS 0 rfl hc k hk (C.2.2.2.2.2.1 _ hw) (fun _ h => h) hfin C.2.2.2.2.2.2.2.1 hdecl hpd hn hfit hl0 hd (fun H1 locs1 hP1 hD1 hS1 => kk p l e s m args below meth c H1 locs1 ls C hP1 hD1 hS1 hl)
theorem CW.put {idx k N : Nat} {T : u_T} {ty0 : Nat → FieldType} {ty : FieldType} {v : Value} (hc : vwCl[ci]? = some (own, T, N)) (hin : ∀ w ∈ u_ws own T N, w ∈ lw_gd) (hty : ∀ j, j < N → parseFieldDescriptor (T j).2.2.1 = some (ty0 j)) (hnm : ∀ a, a < N → ∀ b, b < N → a ≠ b → (T a).2.1 ≠ (T b).2.1) (hk : k < N) (hw : Cond.fieldLink own idx (T k).1 (T k).2.1 (T k).2.2.1 ∈ lw_gd) (hfin : (T k).2.2.2 = false) (hpd : parseFieldDescriptor (T k).2.2.1 = some ty) (hn : narrow ty v = v) (hfit : fits ty v = true) (hl0 : k < fs.length) (hd : decode b pc = .ok (.putfield idx, 3))
    (kk : CW E own b nL R ci h0 A K Fz (pc + 3) lv st (fs.set k v) arrs cells slots) : CW E own b nL R ci h0 A K Fz pc lv (v :: .ref h0 :: st) fs arrs cells slots := by
  intro p l e s m args below meth c H locs ls C hP hD hS hl
  exact va_put (ci := ci) C.1 C.2.1 C.2.2.2.2.2.1 hin ty0 hty hnm C.2.2.2.2.1 C.2.2.2.2.2.2.2.2.1 hP hD hS 0 rfl hc k hk (C.2.2.2.2.2.1 _ hw) (fun _ h => h) hfin hpd hn hfit hl0 hd (fun H1 locs1 hP1 hD1 hS1 => kk p l e s m args below meth c H1 locs1 ls C hP1 hD1 hS1 hl)
theorem CW.newi {n : Nat} (hn : n < 100000) (harr : Cond.arrayClass .int ∈ lw_gd) (hc : cells + 1 ≤ R.cells) (hs : slots + n ≤ R.slots) (hd : decode b pc = .ok (.newarray .int, 2)) (kk : ∀ q : Nat, CW E own b nL R ci h0 A K Fz (pc + 2) lv (.ref q :: st) fs (arrs ++ [(q, .inl (E.2.1, (n, .inl (fun _ => 0))))]) (cells + 1) (slots + n)) : CW E own b nL R ci h0 A K Fz pc lv (iv n :: st) fs arrs cells slots := by
  intro p l e s m args below meth c H locs ls C hP hD hS hl
  have en : nw (n : Int) = n := nw_id (by omega) (by omega)
  refine va_newa (atype := .int) (a0 := (n, .inl (fun _ => 0))) (N' := n) C.1 C.2.1 (C.2.2.2.2.2.1 _ harr) rfl C.2.2.2.2.2.2.2.2.1 hP hD hS C.2.2.2.2.2.2.2.2.2.2 (fun cA => rfl) (fun q => by have := (i32_lt0 _).mp q; omega) (by rw [i32_clamp]; unfold ix; omega) (by show n * 4 ≤ _; omega) hc hs hd (fun q cA H1 hK1 hP1 hD1 hS1 => ?_)
  have e1 : s.vm.findClass "[I" = some cA := (hK1.2 3 _ rfl).2
  have e2 : s.vm.findClass "[I" = some E.2.1 := (C.2.2.2.2.2.2.2.2.1.2 0 _ rfl).2
  have e3 : cA = E.2.1 := Option.some.inj (e1.symm.trans e2)
  subst e3
  exact kk q p l e s m args below meth c H1 locs ls C hP1 hD1 hS1 hl
theorem CW.newz {n : Nat} (hn : n < 100000) (harr : Cond.arrayClass .boolean ∈ lw_gd) (hc : cells + 1 ≤ R.cells) (hs : slots + n ≤ R.slots) (hd : decode b pc = .ok (.newarray .boolean, 2)) (kk : ∀ q : Nat, CW E own b nL R ci h0 A K Fz (pc + 2) lv (.ref q :: st) fs (arrs ++ [(q, .inl (E.2.2.1, (n, .inl (fun _ => 0))))]) (cells + 1) (slots + n)) : CW E own b nL R ci h0 A K Fz pc lv (iv n :: st) fs arrs cells slots := by
  intro p l e s m args below meth c H locs ls C hP hD hS hl
  have en : nw (n : Int) = n := nw_id (by omega) (by omega)
  refine va_newa (atype := .boolean) (a0 := (n, .inl (fun _ => 0))) (N' := n) C.1 C.2.1 (C.2.2.2.2.2.1 _ harr) rfl C.2.2.2.2.2.2.2.2.1 hP hD hS C.2.2.2.2.2.2.2.2.2.2 (fun cA => rfl) (fun q => by have := (i32_lt0 _).mp q; omega) (by rw [i32_clamp]; unfold ix; omega) (by show n * 1 ≤ _; omega) hc hs hd (fun q cA H1 hK1 hP1 hD1 hS1 => ?_)
  have e1 : s.vm.findClass "[Z" = some cA := (hK1.2 3 _ rfl).2
  have e2 : s.vm.findClass "[Z" = some E.2.2.1 := (C.2.2.2.2.2.2.2.2.1.2 1 _ rfl).2
  have e3 : cA = E.2.2.1 := Option.some.inj (e1.symm.trans e2)
  subst e3
  exact kk q p l e s m args below meth c H1 locs ls C hP1 hD1 hS1 hl
theorem CW.ret {fF : (Nat → Nat) → List Value} {fA : (Nat → Nat) → va_W} {mc ms : Nat} (q : Nat → Nat) (hf : fF q = fs) (ha : fA q = arrs) (hc : cells = mc) (hs : slots = ms) (hd : decode b pc = .ok (.return_, 1)) : CW E own b nL R ci h0 A K (fun below args s => MQ below (cqc E h0 ci fF fA A) args s mc ms A) pc lv [] fs arrs cells slots := by
  intro p l e s m args below meth c H locs ls C hP hD hS hl
  subst hc
  subst hs
  subst hf
  subst ha
  exact W.vret C.1 C.2.1 C.2.2.1 (fun t ht _ => ⟨⟨rfl, q, by rw [ht]; exact hP, hD⟩, hS.F ht⟩) hS.2.2 hd C.2.2.2.2.2.2.1
theorem CW.new {C1 : String} {T : u_T} {ty : Nat → FieldType} {N cj idx : Nat} {fs1 : List Value} (hin : ∀ w ∈ u_ws C1 T N, w ∈ lw_gd) (hty : ∀ k, k < N → parseFieldDescriptor (T k).2.2.1 = some (ty k)) (h1 : Cond.classLink own idx C1 ∈ lw_gd) (h2 : Cond.instantiable C1 N ∈ lw_gd) (h3 : Cond.initialized C1 ∈ lw_gd) (hcj : vwCl[cj]? = some (C1, T, N)) (hfs : ∀ j, j < N → defaultValue (ty j) = vp_V fs1 j) (hc : cells + 1 ≤ R.cells) (hs : slots + N ≤ R.slots) (hd : decode b pc = .ok (.new idx, 3))
    (kk : ∀ q : Nat, CW E own b nL R ci h0 A K Fz (pc + 3) lv (.ref q :: st) fs (arrs ++ [(q, .inr (cj, fs1))]) (cells + 1) (slots + N)) : CW E own b nL R ci h0 A K Fz pc lv st fs arrs cells slots := by
  intro p l e s m args below meth c H locs ls C hP hD hS hl
  exact va_new (ci := cj) C.1 C.2.1 C.2.2.2.2.2.1 hin ty hty C.2.2.2.2.1 (C.2.2.2.2.2.1 _ h1) (C.2.2.2.2.2.1 _ h2) (C.2.2.2.2.2.1 _ h3) C.2.2.2.2.2.2.2.2.1 hP hD hS C.2.2.2.2.2.2.2.2.2.2 hcj hfs hc hs hd (fun q H1 hP1 hD1 hS1 => kk q p l e s m args below meth c H1 locs ls C hP1 hD1 hS1 hl)
end CWR
/-- a constructor's contract -/
def CM (E : CE) (y : MethodName) (b : ByteArray) (nL d : Nat) (ci h0 : Nat) (As fs0 : List Value) (K : State → Prop) (fF : (Nat → Nat) → List Value) (fA : (Nat → Nat) → va_W) (mc ms : Nat) : Prop :=
  ∀ (l : Launch) (sz : Nat), Met l y (Cond.code y b nL none :: lw_gd) (cR d mc ms) (va_Pc (.ref h0 :: As) (fun U => U.heap.size = sz ∧ cP E [(h0, .inr (ci, fs0))] U.heap ∧ va_K E.1 vwCl (cTy E) U ∧ K U)) (cqc E h0 ci fF fA (va_A [(h0, .inr (ci, fs0))] sz)) mc ms (va_A [(h0, .inr (ci, fs0))] sz)
theorem CM.of {E : CE} {y : MethodName} {b : ByteArray} {nL d ci h0 mc ms : Nat} {As fs0 : List Value} {K : State → Prop} {fF : (Nat → Nat) → List Value} {fA : (Nat → Nat) → va_W} (hy : plainName y.cls = true) (hi : y.name = "<init>") (hn : (lg_sl (.ref h0 :: As)).length ≤ nL)
    (h : ∀ A : Nat → Prop, CW E y.cls b nL (cR d mc ms) ci h0 A K (fun below args s => MQ below (cqc E h0 ci fF fA A) args s mc ms A) 0 (lv_args 0 (.ref h0 :: As)) [] fs0 [] 0 0) : CM E y b nL d ci h0 As fs0 K fF fA mc ms := by
  intro l sz
  refine Met.ofW (cc := b) (maxL := nL) (ret := none) hy rfl ?_
  intro p e s m args below meth c s₁ B hml hv
  obtain ⟨rfl, hsz, hP, hK, hK2⟩ := hv
  subst hsz
  have hts := atoms_spec (ws := Cond.code y b nL none :: lw_gd) B.pre
  have hown : s.vm.findClass y.cls = some m.cls := findClass_of_methodNamed B.named
  have hin : meth.name = "<init>" := (name_of_methodNamed B.named B.method).1.trans hi
  have hl := lv_entry (.ref h0 :: As) (n := nL) hn
  rw [lg_entry_eq]
  have hD0 : va_D (va_A [(h0, .inr (ci, fs0))] s.heap.size) [(h0, .inr (ci, fs0))] := by
    refine ⟨fun i j p q hi hj _ => ?_, fun k q hk => Or.inl ⟨k, q.2, hk⟩⟩
    have a1 := (List.getElem?_eq_some_iff.mp hi).1
    have a2 := (List.getElem?_eq_some_iff.mp hj).1
    simp at a1 a2
    omega
  exact h (va_A [(h0, .inr (ci, fs0))] s.heap.size) p l e s m _ below meth c s.heap [] _ ⟨B.exec, B.bytes, B.returns, hml, hown, fun w hw => hts w (List.mem_cons_of_mem _ hw), B.notSynchronized, hin, hK, hK2, fun q h => Or.inr h⟩ hP hD0 va_S.rf hl
/-! what comes back of a call, beside the rest -/
theorem join2 {A0 : Nat → Prop} {D : va_G} {cl : List vw_C} {wr wc w1 : va_W} {H H1 : Heap} (hP : va_P D cl (wr ++ wc) H) (hD : va_D A0 (wr ++ wc)) (hk : ∀ q : Nat, q < H.size → ¬ va_A wc H.size q → H1[q]? = H[q]?) (hF : ∀ q, va_A wc H.size q → A0 q) (hP1 : va_P D cl w1 H1) (hD1 : va_D (va_A wc H.size) w1) : va_P D cl (wr ++ w1) H1 ∧ va_D A0 (wr ++ w1) := by
  have left : ∀ (k : Nat) (q : Nat × va_E), wr[k]? = some q → (wr ++ wc)[k]? = some q := fun k q h => by
    rw [List.getElem?_append_left (List.getElem?_eq_some_iff.mp h).1]; exact h
  have apart : ∀ (k : Nat) (q : Nat × va_E), wr[k]? = some q → q.1 < H.size ∧ ¬ va_A wc H.size q.1 := by
    intro k q hq
    have hl := (hP k q (left k q hq)).lt
    have hkl := (List.getElem?_eq_some_iff.mp hq).1
    refine ⟨hl, fun h => ?_⟩
    rcases h with ⟨k2, e, h⟩ | h
    · have h2 : (wr ++ wc)[wr.length + k2]? = some (q.1, e) := by
        rw [List.getElem?_append_right (by omega), Nat.add_sub_cancel_left]; exact h
      have := hD.1 k (wr.length + k2) q (q.1, e) (left k q hq) h2 rfl
      omega
    · omega
  refine ⟨va_P.app (fun k q hq => ?_) hP1, va_D.app ⟨fun i j x y hx hy hxy => hD.1 i j x y (left i x hx) (left j y hy) hxy, fun k q hq => hD.2 k q (left k q hq)⟩ (hD1.weaken (fun k q _ h => hF q.1 h)) (fun i j x y hx hy hxy => ?_)⟩
  · obtain ⟨g1, g2⟩ := apart k q hq
    exact (hP k q (left k q hq)).kept (hk q.1 g1 g2)
  · exact (apart i x hx).2 (by rw [hxy]; exact hD1.2 j y hy)
theorem joinS {A0 : Nat → Prop} {D : va_G} {cl : List vw_C} {ws : va_W} {i x : Nat} {e0 e1 : va_E} {H H1 : Heap} (hP : va_P D cl ws H) (hD : va_D A0 ws) (hi : ws[i]? = some (x, e0)) (hk : ∀ q : Nat, q < H.size → ¬ va_A [(x, e0)] H.size q → H1[q]? = H[q]?) (hP1 : va_P D cl [(x, e1)] H1) : va_P D cl (ws.set i (x, e1)) H1 ∧ va_D A0 (ws.set i (x, e1)) := by
  refine ⟨fun k q hq => ?_, hD.set hi⟩
  have hl := (List.getElem?_eq_some_iff.mp hi).1
  by_cases hki : k = i
  · subst hki
    rw [List.getElem?_set_self hl] at hq
    cases hq
    exact hP1 0 _ rfl
  · rw [List.getElem?_set_ne (Ne.symm hki)] at hq
    have h1 := (hP k q hq).lt
    refine (hP k q hq).kept (hk q.1 h1 (fun h => ?_))
    rcases h with ⟨k2, e, h⟩ | h
    · have hk2 : k2 = 0 := by
        have := (List.getElem?_eq_some_iff.mp h).1
        simp at this
        exact this
      subst hk2
      have hx : x = q.1 := by
        have := Option.some.inj h
        exact congrArg Prod.fst this
      exact hki (hD.1 k i q (x, e0) hq hi hx.symm)
    · omega
def StK (K : State → Prop) : Prop := (∀ (U : State) (g : JFrame) (mk : MethodId) (a : Array Value), K U → K (U.calling g mk a)) ∧ ∀ s U : State, s.WarmedH U.vm → K s → K U
theorem StK.tt : StK (fun _ => True) := ⟨fun _ _ _ _ _ => trivial, fun _ _ _ _ => trivial⟩
theorem cblind {E : CE} {As : List Value} {sz : Nat} {ws : va_W} {K : State → Prop} (hK : StK K) : FrameBlind (va_Pc As (fun U => U.heap.size = sz ∧ cP E ws U.heap ∧ va_K E.1 vwCl (cTy E) U ∧ K U)) := fun a U g mk h => ⟨h.1, h.2.1, h.2.2.1, va_K.moved (u := U) (U := U.calling g mk a) (Vm.Alike.refl U.vm) h.2.2.2.1, hK.1 _ _ _ _ h.2.2.2.2⟩
/-- a callee's words in a constructor -/
theorem CW.runI {E : CE} {own : String} {b : ByteArray} {nL : Nat} {R : Room} {ci h0 : Nat} {A : Nat → Prop} {K : State → Prop} {Fz : List Frame → Array Value → State → State → Prop} {pc : Nat} {lv : List (Nat × Value)} {st st0 fs : List Value} {arrs : va_W} {cells slots : Nat}
    {idx a cj n nL' d' mc ms : Nat} {y : MethodName} {b' : ByteArray} {As fs1 : List Value} {K' : State → Prop} {fF : (Nat → Nat) → List Value} {fA : (Nat → Nat) → va_W}
    (hM : CM E y b' nL' d' cj a As fs1 K' fF fA mc ms) (hK' : StK K') (hKK : ∀ U, K U → K' U) (hSK : StK K) (hy : y.name = "<init>") (h3 : Cond.code y b' nL' none ∈ lw_gd) (hini : Cond.initialized y.cls ∈ lw_gd) (hins : Cond.instanceMethod y ∈ lw_gd)
    (hlink : Cond.methodLink own idx y ∈ lw_gd ∨ ∃ host : String, ∀ U, K U → va_Nw (.methodLinkNest own idx y host) U) (hyd : y.cls ≠ "java/lang/invoke/MethodHandle" ∧ y.cls ≠ "java/lang/invoke/VarHandle" ∧ (parseMethodDescriptor y.desc).map (fun d => d.parameters.length) = some n)
    (hf : d' + 1 ≤ R.frames) (hlo : 8 + (nL' + 11) + 64 * d' ≤ R.locals) (hcl : cells + mc ≤ R.cells) (hsl : slots + ms ≤ R.slots) (hn : As.length = n) (hc : (st.map fun v => v.category).sum ≤ 8) (hd : decode b pc = .ok (.invokespecial idx, 3)) (hst : st0 = As.reverse ++ .ref a :: st)
    (kk : ∀ q : Nat → Nat, CW E own b nL R ci h0 A K Fz (pc + 3) lv st fs (arrs ++ ((a, .inr (cj, fF q)) :: fA q)) (cells + mc) (slots + ms)) : CW E own b nL R ci h0 A K Fz pc lv st0 fs (arrs ++ [(a, .inr (cj, fs1))]) cells slots := by
  intro p l e s m args below meth c H locs ls C hP hD hS hl
  have hts := C.2.2.2.2.2.1
  have hPc : cP E [(a, .inr (cj, fs1))] H := fun k q hk => by
    have hk0 : k = 0 := by
      have := (List.getElem?_eq_some_iff.mp hk).1
      simp at this
      exact this
    subst hk0
    cases hk
    refine hP (arrs.length + 1) _ ?_
    rw [List.getElem?_cons_succ, List.getElem?_append_right (Nat.le_refl _), Nat.sub_self]
    rfl
  have hFc : ∀ q, va_A [(a, .inr (cj, fs1))] H.size q → A q := by
    intro q h
    rcases h with ⟨k, e, h⟩ | h
    · have hk0 : k = 0 := by
        have := (List.getElem?_eq_some_iff.mp h).1
        simp at this
        exact this
      subst hk0
      have hx : a = q := congrArg Prod.fst (Option.some.inj h)
      subst hx
      refine hD.2 (arrs.length + 1) (a, .inr (cj, fs1)) ?_
      rw [List.getElem?_cons_succ, List.getElem?_append_right (Nat.le_refl _), Nat.sub_self]
      rfl
    · exact C.2.2.2.2.2.2.2.2.2.2 q (Nat.le_trans hS.1 h)
  have hpre : PreS s H (va_Pc (.ref a :: As) (fun U => U.heap.size = H.size ∧ cP E [(a, .inr (cj, fs1))] U.heap ∧ va_K E.1 vwCl (cTy E) U ∧ K' U)) (.ref a :: As) := ⟨cblind hK', fun U hU hW => ⟨rfl, by rw [hU], by rw [hU]; exact hPc, va_K.moved hW.alike C.2.2.2.2.2.2.2.2.1, hK'.2 _ _ hW (hKK _ C.2.2.2.2.2.2.2.2.2.1)⟩⟩
  have hrun : va_Run p l e R s m args below meth c H locs cells slots mc ms (F0 m pc ls st0) st (cqc E a cj fF fA (va_A [(a, .inr (cj, fs1))] H.size) (Value.ref a :: As).toArray) (va_A [(a, .inr (cj, fs1))] H.size) := by
    rcases hlink with hlink | ⟨host, hlink⟩
    · exact va_runI (As := As) (rest := st) (g := F0 m pc ls st0) ⟨C.1, C.2.1, C.2.2.2.1, C.2.2.2.2.1, hts⟩ (hM l H.size) ⟨callB_of n hts (good_code h3) rfl rfl rfl (hts _ hini) (hts _ hlink) hyd ⟨hf, hlo⟩, hy, hts _ hins⟩ hpre rfl hn hl.1 hst (by show 2 * 0 + _ ≤ 8; omega) hd ⟨hcl, hsl⟩
    · exact va_runIN (As := As) (rest := st) (g := F0 m pc ls st0) ⟨C.1, C.2.1, C.2.2.2.1, C.2.2.2.2.1, hts⟩ (hM l H.size) ⟨va_cnB n hts (good_code h3) rfl rfl rfl (hlink _ C.2.2.2.2.2.2.2.2.2.1) (hts _ hini) hyd ⟨hf, hlo⟩, hy, hts _ hins⟩ hpre rfl hn hl.1 hst (by show 2 * 0 + _ ≤ 8; omega) hd ⟨hcl, hsl⟩
  intro T hT X
  obtain ⟨v, st₀, t, T', L, e0, X', hL, e1, e2, ⟨⟨hv, q, hP1, hD1⟩, hz, hk⟩, stp⟩ := hrun T hT X
  cases hv
  rw [e0] at hz hk
  have hS1 : va_S A s.heap T'.heap (locs ++ L) := by
    refine ⟨Nat.le_trans hS.1 (by rw [e1]; exact hz), fun q h1 h2 => by rw [e1, hk q (Nat.lt_of_lt_of_le h1 hS.1) (fun h => h2 (hFc q h))]; exact hS.2.1 q h1 h2, fun q hq => ?_⟩
    rcases List.mem_append.mp hq with h | h
    · exact hS.2.2 q h
    · exact hFc _ (hL q h)
  have hJ := join2 (wr := (h0, .inr (ci, fs)) :: arrs) (wc := [(a, .inr (cj, fs1))]) (w1 := (a, .inr (cj, fF q)) :: fA q) hP hD hk hFc hP1 hD1
  obtain ⟨t2, a1, b1⟩ := kk q p l e s m args below meth c T'.heap (locs ++ L) ls C (by rw [e1]; exact hJ.1) hJ.2 hS1 hl T' rfl X'
  exact ⟨t2, stp t2 a1, b1⟩
/-! Arrays.fill on one array -/
theorem kfill_loop {E : CE} {p : Program} {l : Launch} {e : Env} {s : State} {m : MethodId} {args : Array Value} {below : List Frame} {meth : Method} {c : Code} {a n : Nat} {f : Nat → Int32} {v : Int} {A : Nat → Prop} (hn : n < 100000) (hx : p.tables.exec = Jvm.exec) (hb : c.code = cJ7_fill_53178) (hr : meth.sig.returnType = none) (hlk : meth.locks = false) (hK : va_K E.1 vwCl (cTy E) s) :
    ∀ (k i : Nat) (H : Heap) (locs : List Loc) (ls : Array Slot), i + k = n → cP E [(a, .inl (E.2.1, (n, .inl (fun j => if j < i then Int32.ofInt v else f j))))] H → va_D A [(a, .inl (E.2.1, (n, .inl (fun j => if j < i then Int32.ofInt v else f j))))] → va_S A s.heap H locs → lv_has ls 4 [(2, iv i), (3, iv n), (0, .ref a), (1, iv v)] →
      W p l e (cR 0 0 0) s m args below meth c H locs 0 0 (MQ below (va_Qv (fun _ : Unit => True) (fun _ t => cP E [(a, .inl (E.2.1, (n, .inl (fun j => if j < n then Int32.ofInt v else f j))))] t.heap) A) args s 0 0 A) (F0 m 5 ls []) := by
  intro k
  induction k with
  | zero =>
    intro i H locs ls hi hP hD hS hl
    have hi : i = n := by omega
    subst hi
    refine lv_iload_n hx hb dJ7_fill_53178_5 rfl (lv_at hl 0 rfl) ?_
    refine lv_iload_n hx hb dJ7_fill_53178_6 rfl (lv_at hl 1 rfl) ?_
    refine lv_icmp_ge (tgt := 20) hx hb dJ7_fill_53178_7 (by decide) (fun _ => ?_) (fun c => absurd (Int32.le_refl _) c)
    exact W.vret hx hb hr (fun t ht _ => ⟨⟨(), rfl, trivial, by show cP E _ t.heap; rw [ht]; exact hP⟩, hS.F ht⟩) hS.2.2 dJ7_fill_53178_20
  | succ k ih =>
    intro i H locs ls hi hP hD hS hl
    have e1 : nw (i : Int) = i := nw_id (by omega) (by omega)
    have e2 : nw (n : Int) = n := nw_id (by omega) (by omega)
    have e3 : ix (i : Int) = i := by unfold ix; rw [e1]; rfl
    refine lv_iload_n hx hb dJ7_fill_53178_5 rfl (lv_at hl 0 rfl) ?_
    refine lv_iload_n hx hb dJ7_fill_53178_6 rfl (lv_at hl 1 rfl) ?_
    refine lv_icmp_ge (tgt := 20) hx hb dJ7_fill_53178_7 (by decide) (fun c => absurd ((i32_le _ _).mp c) (by rw [e1, e2]; omega)) (fun _ => ?_)
    refine lv_aload_n hx hb dJ7_fill_53178_10 rfl (lv_at hl 2 rfl) ?_
    refine lv_iload_n hx hb dJ7_fill_53178_11 rfl (lv_at hl 0 rfl) ?_
    refine lv_iload_n hx hb dJ7_fill_53178_12 rfl (lv_at hl 3 rfl) ?_
    refine va_iast hx hb hK hP hD hS 0 0 rfl rfl (i32_in _ n ⟨by rw [e1]; omega, by rw [e1]; omega⟩) dJ7_fill_53178_13 (fun H1 locs1 hP1 hD1 hS1 => ?_)
    rw [i32_clamp, e3] at hP1 hD1
    have ef : upd (fun j => if j < i then Int32.ofInt v else f j) i (Int32.ofInt v) = (fun j => if j < i + 1 then Int32.ofInt v else f j) := by
      funext j
      unfold upd
      by_cases h1 : j = i
      · rw [if_pos h1, if_pos (by omega)]
      · rw [if_neg h1]
        show (if j < i then Int32.ofInt v else f j) = _
        by_cases h2 : j < i
        · rw [if_pos h2, if_pos (by omega)]
        · rw [if_neg h2, if_neg (by omega)]
    rw [ef] at hP1 hD1
    refine lv_iinc (v := Int32.ofInt ((i : Int) + 1)) (lv' := [(2, iv ((i : Int) + 1)), (3, iv n), (0, .ref a), (1, iv v)]) hx hb dJ7_fill_53178_14 hl (k := 0) rfl (Int32.ofInt_add _ _).symm (by decide) rfl (fun ls1 hl1 => ?_)
    refine lv_goto (tgt := 5) hx hb dJ7_fill_53178_17 (by decide) ?_
    exact ih (i + 1) H1 locs1 ls1 (by omega) hP1 hD1 hS1 hl1
theorem kfill (l : Launch) (E : CE) (a sz n : Nat) (f : Nat → Int32) (v : Int) (hn : n < 100000) : Met l ⟨"java/util/Arrays", "fill", "([II)V"⟩ (Cond.code ⟨"java/util/Arrays", "fill", "([II)V"⟩ cJ7_fill_53178 4 none :: lw_gd) (cR 0 0 0) (va_Pc [.ref a, iv v] (fun U => U.heap.size = sz ∧ cP E [(a, .inl (E.2.1, (n, .inl f)))] U.heap ∧ va_K E.1 vwCl (cTy E) U ∧ True)) (va_Qv (fun _ : Unit => True) (fun _ t => cP E [(a, .inl (E.2.1, (n, .inl (fun j => if j < n then Int32.ofInt v else f j))))] t.heap) (va_A [(a, .inl (E.2.1, (n, .inl f)))] sz)) 0 0 (va_A [(a, .inl (E.2.1, (n, .inl f)))] sz) := by
  refine Met.ofW (cc := cJ7_fill_53178) (maxL := 4) (ret := none) (by decide +kernel) rfl ?_
  intro p e s m args below meth c s₁ B hml hv
  obtain ⟨rfl, hsz, hP, hK, -⟩ := hv
  subst hsz
  have hx := B.exec
  have hb := B.bytes
  have hl := lv_entry ([.ref a, iv v]) (n := 4) (Nat.le_of_ble_eq_true rfl)
  rw [lg_entry_eq]
  generalize (lg_sl ([.ref a, iv v]) ++ List.replicate (4 - (lg_sl ([.ref a, iv v])).length) Slot.unset).toArray = ls at hl ⊢
  have hl : lv_has ls 4 [(0, .ref a), (1, iv v)] := hl
  have hD0 : va_D (va_A [(a, .inl (E.2.1, (n, .inl f)))] s.heap.size) [(a, .inl (E.2.1, (n, .inl f)))] := by
    refine ⟨fun i j p q hi hj _ => ?_, fun k q hk => Or.inl ⟨k, q.2, hk⟩⟩
    have a1 := (List.getElem?_eq_some_iff.mp hi).1
    have a2 := (List.getElem?_eq_some_iff.mp hj).1
    simp at a1 a2
    omega
  refine lv_iconst (v := Int32.ofInt 0) hx hb dJ7_fill_53178_0 rfl ?_
  refine lv_istore_n (lv' := [(2, iv 0), (0, .ref a), (1, iv v)]) hx hb dJ7_fill_53178_1 rfl hl (by decide) rfl (fun ls hl => ?_)
  refine lv_aload_n hx hb dJ7_fill_53178_2 rfl (lv_at hl 1 rfl) ?_
  refine va_alen (x := (n, .inl f)) hx hb hK hP 0 0 rfl rfl Int32.ofInt_eq_ofNat.symm dJ7_fill_53178_3 ?_
  refine lv_istore_n (lv' := [(3, iv n), (2, iv 0), (0, .ref a), (1, iv v)]) hx hb dJ7_fill_53178_4 rfl hl (by decide) rfl (fun ls hl => ?_)
  exact kfill_loop (A := va_A [(a, .inl (E.2.1, (n, .inl f)))] s.heap.size) hn hx hb B.returns B.notSynchronized hK n 0 s.heap [] ls (by omega) (by simpa using hP) (by simpa using hD0) va_S.rf (lv_sub hl [1, 0, 2, 3] rfl)
theorem CW.fill {E : CE} {own : String} {b : ByteArray} {nL : Nat} {R : Room} {ci h0 : Nat} {A : Nat → Prop} {K : State → Prop} {Fz : List Frame → Array Value → State → State → Prop} {pc : Nat} {lv : List (Nat × Value)} {st fs : List Value} {arrs : va_W} {cells slots : Nat}
    {idx x n : Nat} {f : Nat → Int32} {v : Int} (i : Nat) (hi : arrs[i]? = some (x, .inl (E.2.1, (n, .inl f)))) (hn : n < 100000) (hF : CQ own idx ⟨"java/util/Arrays", "fill", "([II)V"⟩ cJ7_fill_53178 4 none 2) (hst : Cond.static ⟨"java/util/Arrays", "fill", "([II)V"⟩ ∈ lw_gd) (hf : 1 ≤ R.frames) (hlo : 64 ≤ R.locals) (hcc : cells ≤ R.cells ∧ slots ≤ R.slots) (hc : (st.map fun v => v.category).sum ≤ 8) (hd : decode b pc = .ok (.invokestatic idx, 3))
    (kk : CW E own b nL R ci h0 A K Fz (pc + 3) lv st fs (arrs.set i (x, .inl (E.2.1, (n, .inl (fun j => if j < n then Int32.ofInt v else f j))))) cells slots) : CW E own b nL R ci h0 A K Fz pc lv (iv v :: .ref x :: st) fs arrs cells slots := by
  intro p l e s m args below meth c H locs ls C hP hD hS hl
  have hts := C.2.2.2.2.2.1
  have hi1 : ((h0, .inr (ci, fs)) :: arrs)[i + 1]? = some (x, .inl (E.2.1, (n, .inl f))) := by rw [List.getElem?_cons_succ]; exact hi
  have hPc : cP E [(x, .inl (E.2.1, (n, .inl f)))] H := fun k q hk => by
    have hk0 : k = 0 := by
      have := (List.getElem?_eq_some_iff.mp hk).1
      simp at this
      exact this
    subst hk0
    cases hk
    exact hP _ _ hi1
  have hFc : ∀ q, va_A [(x, .inl (E.2.1, (n, .inl f)))] H.size q → A q := by
    intro q h
    rcases h with ⟨k, e, h⟩ | h
    · have hk0 : k = 0 := by
        have := (List.getElem?_eq_some_iff.mp h).1
        simp at this
        exact this
      subst hk0
      have hx : x = q := congrArg Prod.fst (Option.some.inj h)
      subst hx
      exact hD.2 _ _ hi1
    · exact C.2.2.2.2.2.2.2.2.2.2 q (Nat.le_trans hS.1 h)
  obtain ⟨h1, h2, h3, h4, h5⟩ := hF
  have hrun := va_runS (p := p) (e := e) (meth := meth) (below := below) (locs := locs) (cells := cells) (slots := slots) (R := R) (As := [.ref x, iv v]) (rest := st) (g := F0 m pc ls (iv v :: .ref x :: st)) ⟨C.1, C.2.1, C.2.2.2.1, C.2.2.2.2.1, hts⟩ (kfill l E x H.size n f v hn) ⟨callB_of 2 hts (good_code h3) rfl rfl rfl (hts _ h2) (hts _ h1) h4 ⟨hf, by show 8 + (4 + 11) + 64 * 0 ≤ _; omega⟩, hts _ hst⟩ ⟨cblind StK.tt, fun U hU hW => ⟨rfl, by rw [hU], by rw [hU]; exact hPc, va_K.moved hW.alike C.2.2.2.2.2.2.2.2.1, trivial⟩⟩ rfl rfl hl.1 rfl (by show 2 * 0 + _ ≤ 8; omega) hd hcc
  refine va_callv hrun hS (fun q _ h => hFc q h) hFc (fun u t H1 locs1 ht hvm _ hB hz hk hS1 => ?_)
  rw [ht] at hB
  have hJ := joinS hP hD hi1 hk hB
  exact kk p l e s m args below meth c H1 locs1 ls C hJ.1 hJ.2 hS1 hl
/-! an array of int arrays can be made -/
def va_AOA (t : FieldType) (U : State) : Prop := (Cond.arrayOver (.array t)).before #[] U = true
theorem va_AOA.of {t : FieldType} {A : Array Value} {U : State} (h : (Cond.arrayOver (.array t)).before A U = true) : va_AOA t U := h
theorem va_AOA.use {t : FieldType} {A : Array Value} {U : State} (h : va_AOA t U) : (Cond.arrayOver (.array t)).before A U = true := h
theorem va_AOA.moved {t : FieldType} {u U : State} (hvm : u.vm.Alike U.vm) (h : va_AOA t u) : va_AOA t U := by
  have h2 : (Cond.arrayOver (.array t)).before #[] (u.setVm U.vm) = true := (Cond.arrayOver_setVmC hvm _).trans h
  first
  | exact va_tabs rfl (rfl : (u.setVm U.vm).vm = U.vm) h2
  | exact h2
  | (unfold va_AOA; simp only [Cond.before, Cond.holds, Cond.value] at h2 ⊢; exact h2)
/-! ===== BEGIN new T[n][m]: the outer array a place, the inner ones among the pooled ===== -/
/-- f, but v at every address of l -/
def vr_up {α : Type} (f : Nat → α) (l : List Nat) (v : α) : Nat → α := fun a => if a ∈ l then v else f a
theorem vr_up_in {α : Type} {f : Nat → α} {l : List Nat} {v : α} {a : Nat} (h : a ∈ l) : vr_up f l v a = v := if_pos h
theorem vr_up_ne {α : Type} {f : Nat → α} {l : List Nat} {v : α} {a : Nat} (h : a ∉ l) : vr_up f l v a = f a := if_neg h
theorem vr_rows {L l : List Nat} {f : Nat → va_E} {e : va_E} (h : ∀ a, a ∈ l → a ∉ L) : va_pl L f ++ l.map (fun a => (a, e)) = va_pl (L ++ l) (vr_up f l e) := by
  unfold va_pl
  rw [List.map_append]
  congr 1
  · apply List.map_congr_left
    intro a ha
    rw [vr_up_ne (fun q => h a q ha)]
  · apply List.map_congr_left
    intro a ha
    rw [vr_up_in ha]
theorem vr_lay {X rows : va_W} {x : Nat × va_E} {pl : va_W} {D : va_G} {cl : List vw_C} {H : Heap} (hP : va_P D cl (((X ++ pl) ++ [x]) ++ rows) H) : va_P D cl ((X ++ [x]) ++ (pl ++ rows)) H := by
  rw [List.append_assoc (X ++ pl)] at hP
  have h := va_P.swap hP
  rw [← List.append_assoc X] at h
  have h2 := va_P.swap h
  rw [List.append_assoc (X ++ [x])] at h2
  exact h2
theorem vr_layD {X rows : va_W} {x : Nat × va_E} {pl : va_W} {A : Nat → Prop} (hD : va_D A (((X ++ pl) ++ [x]) ++ rows)) : va_D A ((X ++ [x]) ++ (pl ++ rows)) := by
  rw [List.append_assoc (X ++ pl)] at hD
  have h := va_D.swap hD
  rw [← List.append_assoc X] at h
  have h2 := va_D.swap h
  rw [List.append_assoc (X ++ [x])] at h2
  exact h2
theorem vr_outer (c : ClassId) (N h0 : Nat) : ∀ i : Nat, Jvm.Free.Multi.outerC c N h0 i = arrV c N (fun j => va_rf (if j < i then some (h0 + 1 + j) else none))
  | 0 => by
    show ({ cls := c, slots := Array.replicate N .null, vm := .none } : Cell) = _
    rw [arrV_new]
    refine congrArg (arrV c N) (funext fun j => ?_)
    simp [va_rf]
  | i + 1 => by
    show (Jvm.Free.Multi.outerC c N h0 i).setSlot i (.ref (h0 + 1 + i)) = _
    rw [vr_outer c N h0 i, arrV_store]
    refine congrArg (arrV c N) (funext fun j => ?_)
    by_cases e : j = i
    · subst e
      simp [updV, va_rf]
    · by_cases h : j < i
      · simp [updV, e, h, Nat.lt_succ_of_lt h]
      · simp [updV, e, h, show ¬ j < i + 1 by omega]
section VGM
variable {p : Program} {l : Launch} {e : Env} {R : Room} {s : State} {m : MethodId} {args : Array Value} {below : List Frame} {meth : Method} {c : Code} {H : Heap} {locs : List Loc} {cells slots : Nat} {Q : State → Prop}
variable {cc : ByteArray} {pc : Nat} {ls : Array Slot} {rest : List Value} {D : va_G} {cl : List vw_C} {A : Nat → Prop} {a : Nat} {tys : List (ClassId × FieldType)} {ws : va_W} {H0 : Heap}
theorem va_mna {X : va_W} {L : List Nat} {f : Nat → va_E} {cc : ByteArray} (hexec : p.tables.exec = Jvm.exec) (hb : c.code = cc) {own : String} {index : Nat} {ty : FieldType} {cy : ClassId} (hown : s.vm.findClass own = some m.cls) (hclink : (Cond.classLink own index ("[" ++ (FieldType.array ty).toString)).before args s = true) (hover : va_AOA ty s) (harr : (Cond.arrayClass ty).before args s = true) (hcy : s.vm.findClass (FieldType.array ty).toString = some cy)
    (hK : va_K D cl tys s) (hP : va_P D cl (X ++ va_pl L f) H) (hD : va_D A (X ++ va_pl L f)) (hS : va_S A H0 H locs) (hA : ∀ q, H0.size ≤ q → A q) {n k : Int32} {N' K' : Nat} {z : vp_A} (hn : ¬ n < 0) (hk : ¬ k < 0) (hN : n.toNatClampNeg = N') (hM : k.toNatClampNeg = K')
    (hb1 : N' * 4 ≤ 536870912) (hb2 : K' * componentBytes ty ≤ 536870912) (hb3 : K' ≤ 536870912) (hdf : fits ty (defaultValue ty) = true) (hdd : (defaultValue ty).isDefault = true) (hcells : cells + (1 + N') ≤ R.cells) (hslots : slots + (N' + N' * K') ≤ R.slots) (hz : ∀ c : ClassId, Jvm.Free.Multi.innerC c K' (defaultValue ty) = vp_cell c z) (hdg : decode cc pc = .ok (.multianewarray index 2, 4))
    (kk : ∀ (q : Nat) (r : Nat → Nat) (cA : ClassId) (H1 : Heap), (∀ i j : Nat, i < N' → j < N' → r i = r j → i = j) → (∀ i : Nat, i < N' → r i ∉ L) → va_K D cl (tys ++ [(cA, .array ty)]) s →
      va_P D cl ((X ++ [(q, .inl (cA, N', .inr (.inr (.inr (.inr (fun i => if i < N' then some (r i) else none))))))]) ++ va_pl (L ++ (List.range N').map r) (vr_up f ((List.range N').map r) (.inl (cy, z)))) H1 → va_D A ((X ++ [(q, .inl (cA, N', .inr (.inr (.inr (.inr (fun i => if i < N' then some (r i) else none))))))]) ++ va_pl (L ++ (List.range N').map r) (vr_up f ((List.range N').map r) (.inl (cy, z)))) → va_S A H0 H1 locs →
      W p l e R s m args below meth c H1 locs (cells + 1 + N') (slots + N' + N' * K') Q (F0 m (pc + 4) ls (.ref q :: rest))) : W p l e R s m args below meth c H locs cells slots Q (F0 m pc ls (.int k :: .int n :: rest)) := by
  subst hN
  subst hM
  intro T hT Xs
  obtain ⟨vm₁, cA, comp, -, fA, fC, hO, -, X', step⟩ := Xs.multianewarray2F hexec hown hclink (va_AOA.use hover) harr (g := F0 m pc ls (.int k :: .int n :: rest)) rfl (by rw [hb]; exact hdg) rfl hn hk hb1 hb2 hb3 hdf hdd hcells hslots
  have ec : some cy = some comp := hcy.symm.trans fC
  cases ec
  generalize hF : Jvm.Free.Multi.fill (T.setVm vm₁) cA cy n.toNatClampNeg k.toNatClampNeg (defaultValue ty) n.toNatClampNeg = F at X' step
  have hTh : (T.setVm vm₁).heap = H := hT
  obtain ⟨f1, f2, -, -⟩ := Jvm.Free.Multi.fill_facts (T.setVm vm₁) cA cy n.toNatClampNeg k.toNatClampNeg (defaultValue ty) n.toNatClampNeg
  rw [hF, hTh] at f1 f2
  have hold : ∀ x : Nat, x < H.size → F.heap[x]? = H[x]? := fun x hx => by
    have := Jvm.Free.Multi.fill_old (T.setVm vm₁) cA cy n.toNatClampNeg k.toNatClampNeg (defaultValue ty) (a := x) (by rw [hTh]; exact hx) n.toNatClampNeg
    rw [hF, hTh] at this
    exact this
  have hrow : ∀ j : Nat, j < n.toNatClampNeg → F.heap[H.size + 1 + j]? = some (vp_cell cy z) := fun j hj => by
    have := Jvm.Free.Multi.fill_inner (T.setVm vm₁) cA cy n.toNatClampNeg k.toNatClampNeg (defaultValue ty) n.toNatClampNeg j hj
    rw [hF, hTh, hz] at this
    exact this
  have hout : Jvm.Free.Multi.outerC cA n.toNatClampNeg H.size n.toNatClampNeg = vp_cell cA (n.toNatClampNeg, .inr (.inr (.inr (.inr (fun i => if i < n.toNatClampNeg then some (H.size + 1 + i) else none))))) := by
    rw [vp_cell_q]
    exact vr_outer cA n.toNatClampNeg H.size n.toNatClampNeg
  rw [hout] at f2
  have hlt : ∀ a, a ∈ L → a < H.size := fun a ha => by
    obtain ⟨k9, hk9⟩ := va_pl_get (X := X) (f := f) ha
    exact (hP k9 _ hk9).lt
  have hnl : ∀ i : Nat, i < n.toNatClampNeg → H.size + 1 + i ∉ L := fun i _ h => by
    have := hlt _ h
    omega
  have hnm : ∀ a, a ∈ (List.range n.toNatClampNeg).map (fun i => H.size + 1 + i) → a ∉ L := fun a ha h => by
    obtain ⟨i, -, rfl⟩ := List.mem_map.mp ha
    have := hlt _ h
    omega
  have hP0 : va_P D cl (X ++ va_pl L f) F.heap := hP.kept (fun k9 x hx => hold x.1 ((hP k9 x hx).lt))
  have hP1 : va_P D cl ((X ++ va_pl L f) ++ [(H.size, .inl (cA, n.toNatClampNeg, .inr (.inr (.inr (.inr (fun i => if i < n.toNatClampNeg then some (H.size + 1 + i) else none))))))]) F.heap := hP0.app (fun k9 x hx => by
    have h0 : k9 < 1 := (List.getElem?_eq_some_iff.mp hx).1
    rw [show k9 = 0 by omega] at hx
    cases hx
    exact f2)
  have hP2 : va_P D cl (((X ++ va_pl L f) ++ [(H.size, .inl (cA, n.toNatClampNeg, .inr (.inr (.inr (.inr (fun i => if i < n.toNatClampNeg then some (H.size + 1 + i) else none))))))]) ++ ((List.range n.toNatClampNeg).map (fun i => H.size + 1 + i)).map (fun a => (a, .inl (cy, z)))) F.heap := hP1.app (fun k9 x hx => by
    obtain ⟨a, ha, rfl⟩ := List.mem_map.mp (List.mem_of_getElem? hx)
    obtain ⟨i, hi, rfl⟩ := List.mem_map.mp ha
    exact hrow i (List.mem_range.mp hi))
  have hD2 : va_D A (((X ++ va_pl L f) ++ [(H.size, .inl (cA, n.toNatClampNeg, .inr (.inr (.inr (.inr (fun i => if i < n.toNatClampNeg then some (H.size + 1 + i) else none))))))]) ++ ((List.range n.toNatClampNeg).map (fun i => H.size + 1 + i)).map (fun a => (a, .inl (cy, z)))) := by
    have hD1 := hD.push (e := .inl (cA, n.toNatClampNeg, .inr (.inr (.inr (.inr (fun i => if i < n.toNatClampNeg then some (H.size + 1 + i) else none)))))) hP rfl (hA _ hS.1)
    generalize hW1 : (X ++ va_pl L f) ++ [(H.size, .inl (cA, n.toNatClampNeg, .inr (.inr (.inr (.inr (fun i => if i < n.toNatClampNeg then some (H.size + 1 + i) else none))))))] = W1 at hD1 hP1 ⊢
    have hle : ∀ (k9 : Nat) (x : Nat × va_E), W1[k9]? = some x → x.1 ≤ H.size := fun k9 x hx => by
      rw [← hW1] at hx
      by_cases hl : k9 < (X ++ va_pl L f).length
      · rw [List.getElem?_append_left hl] at hx
        exact Nat.le_of_lt ((hP k9 x hx).lt)
      · rw [List.getElem?_append_right (by omega)] at hx
        have h0 : k9 - (X ++ va_pl L f).length < 1 := (List.getElem?_eq_some_iff.mp hx).1
        rw [show k9 - (X ++ va_pl L f).length = 0 by omega] at hx
        cases hx
        exact Nat.le_refl _
    have hr : ∀ (k9 : Nat) (x : Nat × va_E), (((List.range n.toNatClampNeg).map (fun i => H.size + 1 + i)).map (fun a => ((a, .inl (cy, z)) : Nat × va_E)))[k9]? = some x → x.1 = H.size + 1 + k9 := fun k9 x hx => by
      rw [List.getElem?_map, List.getElem?_map] at hx
      by_cases h9 : k9 < n.toNatClampNeg
      · rw [List.getElem?_range h9] at hx
        cases hx
        rfl
      · have hn0 : (List.range n.toNatClampNeg)[k9]? = none := List.getElem?_eq_none (by rw [List.length_range]; omega)
        rw [hn0] at hx
        cases hx
    refine ⟨fun i j x y hi hj hxy => ?_, fun k9 x hx => ?_⟩
    · by_cases h1 : i < W1.length <;> by_cases h2 : j < W1.length
      · rw [List.getElem?_append_left h1] at hi
        rw [List.getElem?_append_left h2] at hj
        exact hD1.1 i j x y hi hj hxy
      · rw [List.getElem?_append_left h1] at hi
        rw [List.getElem?_append_right (by omega)] at hj
        have := hle _ _ hi
        have := hr _ _ hj
        omega
      · rw [List.getElem?_append_right (by omega)] at hi
        rw [List.getElem?_append_left h2] at hj
        have := hle _ _ hj
        have := hr _ _ hi
        omega
      · rw [List.getElem?_append_right (by omega)] at hi hj
        have := hr _ _ hi
        have := hr _ _ hj
        omega
    · by_cases h1 : k9 < W1.length
      · rw [List.getElem?_append_left h1] at hx
        exact hD1.2 k9 x hx
      · rw [List.getElem?_append_right (by omega)] at hx
        have := hr _ _ hx
        exact hA _ (by have := hS.1; omega)
  have hAr : ArrOfT s cA (.array ty) := fun N9 z9 => by
    obtain ⟨-, k9, hk9, cm9, hkk9⟩ := (hO 0 0 0).1
    exact ⟨(fun q hq => by cases hq), k9, hk9, cm9, hkk9⟩
  have hK2 : va_K D cl (tys ++ [(cA, .array ty)]) s := ⟨hK.1, fun k9 x hx => by
    by_cases hl : k9 < tys.length
    · rw [List.getElem?_append_left hl] at hx
      exact hK.2 k9 x hx
    · rw [List.getElem?_append_right (by omega)] at hx
      have h0 : k9 - tys.length < 1 := (List.getElem?_eq_some_iff.mp hx).1
      rw [show k9 - tys.length = 0 by omega] at hx
      cases hx
      exact ⟨hAr, fA⟩⟩
  obtain ⟨t, a1, b1⟩ := kk H.size (fun i => H.size + 1 + i) cA F.heap (fun i j _ _ h => by have h9 : H.size + 1 + i = H.size + 1 + j := h; omega) hnl hK2 (by rw [← vr_rows hnm]; exact vr_lay hP2) (by rw [← vr_rows hnm]; exact vr_layD hD2) ⟨by rw [f1]; have := hS.1; omega, fun x h1 h2 => (hold x (Nat.lt_of_lt_of_le h1 hS.1)).trans (hS.2.1 x h1 h2), hS.2.2⟩ F rfl X'
  refine ⟨t, step t ?_, b1⟩
  have e : T.heap.size = H.size := by rw [hT]
  rw [e]
  exact a1
end VGM
/-! ===== END ===== -/

section CWR2
variable {E : CE} {own : String} {b : ByteArray} {nL : Nat} {R : Room} {ci h0 : Nat} {A : Nat → Prop} {K : State → Prop} {Fz : List Frame → Array Value → State → State → Prop} {pc : Nat} {lv : List (Nat × Value)} {st fs : List Value} {arrs : va_W} {cells slots : Nat}
theorem CW.iload_n {i : Fin 4} {x : Int} (q : Nat) (hd : decode b pc = .ok (.iload_n i, 1)) (hq : lv[q]? = some ((i : Nat), iv x)) (k : CW E own b nL R ci h0 A K Fz (pc + 1) lv (iv x :: st) fs arrs cells slots) : CW E own b nL R ci h0 A K Fz pc lv st fs arrs cells slots := by
  intro p l e s m args below meth c H locs ls C hP hD hS hl
  exact lv_iload_n C.1 C.2.1 hd rfl (lv_at hl q hq) (k p l e s m args below meth c H locs ls C hP hD hS hl)
theorem CW.istore_n {i : Fin 4} {x : Int} {lv1 : List (Nat × Value)} (hd : decode b pc = .ok (.istore_n i, 1)) (hn : (i : Nat) < nL) (hl1 : ((i : Nat), iv x) :: lv.filter (fun q => !(q.1 == (i : Nat)) && !(q.1 + 1 == (i : Nat) && q.2.category == 2)) = lv1) (k : CW E own b nL R ci h0 A K Fz (pc + 1) lv1 st fs arrs cells slots) : CW E own b nL R ci h0 A K Fz pc lv (iv x :: st) fs arrs cells slots := by
  intro p l e s m args below meth c H locs ls C hP hD hS hl
  exact lv_istore_n C.1 C.2.1 hd rfl hl hn hl1 (fun ls hl => k p l e s m args below meth c H locs ls C hP hD hS hl)
theorem CW.iinc {i : Nat} {n x : Int} {lv1 : List (Nat × Value)} (q : Nat) (hd : decode b pc = .ok (.iinc i n, 3)) (hq : lv[q]? = some (i, iv x)) (hn : i < nL) (hl1 : (i, iv (x + n)) :: lv.filter (fun q => !(q.1 == i) && !(q.1 + 1 == i && q.2.category == 2)) = lv1) (k : CW E own b nL R ci h0 A K Fz (pc + 3) lv1 st fs arrs cells slots) : CW E own b nL R ci h0 A K Fz pc lv st fs arrs cells slots := by
  intro p l e s m args below meth c H locs ls C hP hD hS hl
  exact lv_iinc C.1 C.2.1 hd hl hq (Int32.ofInt_add x n).symm hn hl1 (fun ls hl => k p l e s m args below meth c H locs ls C hP hD hS hl)
theorem CW.goto {off : Int} {tgt : Nat} (hd : decode b pc = .ok (.goto off, 3)) (ht : (pc : Int) + off = (tgt : Int)) (k : CW E own b nL R ci h0 A K Fz tgt lv st fs arrs cells slots) : CW E own b nL R ci h0 A K Fz pc lv st fs arrs cells slots := by
  intro p l e s m args below meth c H locs ls C hP hD hS hl
  exact lv_goto C.1 C.2.1 hd ht (k p l e s m args below meth c H locs ls C hP hD hS hl)
theorem CW.icmp_ge {x y : Int} {off : Int} {tgt : Nat} (hd : decode b pc = .ok (.if_icmp .ge off, 3)) (ht : (pc : Int) + off = (tgt : Int)) (kt : nw y ≤ nw x → CW E own b nL R ci h0 A K Fz tgt lv st fs arrs cells slots) (kf : ¬ nw y ≤ nw x → CW E own b nL R ci h0 A K Fz (pc + 3) lv st fs arrs cells slots) : CW E own b nL R ci h0 A K Fz pc lv (iv y :: iv x :: st) fs arrs cells slots := by
  intro p l e s m args below meth c H locs ls C hP hD hS hl
  exact lv_icmp_ge C.1 C.2.1 hd ht (fun q => kt ((i32_le y x).mp q) p l e s m args below meth c H locs ls C hP hD hS hl) (fun q => kf (fun q2 => q ((i32_le y x).mpr q2)) p l e s m args below meth c H locs ls C hP hD hS hl)
theorem CW.iast {x n : Nat} {f : Nat → Int32} {j v : Int} (i : Nat) (hi : arrs[i]? = some (x, .inl (E.2.1, (n, .inl f)))) (hj : 0 ≤ nw j ∧ nw j < n) (hd : decode b pc = .ok (.iastore, 1))
    (k : CW E own b nL R ci h0 A K Fz (pc + 1) lv st fs (arrs.set i (x, .inl (E.2.1, (n, .inl (upd f (ix j) (Int32.ofInt v)))))) cells slots) : CW E own b nL R ci h0 A K Fz pc lv (iv v :: iv j :: .ref x :: st) fs arrs cells slots := by
  intro p l e s m args below meth c H locs ls C hP hD hS hl
  refine va_iast C.1 C.2.1 C.2.2.2.2.2.2.2.2.1 hP hD hS (i + 1) 0 (by rw [List.getElem?_cons_succ]; exact hi) rfl (i32_in j n hj) hd (fun H1 locs1 hP1 hD1 hS1 => ?_)
  rw [i32_clamp] at hP1 hD1
  exact k p l e s m args below meth c H1 locs1 ls C hP1 hD1 hS1 hl
theorem CW.norm {fs1 : List Value} (he : fs = fs1) (k : CW E own b nL R ci h0 A K Fz pc lv st fs1 arrs cells slots) : CW E own b nL R ci h0 A K Fz pc lv st fs arrs cells slots := by
  rw [he]
  exact k
theorem CW.mna {idx : Nat} (hK0 : ∀ U, K U → va_AOA .int U) (hcl : Cond.classLink own idx "[[I" ∈ lw_gd) (harr : Cond.arrayClass .int ∈ lw_gd) (hc : cells + 11 ≤ R.cells) (hs : slots + 110 ≤ R.slots) (hd : decode b pc = .ok (.multianewarray idx 2, 4))
    (kk : ∀ (q : Nat) (r : Nat → Nat), CW E own b nL R ci h0 A K Fz (pc + 4) lv (.ref q :: st) fs (arrs ++ ((q, .inl (E.2.2.2, (10, .inr (.inr (.inr (.inr (fun i => ([r 0, r 1, r 2, r 3, r 4, r 5, r 6, r 7, r 8, r 9] : List Nat)[i]?))))))) :: (List.range 10).map (fun i => (r i, .inl (E.2.1, (10, .inl (fun _ => 0))))))) (cells + 11) (slots + 110)) : CW E own b nL R ci h0 A K Fz pc lv (iv 10 :: iv 10 :: st) fs arrs cells slots := by
  intro p l e s m args below meth c H locs ls C hP hD hS hl
  have e0 : ("[" ++ (FieldType.array .int).toString) = "[[I" := by decide +kernel
  have hK1 := C.2.2.2.2.2.2.2.2.1
  have hcy : s.vm.findClass (FieldType.array .int).toString = some E.2.1 := (hK1.2 0 _ rfl).2
  have h1 : cP E (((h0, .inr (ci, fs)) :: arrs) ++ va_pl [] (fun _ => .inl (E.2.1, (10, .inl (fun _ => 0))))) H := by
    show cP E (((h0, .inr (ci, fs)) :: arrs) ++ []) H
    rw [List.append_nil]
    exact hP
  have h2 : va_D A (((h0, .inr (ci, fs)) :: arrs) ++ va_pl [] (fun _ => .inl (E.2.1, (10, .inl (fun _ => 0))))) := by
    show va_D A (((h0, .inr (ci, fs)) :: arrs) ++ [])
    rw [List.append_nil]
    exact hD
  refine va_mna (X := (h0, .inr (ci, fs)) :: arrs) (L := []) (f := fun _ => .inl (E.2.1, (10, .inl (fun _ => 0)))) (z := (10, .inl (fun _ => 0))) (N' := 10) (K' := 10) C.1 C.2.1 C.2.2.2.2.1 (by rw [e0]; exact C.2.2.2.2.2.1 _ hcl) (hK0 _ C.2.2.2.2.2.2.2.2.2.1) (C.2.2.2.2.2.1 _ harr) hcy hK1 h1 h2 hS C.2.2.2.2.2.2.2.2.2.2 (by decide +kernel) (by decide +kernel) (by decide +kernel) (by decide +kernel) (by decide) (by decide +kernel) (by decide) rfl rfl (by omega) (by omega) (fun c => rfl) hd (fun q r cA H1 hrr hrL hK2 hP1 hD1 hS1 => ?_)
  have e1 := (hK2.2 3 _ rfl).2
  have e2 := (hK1.2 2 _ rfl).2
  have e3 : cA = E.2.2.2 := Option.some.inj (e1.symm.trans e2)
  subst e3
  have e4 : va_pl ([] ++ (List.range 10).map r) (vr_up (fun _ => .inl (E.2.1, (10, .inl (fun _ => 0)))) ((List.range 10).map r) (.inl (E.2.1, (10, .inl (fun _ => 0))))) = (List.range 10).map (fun i => (r i, .inl (E.2.1, (10, .inl (fun _ => 0))))) := by
    unfold va_pl
    rw [List.nil_append, List.map_map]
    apply List.map_congr_left
    intro i hi
    show (r i, vr_up _ _ _ (r i)) = _
    rw [vr_up_in (List.mem_map_of_mem hi)]
  have e5 : (fun i => if i < 10 then some (r i) else none) = (fun i => ([r 0, r 1, r 2, r 3, r 4, r 5, r 6, r 7, r 8, r 9] : List Nat)[i]?) := by
    funext i
    match i with
    | 0 => rfl
    | 1 => rfl
    | 2 => rfl
    | 3 => rfl
    | 4 => rfl
    | 5 => rfl
    | 6 => rfl
    | 7 => rfl
    | 8 => rfl
    | 9 => rfl
    | n + 10 => exact (if_neg (by omega)).trans rfl
  rw [e4, e5, List.append_assoc] at hP1 hD1
  exact kk q r p l e s m args below meth c H1 locs ls C hP1 hD1 hS1 hl
end CWR2
theorem cAlike {s U : State} (h : s.WarmedH U.vm) : s.vm.Alike U.vm := h.alike
def KO (U : State) : Prop := va_AOA .int U
theorem StK.o : StK KO := ⟨fun U g mk a h => va_AOA.moved (Vm.Alike.refl U.vm) h, fun s U h k => va_AOA.moved h.alike k⟩
def nestI : List (Nat × String) := [(18, "WeekBoats$Rules"), (64, "WeekBoats$LockQueue"), (71, "WeekBoats$Bookings"), (78, "WeekBoats$Yard"), (94, "WeekBoats$Rain")]
def KWb (U : State) : Prop := KO U ∧ ∀ q ∈ nestI, va_Nw (.methodLinkNest "WeekBoats" q.1 ⟨q.2, "<init>", "()V"⟩ "WeekBoats") U
theorem StK.w : StK KWb := ⟨fun U g mk a h => ⟨StK.o.1 U g mk a h.1, fun q hq => va_Nw.same rfl (rfl : U.vm = (U.calling g mk a).vm) (h.2 q hq)⟩, fun s U h k => ⟨StK.o.2 s U h k.1, fun q hq => va_Nw.warmM h (k.2 q hq)⟩⟩
theorem wm_141 : Cond.classLink "WeekBoats" 9 "WeekBoats$Canal" ∈ lw_gd := wk_1 (i := 31) (by decide +kernel) rfl
theorem wm_142 : Cond.instantiable "WeekBoats$Canal" 7 ∈ lw_gd := wk_1 (i := 32) (by decide +kernel) rfl
theorem wm_184 : Cond.arrayClass .int ∈ lw_gd := wk_1 (i := 74) (by decide +kernel) rfl
theorem wm_185 : Cond.classLink "WeekBoats" 16 "WeekBoats$Rules" ∈ lw_gd := wk_1 (i := 75) (by decide +kernel) rfl
theorem wm_186 : Cond.instantiable "WeekBoats$Rules" 15 ∈ lw_gd := wk_1 (i := 76) (by decide +kernel) rfl
theorem wm_253 : Cond.classLink "WeekBoats" 26 "WeekBoats$Parser" ∈ lw_gd := wk_1 (i := 143) (by decide +kernel) rfl
theorem wm_254 : Cond.instantiable "WeekBoats$Parser" 9 ∈ lw_gd := wk_1 (i := 144) (by decide +kernel) rfl
theorem wm_290 : Cond.classLink "WeekBoats" 35 "WeekBoats$Voyage" ∈ lw_gd := wk_1 (i := 180) (by decide +kernel) rfl
theorem wm_291 : Cond.instantiable "WeekBoats$Voyage" 8 ∈ lw_gd := wk_1 (i := 181) (by decide +kernel) rfl
theorem wm_326 : Cond.classLink "WeekBoats" 44 "WeekBoats$Boats" ∈ lw_gd := wk_1 (i := 216) (by decide +kernel) rfl
theorem wm_327 : Cond.instantiable "WeekBoats$Boats" 12 ∈ lw_gd := wk_1 (i := 217) (by decide +kernel) rfl
theorem wm_332 : Cond.classLink "WeekBoats$Boats" 24 "[[I" ∈ lw_gd := wk_1 (i := 222) (by decide +kernel) rfl
theorem wm_377 : Cond.classLink "WeekBoats" 53 "WeekBoats$Trips" ∈ lw_gd := wk_2 (i := 27) (by decide +kernel) rfl
theorem wm_378 : Cond.instantiable "WeekBoats$Trips" 9 ∈ lw_gd := wk_2 (i := 28) (by decide +kernel) rfl
theorem wm_412 : Cond.classLink "WeekBoats" 62 "WeekBoats$LockQueue" ∈ lw_gd := wk_2 (i := 62) (by decide +kernel) rfl
theorem wm_413 : Cond.instantiable "WeekBoats$LockQueue" 7 ∈ lw_gd := wk_2 (i := 63) (by decide +kernel) rfl
theorem wm_443 : Cond.classLink "WeekBoats" 69 "WeekBoats$Bookings" ∈ lw_gd := wk_2 (i := 93) (by decide +kernel) rfl
theorem wm_444 : Cond.instantiable "WeekBoats$Bookings" 17 ∈ lw_gd := wk_2 (i := 94) (by decide +kernel) rfl
theorem wm_505 : Cond.classLink "WeekBoats" 76 "WeekBoats$Yard" ∈ lw_gd := wk_2 (i := 155) (by decide +kernel) rfl
theorem wm_506 : Cond.instantiable "WeekBoats$Yard" 15 ∈ lw_gd := wk_2 (i := 156) (by decide +kernel) rfl
theorem wm_565 : Cond.classLink "WeekBoats" 83 "WeekBoats$Vans" ∈ lw_gd := wk_2 (i := 215) (by decide +kernel) rfl
theorem wm_566 : Cond.instantiable "WeekBoats$Vans" 15 ∈ lw_gd := wk_2 (i := 216) (by decide +kernel) rfl
theorem wm_624 : Cond.classLink "WeekBoats" 92 "WeekBoats$Rain" ∈ lw_gd := wk_3 (i := 34) (by decide +kernel) rfl
theorem wm_625 : Cond.instantiable "WeekBoats$Rain" 3 ∈ lw_gd := wk_3 (i := 35) (by decide +kernel) rfl
theorem wm_1802 : Cond.arrayClass .boolean ∈ lw_gd := wk_8 (i := 12) (by decide +kernel) rfl
theorem cqF_X2_28 : CQ RX2 28 ⟨"java/util/Arrays", "fill", "([II)V"⟩ cJ7_fill_53178 4 none 2 := ⟨wm_147, wm_113, wm_149, by decide +kernel, by decide⟩
theorem cqF_X9_32 : CQ RX9 32 ⟨"java/util/Arrays", "fill", "([II)V"⟩ cJ7_fill_53178 4 none 2 := ⟨wm_296, wm_113, wm_149, by decide +kernel, by decide⟩
theorem cm_X0 (E : CE) (h0 x1 x2 x3 : Nat) : CM E yX0_init cX0_init 4 1 0 h0 [.ref x1, .ref x2, .ref x3] [.null, .null, .null, .null, .null, .null, .null, iv 0, .null, .null, .null, .null] (KO) (fun q => [.ref x1, .ref x2, .ref x3, .ref (q 0), .ref (q 1), .ref (q 2), .ref (q 3), iv 0, .ref (q 4), .ref (q 15), .ref (q 26), .ref (q 27)]) (fun q => [((q 0), .inl (E.2.1, (10, .inl (fun _ => 0)))), ((q 1), .inl (E.2.1, (10, .inl (fun _ => 0)))), ((q 2), .inl (E.2.1, (10, .inl (fun _ => 0)))), ((q 3), .inl (E.2.1, (10, .inl (fun _ => 0)))), ((q 4), .inl (E.2.2.2, (10, .inr (.inr (.inr (.inr (fun i => ([(q 5), (q 6), (q 7), (q 8), (q 9), (q 10), (q 11), (q 12), (q 13), (q 14)] : List Nat)[i]?))))))), ((q 5), .inl (E.2.1, (10, .inl (fun _ => 0)))), ((q 6), .inl (E.2.1, (10, .inl (fun _ => 0)))), ((q 7), .inl (E.2.1, (10, .inl (fun _ => 0)))), ((q 8), .inl (E.2.1, (10, .inl (fun _ => 0)))), ((q 9), .inl (E.2.1, (10, .inl (fun _ => 0)))), ((q 10), .inl (E.2.1, (10, .inl (fun _ => 0)))), ((q 11), .inl (E.2.1, (10, .inl (fun _ => 0)))), ((q 12), .inl (E.2.1, (10, .inl (fun _ => 0)))), ((q 13), .inl (E.2.1, (10, .inl (fun _ => 0)))), ((q 14), .inl (E.2.1, (10, .inl (fun _ => 0)))), ((q 15), .inl (E.2.2.2, (10, .inr (.inr (.inr (.inr (fun i => ([(q 16), (q 17), (q 18), (q 19), (q 20), (q 21), (q 22), (q 23), (q 24), (q 25)] : List Nat)[i]?))))))), ((q 16), .inl (E.2.1, (10, .inl (fun _ => 0)))), ((q 17), .inl (E.2.1, (10, .inl (fun _ => 0)))), ((q 18), .inl (E.2.1, (10, .inl (fun _ => 0)))), ((q 19), .inl (E.2.1, (10, .inl (fun _ => 0)))), ((q 20), .inl (E.2.1, (10, .inl (fun _ => 0)))), ((q 21), .inl (E.2.1, (10, .inl (fun _ => 0)))), ((q 22), .inl (E.2.1, (10, .inl (fun _ => 0)))), ((q 23), .inl (E.2.1, (10, .inl (fun _ => 0)))), ((q 24), .inl (E.2.1, (10, .inl (fun _ => 0)))), ((q 25), .inl (E.2.1, (10, .inl (fun _ => 0)))), ((q 26), .inl (E.2.1, (10, .inl (fun _ => 0)))), ((q 27), .inl (E.2.1, (16, .inl (fun _ => 0))))]) 28 286 := by
  refine CM.of (by decide +kernel) rfl (Nat.le_of_ble_eq_true rfl) (fun A => ?_)
  show CW E RX0 cX0_init 4 (cR 1 28 286) 0 h0 A (KO) _ 0 [(0, .ref h0), (1, .ref x1), (2, .ref x2), (3, .ref x3)] [] [.null, .null, .null, .null, .null, .null, .null, iv 0, .null, .null, .null, .null] [] 0 0
  refine CW.aload_n 0 (dcN_0 dcg_0 :) rfl ?_
  refine CW.objInit wm_331 wm_139 wm_140 (Nat.le_of_ble_eq_true rfl) (Nat.le_of_ble_eq_true rfl) (dcN_1 dcg_0 :) ?_
  refine CW.aload_n 0 (dcN_2 dcg_0 :) rfl ?_
  refine CW.bipush (dcN_3 dcg_0 :) (by decide) (by decide) ?_
  refine CW.newi (n := 10) (by decide) wm_184 (Nat.le_of_ble_eq_true rfl) (Nat.le_of_ble_eq_true rfl) dX0_init_7 (fun q0 => ?_)
  refine CW.putF (k := 3) (ty := (.array .int)) (v := .ref q0) rfl gX0 tyX0_ok nmX0 (by decide) wm_337 rfl rfl (by decide +kernel) rfl rfl (Nat.le_of_ble_eq_true rfl) (dcN_4 dcg_0 :) ?_
  refine CW.aload_n 0 (dcN_5 dcg_0 :) rfl ?_
  refine CW.bipush (dcN_6 dcg_0 :) (by decide) (by decide) ?_
  refine CW.newi (n := 10) (by decide) wm_184 (Nat.le_of_ble_eq_true rfl) (Nat.le_of_ble_eq_true rfl) dX0_init_15 (fun q1 => ?_)
  refine CW.putF (k := 4) (ty := (.array .int)) (v := .ref q1) rfl gX0 tyX0_ok nmX0 (by decide) wm_339 rfl rfl (by decide +kernel) rfl rfl (Nat.le_of_ble_eq_true rfl) (dcN_7 dcg_0 :) ?_
  refine CW.aload_n 0 (dcN_8 dcg_0 :) rfl ?_
  refine CW.bipush (dcN_9 dcg_0 :) (by decide) (by decide) ?_
  refine CW.newi (n := 10) (by decide) wm_184 (Nat.le_of_ble_eq_true rfl) (Nat.le_of_ble_eq_true rfl) dX0_init_23 (fun q2 => ?_)
  refine CW.putF (k := 5) (ty := (.array .int)) (v := .ref q2) rfl gX0 tyX0_ok nmX0 (by decide) wm_340 rfl rfl (by decide +kernel) rfl rfl (Nat.le_of_ble_eq_true rfl) (dcN_10 dcg_0 :) ?_
  refine CW.aload_n 0 (dcN_11 dcg_0 :) rfl ?_
  refine CW.bipush (dcN_12 dcg_0 :) (by decide) (by decide) ?_
  refine CW.newi (n := 10) (by decide) wm_184 (Nat.le_of_ble_eq_true rfl) (Nat.le_of_ble_eq_true rfl) dX0_init_31 (fun q3 => ?_)
  refine CW.putF (k := 6) (ty := (.array .int)) (v := .ref q3) rfl gX0 tyX0_ok nmX0 (by decide) wm_342 rfl rfl (by decide +kernel) rfl rfl (Nat.le_of_ble_eq_true rfl) (dcN_0 dcg_1 :) ?_
  refine CW.aload_n 0 (dcN_1 dcg_1 :) rfl ?_
  refine CW.bipush (dcN_2 dcg_1 :) (by decide) (by decide) ?_
  refine CW.bipush (dcN_3 dcg_1 :) (by decide) (by decide) ?_
  refine CW.mna (fun U h => h) wm_332 wm_184 (Nat.le_of_ble_eq_true rfl) (Nat.le_of_ble_eq_true rfl) dX0_init_41 (fun q4 r4 => ?_)
  refine CW.putF (k := 8) (ty := (.array (.array .int))) (v := .ref q4) rfl gX0 tyX0_ok nmX0 (by decide) wm_347 rfl rfl (by decide +kernel) rfl rfl (Nat.le_of_ble_eq_true rfl) (dcN_4 dcg_1 :) ?_
  refine CW.aload_n 0 (dcN_5 dcg_1 :) rfl ?_
  refine CW.bipush (dcN_6 dcg_1 :) (by decide) (by decide) ?_
  refine CW.bipush (dcN_7 dcg_1 :) (by decide) (by decide) ?_
  refine CW.mna (fun U h => h) wm_332 wm_184 (Nat.le_of_ble_eq_true rfl) (Nat.le_of_ble_eq_true rfl) dX0_init_53 (fun q15 r15 => ?_)
  refine CW.putF (k := 9) (ty := (.array (.array .int))) (v := .ref q15) rfl gX0 tyX0_ok nmX0 (by decide) wm_348 rfl rfl (by decide +kernel) rfl rfl (Nat.le_of_ble_eq_true rfl) (dcN_8 dcg_1 :) ?_
  refine CW.aload_n 0 (dcN_9 dcg_1 :) rfl ?_
  refine CW.bipush (dcN_10 dcg_1 :) (by decide) (by decide) ?_
  refine CW.newi (n := 10) (by decide) wm_184 (Nat.le_of_ble_eq_true rfl) (Nat.le_of_ble_eq_true rfl) dX0_init_63 (fun q26 => ?_)
  refine CW.putF (k := 10) (ty := (.array .int)) (v := .ref q26) rfl gX0 tyX0_ok nmX0 (by decide) wm_349 rfl rfl (by decide +kernel) rfl rfl (Nat.le_of_ble_eq_true rfl) (dcN_0 dcg_2 :) ?_
  refine CW.aload_n 0 (dcN_1 dcg_2 :) rfl ?_
  refine CW.bipush (dcN_2 dcg_2 :) (by decide) (by decide) ?_
  refine CW.newi (n := 16) (by decide) wm_184 (Nat.le_of_ble_eq_true rfl) (Nat.le_of_ble_eq_true rfl) dX0_init_71 (fun q27 => ?_)
  refine CW.putF (k := 11) (ty := (.array .int)) (v := .ref q27) rfl gX0 tyX0_ok nmX0 (by decide) wm_350 rfl rfl (by decide +kernel) rfl rfl (Nat.le_of_ble_eq_true rfl) (dcN_3 dcg_2 :) ?_
  refine CW.aload_n 0 (dcN_4 dcg_2 :) rfl ?_
  refine CW.aload_n 1 (dcN_5 dcg_2 :) rfl ?_
  refine CW.putF (k := 0) (ty := (.object "WeekBoats$Canal")) (v := .ref x1) rfl gX0 tyX0_ok nmX0 (by decide) wm_334 rfl rfl (by decide +kernel) rfl rfl (Nat.le_of_ble_eq_true rfl) (dcN_6 dcg_2 :) ?_
  refine CW.aload_n 0 (dcN_7 dcg_2 :) rfl ?_
  refine CW.aload_n 2 (dcN_8 dcg_2 :) rfl ?_
  refine CW.putF (k := 1) (ty := (.object "WeekBoats$Rules")) (v := .ref x2) rfl gX0 tyX0_ok nmX0 (by decide) wm_335 rfl rfl (by decide +kernel) rfl rfl (Nat.le_of_ble_eq_true rfl) (dcN_9 dcg_2 :) ?_
  refine CW.aload_n 0 (dcN_10 dcg_2 :) rfl ?_
  refine CW.aload_n 3 (dcN_11 dcg_2 :) rfl ?_
  refine CW.putF (k := 2) (ty := (.object "WeekBoats$Voyage")) (v := .ref x3) rfl gX0 tyX0_ok nmX0 (by decide) wm_336 rfl rfl (by decide +kernel) rfl rfl (Nat.le_of_ble_eq_true rfl) (dcN_12 dcg_2 :) ?_
  exact CW.ret (fun i => ([q0, q1, q2, q3, q4, (r4 0), (r4 1), (r4 2), (r4 3), (r4 4), (r4 5), (r4 6), (r4 7), (r4 8), (r4 9), q15, (r15 0), (r15 1), (r15 2), (r15 3), (r15 4), (r15 5), (r15 6), (r15 7), (r15 8), (r15 9), q26, q27] : List Nat).getD i 0) rfl rfl rfl rfl (dcN_13 dcg_2 :)
theorem cm_X1 (E : CE) (h0 : Nat) : CM E yX1_init cX1_init 1 1 1 h0 [] [.null, .null, .null, .null, iv 0, .null, .null, .null, .null, .null, iv 0, iv 0, .null, .null, .null, iv 0, iv 0] (fun _ => True) (fun q => [.ref (q 0), .ref (q 1), .ref (q 2), .ref (q 3), iv 0, .ref (q 4), .ref (q 5), .ref (q 6), .ref (q 7), .ref (q 8), iv 0, iv 0, .ref (q 9), .ref (q 10), .ref (q 11), iv 0, iv 0]) (fun q => [((q 0), .inl (E.2.1, (8, .inl (fun _ => 0)))), ((q 1), .inl (E.2.1, (8, .inl (fun _ => 0)))), ((q 2), .inl (E.2.1, (8, .inl (fun _ => 0)))), ((q 3), .inl (E.2.1, (8, .inl (fun _ => 0)))), ((q 4), .inl (E.2.1, (8, .inl (fun _ => 0)))), ((q 5), .inl (E.2.1, (4, .inl (fun _ => 0)))), ((q 6), .inl (E.2.1, (4, .inl (fun _ => 0)))), ((q 7), .inl (E.2.1, (4, .inl (fun _ => 0)))), ((q 8), .inl (E.2.1, (4, .inl (fun _ => 0)))), ((q 9), .inl (E.2.1, (9, .inl (fun _ => 0)))), ((q 10), .inl (E.2.1, (8, .inl (fun _ => 0)))), ((q 11), .inl (E.2.1, (8, .inl (fun _ => 0))))]) 12 81 := by
  refine CM.of (by decide +kernel) rfl (Nat.le_of_ble_eq_true rfl) (fun A => ?_)
  show CW E RX1 cX1_init 1 (cR 1 12 81) 1 h0 A (fun _ => True) _ 0 [(0, .ref h0)] [] [.null, .null, .null, .null, iv 0, .null, .null, .null, .null, .null, iv 0, iv 0, .null, .null, .null, iv 0, iv 0] [] 0 0
  refine CW.aload_n 0 (dcN_0 dcg_38 :) rfl ?_
  refine CW.objInit wm_448 wm_139 wm_140 (Nat.le_of_ble_eq_true rfl) (Nat.le_of_ble_eq_true rfl) (dcN_1 dcg_38 :) ?_
  refine CW.aload_n 0 (dcN_2 dcg_38 :) rfl ?_
  refine CW.bipush (dcN_3 dcg_38 :) (by decide) (by decide) ?_
  refine CW.newi (n := 8) (by decide) wm_184 (Nat.le_of_ble_eq_true rfl) (Nat.le_of_ble_eq_true rfl) dX1_init_7 (fun q0 => ?_)
  refine CW.putF (k := 0) (ty := (.array .int)) (v := .ref q0) rfl gX1 tyX1_ok nmX1 (by decide) wm_449 rfl rfl (by decide +kernel) rfl rfl (Nat.le_of_ble_eq_true rfl) (dcN_4 dcg_38 :) ?_
  refine CW.aload_n 0 (dcN_5 dcg_38 :) rfl ?_
  refine CW.bipush (dcN_6 dcg_38 :) (by decide) (by decide) ?_
  refine CW.newi (n := 8) (by decide) wm_184 (Nat.le_of_ble_eq_true rfl) (Nat.le_of_ble_eq_true rfl) dX1_init_15 (fun q1 => ?_)
  refine CW.putF (k := 1) (ty := (.array .int)) (v := .ref q1) rfl gX1 tyX1_ok nmX1 (by decide) wm_450 rfl rfl (by decide +kernel) rfl rfl (Nat.le_of_ble_eq_true rfl) (dcN_7 dcg_38 :) ?_
  refine CW.aload_n 0 (dcN_8 dcg_38 :) rfl ?_
  refine CW.bipush (dcN_9 dcg_38 :) (by decide) (by decide) ?_
  refine CW.newi (n := 8) (by decide) wm_184 (Nat.le_of_ble_eq_true rfl) (Nat.le_of_ble_eq_true rfl) dX1_init_23 (fun q2 => ?_)
  refine CW.putF (k := 2) (ty := (.array .int)) (v := .ref q2) rfl gX1 tyX1_ok nmX1 (by decide) wm_451 rfl rfl (by decide +kernel) rfl rfl (Nat.le_of_ble_eq_true rfl) (dcN_10 dcg_38 :) ?_
  refine CW.aload_n 0 (dcN_11 dcg_38 :) rfl ?_
  refine CW.bipush (dcN_12 dcg_38 :) (by decide) (by decide) ?_
  refine CW.newi (n := 8) (by decide) wm_184 (Nat.le_of_ble_eq_true rfl) (Nat.le_of_ble_eq_true rfl) dX1_init_31 (fun q3 => ?_)
  refine CW.putF (k := 3) (ty := (.array .int)) (v := .ref q3) rfl gX1 tyX1_ok nmX1 (by decide) wm_452 rfl rfl (by decide +kernel) rfl rfl (Nat.le_of_ble_eq_true rfl) (dcN_0 dcg_39 :) ?_
  refine CW.aload_n 0 (dcN_1 dcg_39 :) rfl ?_
  refine CW.bipush (dcN_2 dcg_39 :) (by decide) (by decide) ?_
  refine CW.newi (n := 8) (by decide) wm_184 (Nat.le_of_ble_eq_true rfl) (Nat.le_of_ble_eq_true rfl) dX1_init_39 (fun q4 => ?_)
  refine CW.putF (k := 5) (ty := (.array .int)) (v := .ref q4) rfl gX1 tyX1_ok nmX1 (by decide) wm_455 rfl rfl (by decide +kernel) rfl rfl (Nat.le_of_ble_eq_true rfl) (dcN_3 dcg_39 :) ?_
  refine CW.aload_n 0 (dcN_4 dcg_39 :) rfl ?_
  refine CW.iconst (dcN_5 dcg_39 :) ?_
  refine CW.newi (n := 4) (by decide) wm_184 (Nat.le_of_ble_eq_true rfl) (Nat.le_of_ble_eq_true rfl) dX1_init_46 (fun q5 => ?_)
  refine CW.putF (k := 6) (ty := (.array .int)) (v := .ref q5) rfl gX1 tyX1_ok nmX1 (by decide) wm_456 rfl rfl (by decide +kernel) rfl rfl (Nat.le_of_ble_eq_true rfl) (dcN_6 dcg_39 :) ?_
  refine CW.aload_n 0 (dcN_7 dcg_39 :) rfl ?_
  refine CW.iconst (dcN_8 dcg_39 :) ?_
  refine CW.newi (n := 4) (by decide) wm_184 (Nat.le_of_ble_eq_true rfl) (Nat.le_of_ble_eq_true rfl) dX1_init_53 (fun q6 => ?_)
  refine CW.putF (k := 7) (ty := (.array .int)) (v := .ref q6) rfl gX1 tyX1_ok nmX1 (by decide) wm_457 rfl rfl (by decide +kernel) rfl rfl (Nat.le_of_ble_eq_true rfl) (dcN_9 dcg_39 :) ?_
  refine CW.aload_n 0 (dcN_10 dcg_39 :) rfl ?_
  refine CW.iconst (dcN_11 dcg_39 :) ?_
  refine CW.newi (n := 4) (by decide) wm_184 (Nat.le_of_ble_eq_true rfl) (Nat.le_of_ble_eq_true rfl) dX1_init_60 (fun q7 => ?_)
  refine CW.putF (k := 8) (ty := (.array .int)) (v := .ref q7) rfl gX1 tyX1_ok nmX1 (by decide) wm_458 rfl rfl (by decide +kernel) rfl rfl (Nat.le_of_ble_eq_true rfl) (dcN_12 dcg_39 :) ?_
  refine CW.aload_n 0 (dcN_0 dcg_40 :) rfl ?_
  refine CW.iconst (dcN_1 dcg_40 :) ?_
  refine CW.newi (n := 4) (by decide) wm_184 (Nat.le_of_ble_eq_true rfl) (Nat.le_of_ble_eq_true rfl) dX1_init_67 (fun q8 => ?_)
  refine CW.putF (k := 9) (ty := (.array .int)) (v := .ref q8) rfl gX1 tyX1_ok nmX1 (by decide) wm_459 rfl rfl (by decide +kernel) rfl rfl (Nat.le_of_ble_eq_true rfl) (dcN_2 dcg_40 :) ?_
  refine CW.aload_n 0 (dcN_3 dcg_40 :) rfl ?_
  refine CW.bipush (dcN_4 dcg_40 :) (by decide) (by decide) ?_
  refine CW.newi (n := 9) (by decide) wm_184 (Nat.le_of_ble_eq_true rfl) (Nat.le_of_ble_eq_true rfl) dX1_init_75 (fun q9 => ?_)
  refine CW.putF (k := 12) (ty := (.array .int)) (v := .ref q9) rfl gX1 tyX1_ok nmX1 (by decide) wm_462 rfl rfl (by decide +kernel) rfl rfl (Nat.le_of_ble_eq_true rfl) (dcN_5 dcg_40 :) ?_
  refine CW.aload_n 0 (dcN_6 dcg_40 :) rfl ?_
  refine CW.bipush (dcN_7 dcg_40 :) (by decide) (by decide) ?_
  refine CW.newi (n := 8) (by decide) wm_184 (Nat.le_of_ble_eq_true rfl) (Nat.le_of_ble_eq_true rfl) dX1_init_83 (fun q10 => ?_)
  refine CW.putF (k := 13) (ty := (.array .int)) (v := .ref q10) rfl gX1 tyX1_ok nmX1 (by decide) wm_463 rfl rfl (by decide +kernel) rfl rfl (Nat.le_of_ble_eq_true rfl) (dcN_8 dcg_40 :) ?_
  refine CW.aload_n 0 (dcN_9 dcg_40 :) rfl ?_
  refine CW.bipush (dcN_10 dcg_40 :) (by decide) (by decide) ?_
  refine CW.newi (n := 8) (by decide) wm_184 (Nat.le_of_ble_eq_true rfl) (Nat.le_of_ble_eq_true rfl) dX1_init_91 (fun q11 => ?_)
  refine CW.putF (k := 14) (ty := (.array .int)) (v := .ref q11) rfl gX1 tyX1_ok nmX1 (by decide) wm_464 rfl rfl (by decide +kernel) rfl rfl (Nat.le_of_ble_eq_true rfl) (dcN_11 dcg_40 :) ?_
  exact CW.ret (fun i => ([q0, q1, q2, q3, q4, q5, q6, q7, q8, q9, q10, q11] : List Nat).getD i 0) rfl rfl rfl rfl (dcN_0 dcg_41 :)
theorem cm_X2 (E : CE) (h0 : Nat) : CM E yX2_init cX2_init 1 1 2 h0 [] [.null, .null, .null, .null, iv 0, iv 0, iv 0] (fun _ => True) (fun q => [.ref (q 0), .ref (q 1), .ref (q 2), .ref (q 3), iv 0, iv (500), iv 0]) (fun q => [((q 0), .inl (E.2.1, (15, .inl (fun j => if j < 15 then Int32.ofInt 1 else (fun _ => 0) j)))), ((q 1), .inl (E.2.1, (15, .inl (fun _ => 0)))), ((q 2), .inl (E.2.1, (15, .inl (fun j => if j < 15 then Int32.ofInt 5 else (fun _ => 0) j)))), ((q 3), .inl (E.2.1, (15, .inl (fun _ => 0))))]) 4 60 := by
  refine CM.of (by decide +kernel) rfl (Nat.le_of_ble_eq_true rfl) (fun A => ?_)
  show CW E RX2 cX2_init 1 (cR 1 4 60) 2 h0 A (fun _ => True) _ 0 [(0, .ref h0)] [] [.null, .null, .null, .null, iv 0, iv 0, iv 0] [] 0 0
  refine CW.aload_n 0 (dcN_0 dcg_72 :) rfl ?_
  refine CW.objInit wm_146 wm_139 wm_140 (Nat.le_of_ble_eq_true rfl) (Nat.le_of_ble_eq_true rfl) (dcN_1 dcg_72 :) ?_
  refine CW.aload_n 0 (dcN_2 dcg_72 :) rfl ?_
  refine CW.bipush (dcN_3 dcg_72 :) (by decide) (by decide) ?_
  refine CW.newi (n := 15) (by decide) wm_184 (Nat.le_of_ble_eq_true rfl) (Nat.le_of_ble_eq_true rfl) dX2_init_7 (fun q0 => ?_)
  refine CW.putF (k := 0) (ty := (.array .int)) (v := .ref q0) rfl gX2 tyX2_ok nmX2 (by decide) wm_150 rfl rfl (by decide +kernel) rfl rfl (Nat.le_of_ble_eq_true rfl) (dcN_4 dcg_72 :) ?_
  refine CW.aload_n 0 (dcN_5 dcg_72 :) rfl ?_
  refine CW.bipush (dcN_6 dcg_72 :) (by decide) (by decide) ?_
  refine CW.newi (n := 15) (by decide) wm_184 (Nat.le_of_ble_eq_true rfl) (Nat.le_of_ble_eq_true rfl) dX2_init_15 (fun q1 => ?_)
  refine CW.putF (k := 1) (ty := (.array .int)) (v := .ref q1) rfl gX2 tyX2_ok nmX2 (by decide) wm_153 rfl rfl (by decide +kernel) rfl rfl (Nat.le_of_ble_eq_true rfl) (dcN_7 dcg_72 :) ?_
  refine CW.aload_n 0 (dcN_8 dcg_72 :) rfl ?_
  refine CW.bipush (dcN_9 dcg_72 :) (by decide) (by decide) ?_
  refine CW.newi (n := 15) (by decide) wm_184 (Nat.le_of_ble_eq_true rfl) (Nat.le_of_ble_eq_true rfl) dX2_init_23 (fun q2 => ?_)
  refine CW.putF (k := 2) (ty := (.array .int)) (v := .ref q2) rfl gX2 tyX2_ok nmX2 (by decide) wm_156 rfl rfl (by decide +kernel) rfl rfl (Nat.le_of_ble_eq_true rfl) (dcN_10 dcg_72 :) ?_
  refine CW.aload_n 0 (dcN_11 dcg_72 :) rfl ?_
  refine CW.bipush (dcN_12 dcg_72 :) (by decide) (by decide) ?_
  refine CW.newi (n := 15) (by decide) wm_184 (Nat.le_of_ble_eq_true rfl) (Nat.le_of_ble_eq_true rfl) dX2_init_31 (fun q3 => ?_)
  refine CW.putF (k := 3) (ty := (.array .int)) (v := .ref q3) rfl gX2 tyX2_ok nmX2 (by decide) wm_159 rfl rfl (by decide +kernel) rfl rfl (Nat.le_of_ble_eq_true rfl) (dcN_0 dcg_73 :) ?_
  refine CW.aload_n 0 (dcN_1 dcg_73 :) rfl ?_
  refine CW.sipush (dcN_2 dcg_73 :) (by decide) (by decide) ?_
  refine CW.put (k := 5) (ty := .int) (v := iv (500)) rfl gX2 tyX2_ok nmX2 (by decide) wm_163 rfl (by decide +kernel) rfl rfl (Nat.le_of_ble_eq_true rfl) (dcN_3 dcg_73 :) ?_
  refine CW.aload_n 0 (dcN_4 dcg_73 :) rfl ?_
  refine CW.get (k := 0) (v := .ref q0) rfl gX2 (by decide) wm_150 rfl (dcN_5 dcg_73 :) ?_
  refine CW.iconst (dcN_6 dcg_73 :) ?_
  refine CW.fill (n := 15) (v := 1) (f := fun _ => 0) 0 rfl (by decide) cqF_X2_28 wm_148 (Nat.le_of_ble_eq_true rfl) (Nat.le_of_ble_eq_true rfl) ⟨(Nat.le_of_ble_eq_true rfl), (Nat.le_of_ble_eq_true rfl)⟩ (Nat.le_of_ble_eq_true rfl) (dcN_7 dcg_73 :) ?_
  refine CW.aload_n 0 (dcN_8 dcg_73 :) rfl ?_
  refine CW.get (k := 2) (v := .ref q2) rfl gX2 (by decide) wm_156 rfl (dcN_9 dcg_73 :) ?_
  refine CW.iconst (dcN_10 dcg_73 :) ?_
  refine CW.fill (n := 15) (v := 5) (f := fun _ => 0) 2 rfl (by decide) cqF_X2_28 wm_148 (Nat.le_of_ble_eq_true rfl) (Nat.le_of_ble_eq_true rfl) ⟨(Nat.le_of_ble_eq_true rfl), (Nat.le_of_ble_eq_true rfl)⟩ (Nat.le_of_ble_eq_true rfl) (dcN_11 dcg_73 :) ?_
  exact CW.ret (fun i => ([q0, q1, q2, q3] : List Nat).getD i 0) rfl rfl rfl rfl (dcN_12 dcg_73 :)
theorem cm_X3 (E : CE) (h0 : Nat) : CM E yX3_init cX3_init 1 1 3 h0 [] [.null, .null, iv 0, iv 0, iv 0, .null, .null] (fun _ => True) (fun q => [.ref (q 0), .ref (q 1), iv 0, iv 0, iv 0, .ref (q 2), .ref (q 3)]) (fun q => [((q 0), .inl (E.2.1, (7, .inl (fun _ => 0)))), ((q 1), .inl (E.2.1, (7, .inl (fun _ => 0)))), ((q 2), .inl (E.2.1, (7, .inl (fun _ => 0)))), ((q 3), .inl (E.2.1, (7, .inl (fun _ => 0))))]) 4 28 := by
  refine CM.of (by decide +kernel) rfl (Nat.le_of_ble_eq_true rfl) (fun A => ?_)
  show CW E RX3 cX3_init 1 (cR 1 4 28) 3 h0 A (fun _ => True) _ 0 [(0, .ref h0)] [] [.null, .null, iv 0, iv 0, iv 0, .null, .null] [] 0 0
  refine CW.aload_n 0 (dcN_0 dcg_79 :) rfl ?_
  refine CW.objInit wm_417 wm_139 wm_140 (Nat.le_of_ble_eq_true rfl) (Nat.le_of_ble_eq_true rfl) (dcN_1 dcg_79 :) ?_
  refine CW.aload_n 0 (dcN_2 dcg_79 :) rfl ?_
  refine CW.bipush (dcN_3 dcg_79 :) (by decide) (by decide) ?_
  refine CW.newi (n := 7) (by decide) wm_184 (Nat.le_of_ble_eq_true rfl) (Nat.le_of_ble_eq_true rfl) (dcN_4 dcg_79 :) (fun q0 => ?_)
  refine CW.putF (k := 0) (ty := (.array .int)) (v := .ref q0) rfl gX3 tyX3_ok nmX3 (by decide) wm_418 rfl rfl (by decide +kernel) rfl rfl (Nat.le_of_ble_eq_true rfl) (dcN_5 dcg_79 :) ?_
  refine CW.aload_n 0 (dcN_6 dcg_79 :) rfl ?_
  refine CW.bipush (dcN_7 dcg_79 :) (by decide) (by decide) ?_
  refine CW.newi (n := 7) (by decide) wm_184 (Nat.le_of_ble_eq_true rfl) (Nat.le_of_ble_eq_true rfl) (dcN_8 dcg_79 :) (fun q1 => ?_)
  refine CW.putF (k := 1) (ty := (.array .int)) (v := .ref q1) rfl gX3 tyX3_ok nmX3 (by decide) wm_419 rfl rfl (by decide +kernel) rfl rfl (Nat.le_of_ble_eq_true rfl) (dcN_9 dcg_79 :) ?_
  refine CW.aload_n 0 (dcN_10 dcg_79 :) rfl ?_
  refine CW.bipush (dcN_11 dcg_79 :) (by decide) (by decide) ?_
  refine CW.newi (n := 7) (by decide) wm_184 (Nat.le_of_ble_eq_true rfl) (Nat.le_of_ble_eq_true rfl) (dcN_0 dcg_80 :) (fun q2 => ?_)
  refine CW.putF (k := 5) (ty := (.array .int)) (v := .ref q2) rfl gX3 tyX3_ok nmX3 (by decide) wm_426 rfl rfl (by decide +kernel) rfl rfl (Nat.le_of_ble_eq_true rfl) (dcN_1 dcg_80 :) ?_
  refine CW.aload_n 0 (dcN_2 dcg_80 :) rfl ?_
  refine CW.bipush (dcN_3 dcg_80 :) (by decide) (by decide) ?_
  refine CW.newi (n := 7) (by decide) wm_184 (Nat.le_of_ble_eq_true rfl) (Nat.le_of_ble_eq_true rfl) (dcN_4 dcg_80 :) (fun q3 => ?_)
  refine CW.putF (k := 6) (ty := (.array .int)) (v := .ref q3) rfl gX3 tyX3_ok nmX3 (by decide) wm_427 rfl rfl (by decide +kernel) rfl rfl (Nat.le_of_ble_eq_true rfl) (dcN_5 dcg_80 :) ?_
  exact CW.ret (fun i => ([q0, q1, q2, q3] : List Nat).getD i 0) rfl rfl rfl rfl (dcN_6 dcg_80 :)
theorem cm_X4 (E : CE) (h0 x1 : Nat) : CM E yX4_init cX4_init 2 1 4 h0 [.ref x1] [.null, .null, iv 0, .null, .null, iv 0, iv 0, iv 0, iv 0] (fun _ => True) (fun q => [.ref x1, .ref (q 0), iv 0, .ref (q 1), .ref (q 2), iv 0, iv 0, iv 0, iv (-1)]) (fun q => [((q 0), .inl (E.2.1, (500, .inl (fun _ => 0)))), ((q 1), .inl (E.2.1, (501, .inl (fun _ => 0)))), ((q 2), .inl (E.2.1, (501, .inl (fun _ => 0))))]) 3 1502 := by
  refine CM.of (by decide +kernel) rfl (Nat.le_of_ble_eq_true rfl) (fun A => ?_)
  show CW E RX4 cX4_init 2 (cR 1 3 1502) 4 h0 A (fun _ => True) _ 0 [(0, .ref h0), (1, .ref x1)] [] [.null, .null, iv 0, .null, .null, iv 0, iv 0, iv 0, iv 0] [] 0 0
  refine CW.aload_n 0 (dcN_0 dcg_104 :) rfl ?_
  refine CW.objInit wm_258 wm_139 wm_140 (Nat.le_of_ble_eq_true rfl) (Nat.le_of_ble_eq_true rfl) (dcN_1 dcg_104 :) ?_
  refine CW.aload_n 0 (dcN_2 dcg_104 :) rfl ?_
  refine CW.sipush (dcN_3 dcg_104 :) (by decide) (by decide) ?_
  refine CW.newi (n := 500) (by decide) wm_184 (Nat.le_of_ble_eq_true rfl) (Nat.le_of_ble_eq_true rfl) (dcN_4 dcg_104 :) (fun q0 => ?_)
  refine CW.putF (k := 1) (ty := (.array .int)) (v := .ref q0) rfl gX4 tyX4_ok nmX4 (by decide) wm_260 rfl rfl (by decide +kernel) rfl rfl (Nat.le_of_ble_eq_true rfl) (dcN_5 dcg_104 :) ?_
  refine CW.aload_n 0 (dcN_6 dcg_104 :) rfl ?_
  refine CW.sipush (dcN_7 dcg_104 :) (by decide) (by decide) ?_
  refine CW.newi (n := 501) (by decide) wm_184 (Nat.le_of_ble_eq_true rfl) (Nat.le_of_ble_eq_true rfl) (dcN_8 dcg_104 :) (fun q1 => ?_)
  refine CW.putF (k := 3) (ty := (.array .int)) (v := .ref q1) rfl gX4 tyX4_ok nmX4 (by decide) wm_263 rfl rfl (by decide +kernel) rfl rfl (Nat.le_of_ble_eq_true rfl) (dcN_9 dcg_104 :) ?_
  refine CW.aload_n 0 (dcN_10 dcg_104 :) rfl ?_
  refine CW.sipush (dcN_11 dcg_104 :) (by decide) (by decide) ?_
  refine CW.newi (n := 501) (by decide) wm_184 (Nat.le_of_ble_eq_true rfl) (Nat.le_of_ble_eq_true rfl) (dcN_0 dcg_105 :) (fun q2 => ?_)
  refine CW.putF (k := 4) (ty := (.array .int)) (v := .ref q2) rfl gX4 tyX4_ok nmX4 (by decide) wm_264 rfl rfl (by decide +kernel) rfl rfl (Nat.le_of_ble_eq_true rfl) (dcN_1 dcg_105 :) ?_
  refine CW.aload_n 0 (dcN_2 dcg_105 :) rfl ?_
  refine CW.iconst (dcN_3 dcg_105 :) ?_
  refine CW.put (k := 8) (ty := .int) (v := iv (-1)) rfl gX4 tyX4_ok nmX4 (by decide) wm_269 rfl (by decide +kernel) rfl rfl (Nat.le_of_ble_eq_true rfl) (dcN_4 dcg_105 :) ?_
  refine CW.aload_n 0 (dcN_5 dcg_105 :) rfl ?_
  refine CW.aload_n 1 (dcN_6 dcg_105 :) rfl ?_
  refine CW.putF (k := 0) (ty := (.object "WeekBoats$Rules")) (v := .ref x1) rfl gX4 tyX4_ok nmX4 (by decide) wm_259 rfl rfl (by decide +kernel) rfl rfl (Nat.le_of_ble_eq_true rfl) (dcN_7 dcg_105 :) ?_
  exact CW.ret (fun i => ([q0, q1, q2] : List Nat).getD i 0) rfl rfl rfl rfl (dcN_8 dcg_105 :)
theorem cm_X5 (E : CE) (h0 : Nat) : CM E yX5_init cX5_init 1 1 5 h0 [] [.null, .null, iv 0] (fun _ => True) (fun q => [.ref (q 0), .ref (q 1), iv 0]) (fun q => [((q 0), .inl (E.2.1, (1000, .inl (fun _ => 0)))), ((q 1), .inl (E.2.1, (1000, .inl (fun _ => 0))))]) 2 2000 := by
  refine CM.of (by decide +kernel) rfl (Nat.le_of_ble_eq_true rfl) (fun A => ?_)
  show CW E RX5 cX5_init 1 (cR 1 2 2000) 5 h0 A (fun _ => True) _ 0 [(0, .ref h0)] [] [.null, .null, iv 0] [] 0 0
  refine CW.aload_n 0 (dcN_0 dcg_175 :) rfl ?_
  refine CW.objInit wm_629 wm_139 wm_140 (Nat.le_of_ble_eq_true rfl) (Nat.le_of_ble_eq_true rfl) (dcN_1 dcg_175 :) ?_
  refine CW.aload_n 0 (dcN_2 dcg_175 :) rfl ?_
  refine CW.sipush (dcN_3 dcg_175 :) (by decide) (by decide) ?_
  refine CW.newi (n := 1000) (by decide) wm_184 (Nat.le_of_ble_eq_true rfl) (Nat.le_of_ble_eq_true rfl) (dcN_4 dcg_175 :) (fun q0 => ?_)
  refine CW.put (k := 0) (ty := (.array .int)) (v := .ref q0) rfl gX5 tyX5_ok nmX5 (by decide) wm_630 rfl (by decide +kernel) rfl rfl (Nat.le_of_ble_eq_true rfl) (dcN_5 dcg_175 :) ?_
  refine CW.aload_n 0 (dcN_6 dcg_175 :) rfl ?_
  refine CW.sipush (dcN_7 dcg_175 :) (by decide) (by decide) ?_
  refine CW.newi (n := 1000) (by decide) wm_184 (Nat.le_of_ble_eq_true rfl) (Nat.le_of_ble_eq_true rfl) (dcN_8 dcg_175 :) (fun q1 => ?_)
  refine CW.put (k := 1) (ty := (.array .int)) (v := .ref q1) rfl gX5 tyX5_ok nmX5 (by decide) wm_631 rfl (by decide +kernel) rfl rfl (Nat.le_of_ble_eq_true rfl) (dcN_9 dcg_175 :) ?_
  exact CW.ret (fun i => ([q0, q1] : List Nat).getD i 0) rfl rfl rfl rfl (dcN_10 dcg_175 :)
theorem cm_X6 (E : CE) (h0 : Nat) : CM E yX6_init cX6_init 1 1 6 h0 [] [.null, .null, iv 0, iv 0, .null, .null, .null, .null, .null, .null, iv 0, .null, .null, .null, .null] (fun _ => True) (fun q => [.ref (q 0), .ref (q 1), iv 0, iv 0, .ref (q 2), .ref (q 3), .ref (q 4), .ref (q 5), .ref (q 6), .ref (q 7), iv 0, .ref (q 8), .ref (q 9), .ref (q 10), .ref (q 11)]) (fun q => [((q 0), .inl (E.2.1, (500, .inl (fun _ => 0)))), ((q 1), .inl (E.2.1, (500, .inl (fun _ => 0)))), ((q 2), .inl (E.2.1, (16, .inl (fun _ => 0)))), ((q 3), .inl (E.2.1, (16, .inl (fun _ => 0)))), ((q 4), .inl (E.2.1, (16, .inl (fun _ => 0)))), ((q 5), .inl (E.2.1, (16, .inl (fun _ => 0)))), ((q 6), .inl (E.2.1, (16, .inl (fun _ => 0)))), ((q 7), .inl (E.2.1, (16, .inl (fun _ => 0)))), ((q 8), .inl (E.2.1, (30, .inl (fun _ => 0)))), ((q 9), .inl (E.2.1, (30, .inl (fun _ => 0)))), ((q 10), .inl (E.2.1, (9, .inl (fun _ => 0)))), ((q 11), .inl (E.2.1, (32, .inl (fun _ => 0))))]) 12 1197 := by
  refine CM.of (by decide +kernel) rfl (Nat.le_of_ble_eq_true rfl) (fun A => ?_)
  show CW E RX6 cX6_init 1 (cR 1 12 1197) 6 h0 A (fun _ => True) _ 0 [(0, .ref h0)] [] [.null, .null, iv 0, iv 0, .null, .null, .null, .null, .null, .null, iv 0, .null, .null, .null, .null] [] 0 0
  refine CW.aload_n 0 (dcN_0 dcg_184 :) rfl ?_
  refine CW.objInit wm_190 wm_139 wm_140 (Nat.le_of_ble_eq_true rfl) (Nat.le_of_ble_eq_true rfl) (dcN_1 dcg_184 :) ?_
  refine CW.aload_n 0 (dcN_2 dcg_184 :) rfl ?_
  refine CW.sipush (dcN_3 dcg_184 :) (by decide) (by decide) ?_
  refine CW.newi (n := 500) (by decide) wm_184 (Nat.le_of_ble_eq_true rfl) (Nat.le_of_ble_eq_true rfl) dX6_init_8 (fun q0 => ?_)
  refine CW.putF (k := 0) (ty := (.array .int)) (v := .ref q0) rfl gX6 tyX6_ok nmX6 (by decide) wm_191 rfl rfl (by decide +kernel) rfl rfl (Nat.le_of_ble_eq_true rfl) (dcN_4 dcg_184 :) ?_
  refine CW.aload_n 0 (dcN_5 dcg_184 :) rfl ?_
  refine CW.sipush (dcN_6 dcg_184 :) (by decide) (by decide) ?_
  refine CW.newi (n := 500) (by decide) wm_184 (Nat.le_of_ble_eq_true rfl) (Nat.le_of_ble_eq_true rfl) dX6_init_17 (fun q1 => ?_)
  refine CW.putF (k := 1) (ty := (.array .int)) (v := .ref q1) rfl gX6 tyX6_ok nmX6 (by decide) wm_192 rfl rfl (by decide +kernel) rfl rfl (Nat.le_of_ble_eq_true rfl) (dcN_7 dcg_184 :) ?_
  refine CW.aload_n 0 (dcN_8 dcg_184 :) rfl ?_
  refine CW.bipush (dcN_9 dcg_184 :) (by decide) (by decide) ?_
  refine CW.newi (n := 16) (by decide) wm_184 (Nat.le_of_ble_eq_true rfl) (Nat.le_of_ble_eq_true rfl) dX6_init_25 (fun q2 => ?_)
  refine CW.putF (k := 4) (ty := (.array .int)) (v := .ref q2) rfl gX6 tyX6_ok nmX6 (by decide) wm_197 rfl rfl (by decide +kernel) rfl rfl (Nat.le_of_ble_eq_true rfl) (dcN_10 dcg_184 :) ?_
  refine CW.aload_n 0 (dcN_11 dcg_184 :) rfl ?_
  refine CW.bipush (dcN_12 dcg_184 :) (by decide) (by decide) ?_
  refine CW.newi (n := 16) (by decide) wm_184 (Nat.le_of_ble_eq_true rfl) (Nat.le_of_ble_eq_true rfl) dX6_init_33 (fun q3 => ?_)
  refine CW.putF (k := 5) (ty := (.array .int)) (v := .ref q3) rfl gX6 tyX6_ok nmX6 (by decide) wm_199 rfl rfl (by decide +kernel) rfl rfl (Nat.le_of_ble_eq_true rfl) (dcN_0 dcg_185 :) ?_
  refine CW.aload_n 0 (dcN_1 dcg_185 :) rfl ?_
  refine CW.bipush (dcN_2 dcg_185 :) (by decide) (by decide) ?_
  refine CW.newi (n := 16) (by decide) wm_184 (Nat.le_of_ble_eq_true rfl) (Nat.le_of_ble_eq_true rfl) dX6_init_41 (fun q4 => ?_)
  refine CW.putF (k := 6) (ty := (.array .int)) (v := .ref q4) rfl gX6 tyX6_ok nmX6 (by decide) wm_201 rfl rfl (by decide +kernel) rfl rfl (Nat.le_of_ble_eq_true rfl) (dcN_3 dcg_185 :) ?_
  refine CW.aload_n 0 (dcN_4 dcg_185 :) rfl ?_
  refine CW.bipush (dcN_5 dcg_185 :) (by decide) (by decide) ?_
  refine CW.newi (n := 16) (by decide) wm_184 (Nat.le_of_ble_eq_true rfl) (Nat.le_of_ble_eq_true rfl) dX6_init_49 (fun q5 => ?_)
  refine CW.putF (k := 7) (ty := (.array .int)) (v := .ref q5) rfl gX6 tyX6_ok nmX6 (by decide) wm_203 rfl rfl (by decide +kernel) rfl rfl (Nat.le_of_ble_eq_true rfl) (dcN_6 dcg_185 :) ?_
  refine CW.aload_n 0 (dcN_7 dcg_185 :) rfl ?_
  refine CW.bipush (dcN_8 dcg_185 :) (by decide) (by decide) ?_
  refine CW.newi (n := 16) (by decide) wm_184 (Nat.le_of_ble_eq_true rfl) (Nat.le_of_ble_eq_true rfl) dX6_init_57 (fun q6 => ?_)
  refine CW.putF (k := 8) (ty := (.array .int)) (v := .ref q6) rfl gX6 tyX6_ok nmX6 (by decide) wm_205 rfl rfl (by decide +kernel) rfl rfl (Nat.le_of_ble_eq_true rfl) (dcN_9 dcg_185 :) ?_
  refine CW.aload_n 0 (dcN_10 dcg_185 :) rfl ?_
  refine CW.bipush (dcN_11 dcg_185 :) (by decide) (by decide) ?_
  refine CW.newi (n := 16) (by decide) wm_184 (Nat.le_of_ble_eq_true rfl) (Nat.le_of_ble_eq_true rfl) dX6_init_65 (fun q7 => ?_)
  refine CW.putF (k := 9) (ty := (.array .int)) (v := .ref q7) rfl gX6 tyX6_ok nmX6 (by decide) wm_208 rfl rfl (by decide +kernel) rfl rfl (Nat.le_of_ble_eq_true rfl) (dcN_0 dcg_186 :) ?_
  refine CW.aload_n 0 (dcN_1 dcg_186 :) rfl ?_
  refine CW.bipush (dcN_2 dcg_186 :) (by decide) (by decide) ?_
  refine CW.newi (n := 30) (by decide) wm_184 (Nat.le_of_ble_eq_true rfl) (Nat.le_of_ble_eq_true rfl) dX6_init_73 (fun q8 => ?_)
  refine CW.putF (k := 11) (ty := (.array .int)) (v := .ref q8) rfl gX6 tyX6_ok nmX6 (by decide) wm_213 rfl rfl (by decide +kernel) rfl rfl (Nat.le_of_ble_eq_true rfl) (dcN_3 dcg_186 :) ?_
  refine CW.aload_n 0 (dcN_4 dcg_186 :) rfl ?_
  refine CW.bipush (dcN_5 dcg_186 :) (by decide) (by decide) ?_
  refine CW.newi (n := 30) (by decide) wm_184 (Nat.le_of_ble_eq_true rfl) (Nat.le_of_ble_eq_true rfl) dX6_init_81 (fun q9 => ?_)
  refine CW.putF (k := 12) (ty := (.array .int)) (v := .ref q9) rfl gX6 tyX6_ok nmX6 (by decide) wm_216 rfl rfl (by decide +kernel) rfl rfl (Nat.le_of_ble_eq_true rfl) (dcN_6 dcg_186 :) ?_
  refine CW.aload_n 0 (dcN_7 dcg_186 :) rfl ?_
  refine CW.bipush (dcN_8 dcg_186 :) (by decide) (by decide) ?_
  refine CW.newi (n := 9) (by decide) wm_184 (Nat.le_of_ble_eq_true rfl) (Nat.le_of_ble_eq_true rfl) dX6_init_89 (fun q10 => ?_)
  refine CW.putF (k := 13) (ty := (.array .int)) (v := .ref q10) rfl gX6 tyX6_ok nmX6 (by decide) wm_219 rfl rfl (by decide +kernel) rfl rfl (Nat.le_of_ble_eq_true rfl) (dcN_9 dcg_186 :) ?_
  refine CW.aload_n 0 (dcN_10 dcg_186 :) rfl ?_
  refine CW.bipush (dcN_11 dcg_186 :) (by decide) (by decide) ?_
  refine CW.newi (n := 32) (by decide) wm_184 (Nat.le_of_ble_eq_true rfl) (Nat.le_of_ble_eq_true rfl) dX6_init_97 (fun q11 => ?_)
  refine CW.putF (k := 14) (ty := (.array .int)) (v := .ref q11) rfl gX6 tyX6_ok nmX6 (by decide) wm_221 rfl rfl (by decide +kernel) rfl rfl (Nat.le_of_ble_eq_true rfl) (dcN_0 dcg_187 :) ?_
  exact CW.ret (fun i => ([q0, q1, q2, q3, q4, q5, q6, q7, q8, q9, q10, q11] : List Nat).getD i 0) rfl rfl rfl rfl (dcN_1 dcg_187 :)
theorem cm_X7 (E : CE) (h0 x1 x2 x3 : Nat) : CM E yX7_init cX7_init 4 1 7 h0 [.ref x1, .ref x2, .ref x3] [.null, .null, .null, .null, .null, .null, .null, .null, iv 0] (fun _ => True) (fun q => [.ref x1, .ref x2, .ref x3, .ref (q 0), .ref (q 1), .ref (q 2), .ref (q 3), .ref (q 4), iv 0]) (fun q => [((q 0), .inl (E.2.1, (20, .inl (fun _ => 0)))), ((q 1), .inl (E.2.1, (20, .inl (fun _ => 0)))), ((q 2), .inl (E.2.1, (20, .inl (fun _ => 0)))), ((q 3), .inl (E.2.1, (20, .inl (fun _ => 0)))), ((q 4), .inl (E.2.1, (20, .inl (fun _ => 0))))]) 5 100 := by
  refine CM.of (by decide +kernel) rfl (Nat.le_of_ble_eq_true rfl) (fun A => ?_)
  show CW E RX7 cX7_init 4 (cR 1 5 100) 7 h0 A (fun _ => True) _ 0 [(0, .ref h0), (1, .ref x1), (2, .ref x2), (3, .ref x3)] [] [.null, .null, .null, .null, .null, .null, .null, .null, iv 0] [] 0 0
  refine CW.aload_n 0 (dcN_0 dcg_221 :) rfl ?_
  refine CW.objInit wm_382 wm_139 wm_140 (Nat.le_of_ble_eq_true rfl) (Nat.le_of_ble_eq_true rfl) (dcN_1 dcg_221 :) ?_
  refine CW.aload_n 0 (dcN_2 dcg_221 :) rfl ?_
  refine CW.bipush (dcN_3 dcg_221 :) (by decide) (by decide) ?_
  refine CW.newi (n := 20) (by decide) wm_184 (Nat.le_of_ble_eq_true rfl) (Nat.le_of_ble_eq_true rfl) dX7_init_7 (fun q0 => ?_)
  refine CW.putF (k := 3) (ty := (.array .int)) (v := .ref q0) rfl gX7 tyX7_ok nmX7 (by decide) wm_386 rfl rfl (by decide +kernel) rfl rfl (Nat.le_of_ble_eq_true rfl) (dcN_4 dcg_221 :) ?_
  refine CW.aload_n 0 (dcN_5 dcg_221 :) rfl ?_
  refine CW.bipush (dcN_6 dcg_221 :) (by decide) (by decide) ?_
  refine CW.newi (n := 20) (by decide) wm_184 (Nat.le_of_ble_eq_true rfl) (Nat.le_of_ble_eq_true rfl) dX7_init_15 (fun q1 => ?_)
  refine CW.putF (k := 4) (ty := (.array .int)) (v := .ref q1) rfl gX7 tyX7_ok nmX7 (by decide) wm_387 rfl rfl (by decide +kernel) rfl rfl (Nat.le_of_ble_eq_true rfl) (dcN_7 dcg_221 :) ?_
  refine CW.aload_n 0 (dcN_8 dcg_221 :) rfl ?_
  refine CW.bipush (dcN_9 dcg_221 :) (by decide) (by decide) ?_
  refine CW.newi (n := 20) (by decide) wm_184 (Nat.le_of_ble_eq_true rfl) (Nat.le_of_ble_eq_true rfl) dX7_init_23 (fun q2 => ?_)
  refine CW.putF (k := 5) (ty := (.array .int)) (v := .ref q2) rfl gX7 tyX7_ok nmX7 (by decide) wm_388 rfl rfl (by decide +kernel) rfl rfl (Nat.le_of_ble_eq_true rfl) (dcN_10 dcg_221 :) ?_
  refine CW.aload_n 0 (dcN_11 dcg_221 :) rfl ?_
  refine CW.bipush (dcN_12 dcg_221 :) (by decide) (by decide) ?_
  refine CW.newi (n := 20) (by decide) wm_184 (Nat.le_of_ble_eq_true rfl) (Nat.le_of_ble_eq_true rfl) dX7_init_31 (fun q3 => ?_)
  refine CW.putF (k := 6) (ty := (.array .int)) (v := .ref q3) rfl gX7 tyX7_ok nmX7 (by decide) wm_389 rfl rfl (by decide +kernel) rfl rfl (Nat.le_of_ble_eq_true rfl) (dcN_0 dcg_222 :) ?_
  refine CW.aload_n 0 (dcN_1 dcg_222 :) rfl ?_
  refine CW.bipush (dcN_2 dcg_222 :) (by decide) (by decide) ?_
  refine CW.newi (n := 20) (by decide) wm_184 (Nat.le_of_ble_eq_true rfl) (Nat.le_of_ble_eq_true rfl) dX7_init_39 (fun q4 => ?_)
  refine CW.putF (k := 7) (ty := (.array .int)) (v := .ref q4) rfl gX7 tyX7_ok nmX7 (by decide) wm_390 rfl rfl (by decide +kernel) rfl rfl (Nat.le_of_ble_eq_true rfl) (dcN_3 dcg_222 :) ?_
  refine CW.aload_n 0 (dcN_4 dcg_222 :) rfl ?_
  refine CW.aload_n 1 (dcN_5 dcg_222 :) rfl ?_
  refine CW.putF (k := 0) (ty := (.object "WeekBoats$Boats")) (v := .ref x1) rfl gX7 tyX7_ok nmX7 (by decide) wm_383 rfl rfl (by decide +kernel) rfl rfl (Nat.le_of_ble_eq_true rfl) (dcN_6 dcg_222 :) ?_
  refine CW.aload_n 0 (dcN_7 dcg_222 :) rfl ?_
  refine CW.aload_n 2 (dcN_8 dcg_222 :) rfl ?_
  refine CW.putF (k := 1) (ty := (.object "WeekBoats$Rules")) (v := .ref x2) rfl gX7 tyX7_ok nmX7 (by decide) wm_384 rfl rfl (by decide +kernel) rfl rfl (Nat.le_of_ble_eq_true rfl) (dcN_9 dcg_222 :) ?_
  refine CW.aload_n 0 (dcN_10 dcg_222 :) rfl ?_
  refine CW.aload_n 3 (dcN_11 dcg_222 :) rfl ?_
  refine CW.putF (k := 2) (ty := (.object "WeekBoats$Voyage")) (v := .ref x3) rfl gX7 tyX7_ok nmX7 (by decide) wm_385 rfl rfl (by decide +kernel) rfl rfl (Nat.le_of_ble_eq_true rfl) (dcN_12 dcg_222 :) ?_
  exact CW.ret (fun i => ([q0, q1, q2, q3, q4] : List Nat).getD i 0) rfl rfl rfl rfl (dcN_13 dcg_222 :)
theorem cm_X8 (E : CE) (h0 x1 : Nat) : CM E yX8_init cX8_init 2 1 8 h0 [.ref x1] [.null, .null, .null, iv 0, iv 0, iv 0, .null, .null, .null, .null, .null, .null, iv 0, iv 0, iv 0] (fun _ => True) (fun q => [.ref x1, .ref (q 0), .ref (q 1), iv 0, iv 0, iv 0, .ref (q 2), .ref (q 3), .ref (q 4), .ref (q 5), .ref (q 6), .ref (q 7), iv 0, iv 0, iv 0]) (fun q => [((q 0), .inl (E.2.1, (16, .inl (fun _ => 0)))), ((q 1), .inl (E.2.1, (16, .inl (fun _ => 0)))), ((q 2), .inl (E.2.1, (12, .inl (fun _ => 0)))), ((q 3), .inl (E.2.1, (12, .inl (fun _ => 0)))), ((q 4), .inl (E.2.1, (12, .inl (fun _ => 0)))), ((q 5), .inl (E.2.1, (12, .inl (fun _ => 0)))), ((q 6), .inl (E.2.1, (2, .inl (fun _ => 0)))), ((q 7), .inl (E.2.1, (2, .inl (fun _ => 0))))]) 8 84 := by
  refine CM.of (by decide +kernel) rfl (Nat.le_of_ble_eq_true rfl) (fun A => ?_)
  show CW E RX8 cX8_init 2 (cR 1 8 84) 8 h0 A (fun _ => True) _ 0 [(0, .ref h0), (1, .ref x1)] [] [.null, .null, .null, iv 0, iv 0, iv 0, .null, .null, .null, .null, .null, .null, iv 0, iv 0, iv 0] [] 0 0
  refine CW.aload_n 0 (dcN_0 dcg_241 :) rfl ?_
  refine CW.objInit wm_570 wm_139 wm_140 (Nat.le_of_ble_eq_true rfl) (Nat.le_of_ble_eq_true rfl) (dcN_1 dcg_241 :) ?_
  refine CW.aload_n 0 (dcN_2 dcg_241 :) rfl ?_
  refine CW.bipush (dcN_3 dcg_241 :) (by decide) (by decide) ?_
  refine CW.newi (n := 16) (by decide) wm_184 (Nat.le_of_ble_eq_true rfl) (Nat.le_of_ble_eq_true rfl) dX8_init_7 (fun q0 => ?_)
  refine CW.putF (k := 1) (ty := (.array .int)) (v := .ref q0) rfl gX8 tyX8_ok nmX8 (by decide) wm_572 rfl rfl (by decide +kernel) rfl rfl (Nat.le_of_ble_eq_true rfl) (dcN_4 dcg_241 :) ?_
  refine CW.aload_n 0 (dcN_5 dcg_241 :) rfl ?_
  refine CW.bipush (dcN_6 dcg_241 :) (by decide) (by decide) ?_
  refine CW.newi (n := 16) (by decide) wm_184 (Nat.le_of_ble_eq_true rfl) (Nat.le_of_ble_eq_true rfl) dX8_init_15 (fun q1 => ?_)
  refine CW.putF (k := 2) (ty := (.array .int)) (v := .ref q1) rfl gX8 tyX8_ok nmX8 (by decide) wm_574 rfl rfl (by decide +kernel) rfl rfl (Nat.le_of_ble_eq_true rfl) (dcN_7 dcg_241 :) ?_
  refine CW.aload_n 0 (dcN_8 dcg_241 :) rfl ?_
  refine CW.bipush (dcN_9 dcg_241 :) (by decide) (by decide) ?_
  refine CW.newi (n := 12) (by decide) wm_184 (Nat.le_of_ble_eq_true rfl) (Nat.le_of_ble_eq_true rfl) dX8_init_23 (fun q2 => ?_)
  refine CW.putF (k := 6) (ty := (.array .int)) (v := .ref q2) rfl gX8 tyX8_ok nmX8 (by decide) wm_581 rfl rfl (by decide +kernel) rfl rfl (Nat.le_of_ble_eq_true rfl) (dcN_10 dcg_241 :) ?_
  refine CW.aload_n 0 (dcN_11 dcg_241 :) rfl ?_
  refine CW.bipush (dcN_12 dcg_241 :) (by decide) (by decide) ?_
  refine CW.newi (n := 12) (by decide) wm_184 (Nat.le_of_ble_eq_true rfl) (Nat.le_of_ble_eq_true rfl) dX8_init_31 (fun q3 => ?_)
  refine CW.putF (k := 7) (ty := (.array .int)) (v := .ref q3) rfl gX8 tyX8_ok nmX8 (by decide) wm_582 rfl rfl (by decide +kernel) rfl rfl (Nat.le_of_ble_eq_true rfl) (dcN_0 dcg_242 :) ?_
  refine CW.aload_n 0 (dcN_1 dcg_242 :) rfl ?_
  refine CW.bipush (dcN_2 dcg_242 :) (by decide) (by decide) ?_
  refine CW.newi (n := 12) (by decide) wm_184 (Nat.le_of_ble_eq_true rfl) (Nat.le_of_ble_eq_true rfl) dX8_init_39 (fun q4 => ?_)
  refine CW.putF (k := 8) (ty := (.array .int)) (v := .ref q4) rfl gX8 tyX8_ok nmX8 (by decide) wm_583 rfl rfl (by decide +kernel) rfl rfl (Nat.le_of_ble_eq_true rfl) (dcN_3 dcg_242 :) ?_
  refine CW.aload_n 0 (dcN_4 dcg_242 :) rfl ?_
  refine CW.bipush (dcN_5 dcg_242 :) (by decide) (by decide) ?_
  refine CW.newi (n := 12) (by decide) wm_184 (Nat.le_of_ble_eq_true rfl) (Nat.le_of_ble_eq_true rfl) dX8_init_47 (fun q5 => ?_)
  refine CW.putF (k := 9) (ty := (.array .int)) (v := .ref q5) rfl gX8 tyX8_ok nmX8 (by decide) wm_584 rfl rfl (by decide +kernel) rfl rfl (Nat.le_of_ble_eq_true rfl) (dcN_6 dcg_242 :) ?_
  refine CW.aload_n 0 (dcN_7 dcg_242 :) rfl ?_
  refine CW.iconst (dcN_8 dcg_242 :) ?_
  refine CW.newi (n := 2) (by decide) wm_184 (Nat.le_of_ble_eq_true rfl) (Nat.le_of_ble_eq_true rfl) dX8_init_54 (fun q6 => ?_)
  refine CW.putF (k := 10) (ty := (.array .int)) (v := .ref q6) rfl gX8 tyX8_ok nmX8 (by decide) wm_585 rfl rfl (by decide +kernel) rfl rfl (Nat.le_of_ble_eq_true rfl) (dcN_9 dcg_242 :) ?_
  refine CW.aload_n 0 (dcN_10 dcg_242 :) rfl ?_
  refine CW.iconst (dcN_11 dcg_242 :) ?_
  refine CW.newi (n := 2) (by decide) wm_184 (Nat.le_of_ble_eq_true rfl) (Nat.le_of_ble_eq_true rfl) dX8_init_61 (fun q7 => ?_)
  refine CW.putF (k := 11) (ty := (.array .int)) (v := .ref q7) rfl gX8 tyX8_ok nmX8 (by decide) wm_586 rfl rfl (by decide +kernel) rfl rfl (Nat.le_of_ble_eq_true rfl) (dcN_12 dcg_242 :) ?_
  refine CW.aload_n 0 (dcN_0 dcg_243 :) rfl ?_
  refine CW.aload_n 1 (dcN_1 dcg_243 :) rfl ?_
  refine CW.putF (k := 0) (ty := (.object "WeekBoats$Canal")) (v := .ref x1) rfl gX8 tyX8_ok nmX8 (by decide) wm_571 rfl rfl (by decide +kernel) rfl rfl (Nat.le_of_ble_eq_true rfl) (dcN_2 dcg_243 :) ?_
  exact CW.ret (fun i => ([q0, q1, q2, q3, q4, q5, q6, q7] : List Nat).getD i 0) rfl rfl rfl rfl (dcN_3 dcg_243 :)
theorem cm_X9 (E : CE) (h0 x1 x2 : Nat) : CM E yX9_init cX9_init 3 1 9 h0 [.ref x1, .ref x2] [.null, .null, .null, .null, .null, .null, iv 0, iv 0] (fun _ => True) (fun q => [.ref x1, .ref x2, .ref (q 0), .ref (q 1), .ref (q 2), .ref (q 3), iv 0, iv 0]) (fun q => [((q 0), .inl (E.2.1, (14, .inl (fun _ => 0)))), ((q 1), .inl (E.2.1, (14, .inl (fun j => if j < 14 then Int32.ofInt 24 else (fun _ => 0) j)))), ((q 2), .inl (E.2.1, (16, .inl (fun _ => 0)))), ((q 3), .inl (E.2.1, (14, .inl (fun _ => 0))))]) 4 58 := by
  refine CM.of (by decide +kernel) rfl (Nat.le_of_ble_eq_true rfl) (fun A => ?_)
  show CW E RX9 cX9_init 3 (cR 1 4 58) 9 h0 A (fun _ => True) _ 0 [(0, .ref h0), (1, .ref x1), (2, .ref x2)] [] [.null, .null, .null, .null, .null, .null, iv 0, iv 0] [] 0 0
  refine CW.aload_n 0 (dcN_0 dcg_270 :) rfl ?_
  refine CW.objInit wm_295 wm_139 wm_140 (Nat.le_of_ble_eq_true rfl) (Nat.le_of_ble_eq_true rfl) (dcN_1 dcg_270 :) ?_
  refine CW.aload_n 0 (dcN_2 dcg_270 :) rfl ?_
  refine CW.bipush (dcN_3 dcg_270 :) (by decide) (by decide) ?_
  refine CW.newi (n := 14) (by decide) wm_184 (Nat.le_of_ble_eq_true rfl) (Nat.le_of_ble_eq_true rfl) dX9_init_7 (fun q0 => ?_)
  refine CW.putF (k := 2) (ty := (.array .int)) (v := .ref q0) rfl gX9 tyX9_ok nmX9 (by decide) wm_299 rfl rfl (by decide +kernel) rfl rfl (Nat.le_of_ble_eq_true rfl) (dcN_4 dcg_270 :) ?_
  refine CW.aload_n 0 (dcN_5 dcg_270 :) rfl ?_
  refine CW.bipush (dcN_6 dcg_270 :) (by decide) (by decide) ?_
  refine CW.newi (n := 14) (by decide) wm_184 (Nat.le_of_ble_eq_true rfl) (Nat.le_of_ble_eq_true rfl) dX9_init_15 (fun q1 => ?_)
  refine CW.putF (k := 3) (ty := (.array .int)) (v := .ref q1) rfl gX9 tyX9_ok nmX9 (by decide) wm_301 rfl rfl (by decide +kernel) rfl rfl (Nat.le_of_ble_eq_true rfl) (dcN_7 dcg_270 :) ?_
  refine CW.aload_n 0 (dcN_8 dcg_270 :) rfl ?_
  refine CW.bipush (dcN_9 dcg_270 :) (by decide) (by decide) ?_
  refine CW.newi (n := 16) (by decide) wm_184 (Nat.le_of_ble_eq_true rfl) (Nat.le_of_ble_eq_true rfl) dX9_init_23 (fun q2 => ?_)
  refine CW.putF (k := 4) (ty := (.array .int)) (v := .ref q2) rfl gX9 tyX9_ok nmX9 (by decide) wm_303 rfl rfl (by decide +kernel) rfl rfl (Nat.le_of_ble_eq_true rfl) (dcN_10 dcg_270 :) ?_
  refine CW.aload_n 0 (dcN_11 dcg_270 :) rfl ?_
  refine CW.bipush (dcN_12 dcg_270 :) (by decide) (by decide) ?_
  refine CW.newi (n := 14) (by decide) wm_184 (Nat.le_of_ble_eq_true rfl) (Nat.le_of_ble_eq_true rfl) dX9_init_31 (fun q3 => ?_)
  refine CW.putF (k := 5) (ty := (.array .int)) (v := .ref q3) rfl gX9 tyX9_ok nmX9 (by decide) wm_305 rfl rfl (by decide +kernel) rfl rfl (Nat.le_of_ble_eq_true rfl) (dcN_0 dcg_271 :) ?_
  refine CW.aload_n 0 (dcN_1 dcg_271 :) rfl ?_
  refine CW.aload_n 1 (dcN_2 dcg_271 :) rfl ?_
  refine CW.putF (k := 0) (ty := (.object "WeekBoats$Canal")) (v := .ref x1) rfl gX9 tyX9_ok nmX9 (by decide) wm_297 rfl rfl (by decide +kernel) rfl rfl (Nat.le_of_ble_eq_true rfl) (dcN_3 dcg_271 :) ?_
  refine CW.aload_n 0 (dcN_4 dcg_271 :) rfl ?_
  refine CW.aload_n 2 (dcN_5 dcg_271 :) rfl ?_
  refine CW.putF (k := 1) (ty := (.object "WeekBoats$Rules")) (v := .ref x2) rfl gX9 tyX9_ok nmX9 (by decide) wm_298 rfl rfl (by decide +kernel) rfl rfl (Nat.le_of_ble_eq_true rfl) (dcN_6 dcg_271 :) ?_
  refine CW.aload_n 0 (dcN_7 dcg_271 :) rfl ?_
  refine CW.get (k := 3) (v := .ref q1) rfl gX9 (by decide) wm_301 rfl (dcN_8 dcg_271 :) ?_
  refine CW.bipush (dcN_9 dcg_271 :) (by decide) (by decide) ?_
  refine CW.fill (n := 14) (v := 24) (f := fun _ => 0) 1 rfl (by decide) cqF_X9_32 wm_148 (Nat.le_of_ble_eq_true rfl) (Nat.le_of_ble_eq_true rfl) ⟨(Nat.le_of_ble_eq_true rfl), (Nat.le_of_ble_eq_true rfl)⟩ (Nat.le_of_ble_eq_true rfl) (dcN_10 dcg_271 :) ?_
  exact CW.ret (fun i => ([q0, q1, q2, q3] : List Nat).getD i 0) rfl rfl rfl rfl (dcN_11 dcg_271 :)
theorem cm_X10 (E : CE) (h0 : Nat) : CM E yX10_init cX10_init 1 1 10 h0 [] [.null, .null, iv 0, .null, .null, .null, .null, iv 0, .null, .null, .null, .null, iv 0, iv 0, iv 0] (fun _ => True) (fun q => [.ref (q 0), .ref (q 1), iv 0, .ref (q 2), .ref (q 3), .ref (q 4), .ref (q 5), iv 0, .ref (q 6), .ref (q 7), .ref (q 8), .ref (q 9), iv 0, iv 0, iv 0]) (fun q => [((q 0), .inl (E.2.1, (10, .inl (fun _ => 0)))), ((q 1), .inl (E.2.1, (10, .inl (fun _ => 0)))), ((q 2), .inl (E.2.1, (7, .inl (fun _ => 0)))), ((q 3), .inl (E.2.1, (128, .inl (fun _ => 0)))), ((q 4), .inl (E.2.1, (128, .inl (fun _ => 0)))), ((q 5), .inl (E.2.1, (128, .inl (fun _ => 0)))), ((q 6), .inl (E.2.1, (8, .inl (fun _ => 0)))), ((q 7), .inl (E.2.1, (3, .inl (fun _ => 0)))), ((q 8), .inl (E.2.1, (8, .inl (fun _ => 0)))), ((q 9), .inl (E.2.1, (8, .inl (fun _ => 0))))]) 10 438 := by
  refine CM.of (by decide +kernel) rfl (Nat.le_of_ble_eq_true rfl) (fun A => ?_)
  show CW E RX10 cX10_init 1 (cR 1 10 438) 10 h0 A (fun _ => True) _ 0 [(0, .ref h0)] [] [.null, .null, iv 0, .null, .null, .null, .null, iv 0, .null, .null, .null, .null, iv 0, iv 0, iv 0] [] 0 0
  refine CW.aload_n 0 (dcN_0 dcg_305 :) rfl ?_
  refine CW.objInit wm_510 wm_139 wm_140 (Nat.le_of_ble_eq_true rfl) (Nat.le_of_ble_eq_true rfl) (dcN_1 dcg_305 :) ?_
  refine CW.aload_n 0 (dcN_2 dcg_305 :) rfl ?_
  refine CW.bipush (dcN_3 dcg_305 :) (by decide) (by decide) ?_
  refine CW.newi (n := 10) (by decide) wm_184 (Nat.le_of_ble_eq_true rfl) (Nat.le_of_ble_eq_true rfl) dX10_init_7 (fun q0 => ?_)
  refine CW.putF (k := 0) (ty := (.array .int)) (v := .ref q0) rfl gX10 tyX10_ok nmX10 (by decide) wm_511 rfl rfl (by decide +kernel) rfl rfl (Nat.le_of_ble_eq_true rfl) (dcN_4 dcg_305 :) ?_
  refine CW.aload_n 0 (dcN_5 dcg_305 :) rfl ?_
  refine CW.bipush (dcN_6 dcg_305 :) (by decide) (by decide) ?_
  refine CW.newi (n := 10) (by decide) wm_184 (Nat.le_of_ble_eq_true rfl) (Nat.le_of_ble_eq_true rfl) dX10_init_15 (fun q1 => ?_)
  refine CW.putF (k := 1) (ty := (.array .int)) (v := .ref q1) rfl gX10 tyX10_ok nmX10 (by decide) wm_512 rfl rfl (by decide +kernel) rfl rfl (Nat.le_of_ble_eq_true rfl) (dcN_7 dcg_305 :) ?_
  refine CW.aload_n 0 (dcN_8 dcg_305 :) rfl ?_
  refine CW.bipush (dcN_9 dcg_305 :) (by decide) (by decide) ?_
  refine CW.newi (n := 7) (by decide) wm_184 (Nat.le_of_ble_eq_true rfl) (Nat.le_of_ble_eq_true rfl) dX10_init_23 (fun q2 => ?_)
  refine CW.putF (k := 3) (ty := (.array .int)) (v := .ref q2) rfl gX10 tyX10_ok nmX10 (by decide) wm_515 rfl rfl (by decide +kernel) rfl rfl (Nat.le_of_ble_eq_true rfl) (dcN_10 dcg_305 :) ?_
  refine CW.aload_n 0 (dcN_11 dcg_305 :) rfl ?_
  refine CW.sipush (dcN_12 dcg_305 :) (by decide) (by decide) ?_
  refine CW.newi (n := 128) (by decide) wm_184 (Nat.le_of_ble_eq_true rfl) (Nat.le_of_ble_eq_true rfl) dX10_init_32 (fun q3 => ?_)
  refine CW.putF (k := 4) (ty := (.array .int)) (v := .ref q3) rfl gX10 tyX10_ok nmX10 (by decide) wm_516 rfl rfl (by decide +kernel) rfl rfl (Nat.le_of_ble_eq_true rfl) (dcN_0 dcg_306 :) ?_
  refine CW.aload_n 0 (dcN_1 dcg_306 :) rfl ?_
  refine CW.sipush (dcN_2 dcg_306 :) (by decide) (by decide) ?_
  refine CW.newi (n := 128) (by decide) wm_184 (Nat.le_of_ble_eq_true rfl) (Nat.le_of_ble_eq_true rfl) dX10_init_41 (fun q4 => ?_)
  refine CW.putF (k := 5) (ty := (.array .int)) (v := .ref q4) rfl gX10 tyX10_ok nmX10 (by decide) wm_518 rfl rfl (by decide +kernel) rfl rfl (Nat.le_of_ble_eq_true rfl) (dcN_3 dcg_306 :) ?_
  refine CW.aload_n 0 (dcN_4 dcg_306 :) rfl ?_
  refine CW.sipush (dcN_5 dcg_306 :) (by decide) (by decide) ?_
  refine CW.newi (n := 128) (by decide) wm_184 (Nat.le_of_ble_eq_true rfl) (Nat.le_of_ble_eq_true rfl) dX10_init_50 (fun q5 => ?_)
  refine CW.putF (k := 6) (ty := (.array .int)) (v := .ref q5) rfl gX10 tyX10_ok nmX10 (by decide) wm_520 rfl rfl (by decide +kernel) rfl rfl (Nat.le_of_ble_eq_true rfl) (dcN_6 dcg_306 :) ?_
  refine CW.aload_n 0 (dcN_7 dcg_306 :) rfl ?_
  refine CW.bipush (dcN_8 dcg_306 :) (by decide) (by decide) ?_
  refine CW.newi (n := 8) (by decide) wm_184 (Nat.le_of_ble_eq_true rfl) (Nat.le_of_ble_eq_true rfl) dX10_init_58 (fun q6 => ?_)
  refine CW.putF (k := 8) (ty := (.array .int)) (v := .ref q6) rfl gX10 tyX10_ok nmX10 (by decide) wm_523 rfl rfl (by decide +kernel) rfl rfl (Nat.le_of_ble_eq_true rfl) (dcN_9 dcg_306 :) ?_
  refine CW.aload_n 0 (dcN_10 dcg_306 :) rfl ?_
  refine CW.iconst (dcN_0 dcg_307 :) ?_
  refine CW.newi (n := 3) (by decide) wm_184 (Nat.le_of_ble_eq_true rfl) (Nat.le_of_ble_eq_true rfl) dX10_init_65 (fun q7 => ?_)
  refine CW.putF (k := 9) (ty := (.array .int)) (v := .ref q7) rfl gX10 tyX10_ok nmX10 (by decide) wm_524 rfl rfl (by decide +kernel) rfl rfl (Nat.le_of_ble_eq_true rfl) (dcN_1 dcg_307 :) ?_
  refine CW.aload_n 0 (dcN_2 dcg_307 :) rfl ?_
  refine CW.bipush (dcN_3 dcg_307 :) (by decide) (by decide) ?_
  refine CW.newi (n := 8) (by decide) wm_184 (Nat.le_of_ble_eq_true rfl) (Nat.le_of_ble_eq_true rfl) dX10_init_73 (fun q8 => ?_)
  refine CW.putF (k := 10) (ty := (.array .int)) (v := .ref q8) rfl gX10 tyX10_ok nmX10 (by decide) wm_525 rfl rfl (by decide +kernel) rfl rfl (Nat.le_of_ble_eq_true rfl) (dcN_4 dcg_307 :) ?_
  refine CW.aload_n 0 (dcN_5 dcg_307 :) rfl ?_
  refine CW.bipush (dcN_6 dcg_307 :) (by decide) (by decide) ?_
  refine CW.newi (n := 8) (by decide) wm_184 (Nat.le_of_ble_eq_true rfl) (Nat.le_of_ble_eq_true rfl) dX10_init_81 (fun q9 => ?_)
  refine CW.putF (k := 11) (ty := (.array .int)) (v := .ref q9) rfl gX10 tyX10_ok nmX10 (by decide) wm_526 rfl rfl (by decide +kernel) rfl rfl (Nat.le_of_ble_eq_true rfl) (dcN_7 dcg_307 :) ?_
  exact CW.ret (fun i => ([q0, q1, q2, q3, q4, q5, q6, q7, q8, q9] : List Nat).getD i 0) rfl rfl rfl rfl (dcN_8 dcg_307 :)
theorem cm_X11 (E : CE) (h0 : Nat) : CM E yX11_init cX11_init 1 2 11 h0 [] [.null, .null, .null, .null, .null, .null, .null, .null, .null, .null, .null, .null] (KWb) (fun q => [.ref (q 0), .ref (q 5), .ref (q 18), .ref (q 31), .ref (q 35), .ref (q 40), .ref (q 69), .ref (q 75), .ref (q 80), .ref (q 93), .ref (q 104), .ref (q 113)]) (fun q => [((q 0), .inr (2, [.ref (q 1), .ref (q 2), .ref (q 3), .ref (q 4), iv 0, iv (500), iv 0])), ((q 1), .inl (E.2.1, (15, .inl (fun j => if j < 15 then Int32.ofInt 1 else (fun _ => 0) j)))), ((q 2), .inl (E.2.1, (15, .inl (fun _ => 0)))), ((q 3), .inl (E.2.1, (15, .inl (fun j => if j < 15 then Int32.ofInt 5 else (fun _ => 0) j)))), ((q 4), .inl (E.2.1, (15, .inl (fun _ => 0)))), ((q 5), .inr (6, [.ref (q 6), .ref (q 7), iv 0, iv 0, .ref (q 8), .ref (q 9), .ref (q 10), .ref (q 11), .ref (q 12), .ref (q 13), iv 0, .ref (q 14), .ref (q 15), .ref (q 16), .ref (q 17)])), ((q 6), .inl (E.2.1, (500, .inl (fun _ => 0)))), ((q 7), .inl (E.2.1, (500, .inl (fun _ => 0)))), ((q 8), .inl (E.2.1, (16, .inl (fun _ => 0)))), ((q 9), .inl (E.2.1, (16, .inl (fun _ => 0)))), ((q 10), .inl (E.2.1, (16, .inl (fun _ => 0)))), ((q 11), .inl (E.2.1, (16, .inl (fun _ => 0)))), ((q 12), .inl (E.2.1, (16, .inl (fun _ => 0)))), ((q 13), .inl (E.2.1, (16, .inl (fun _ => 0)))), ((q 14), .inl (E.2.1, (30, .inl (fun _ => 0)))), ((q 15), .inl (E.2.1, (30, .inl (fun _ => 0)))), ((q 16), .inl (E.2.1, (9, .inl (fun _ => 0)))), ((q 17), .inl (E.2.1, (32, .inl (fun _ => 0)))), ((q 18), .inr (6, [.ref (q 19), .ref (q 20), iv 0, iv 0, .ref (q 21), .ref (q 22), .ref (q 23), .ref (q 24), .ref (q 25), .ref (q 26), iv 0, .ref (q 27), .ref (q 28), .ref (q 29), .ref (q 30)])), ((q 19), .inl (E.2.1, (500, .inl (fun _ => 0)))), ((q 20), .inl (E.2.1, (500, .inl (fun _ => 0)))), ((q 21), .inl (E.2.1, (16, .inl (fun _ => 0)))), ((q 22), .inl (E.2.1, (16, .inl (fun _ => 0)))), ((q 23), .inl (E.2.1, (16, .inl (fun _ => 0)))), ((q 24), .inl (E.2.1, (16, .inl (fun _ => 0)))), ((q 25), .inl (E.2.1, (16, .inl (fun _ => 0)))), ((q 26), .inl (E.2.1, (16, .inl (fun _ => 0)))), ((q 27), .inl (E.2.1, (30, .inl (fun _ => 0)))), ((q 28), .inl (E.2.1, (30, .inl (fun _ => 0)))), ((q 29), .inl (E.2.1, (9, .inl (fun _ => 0)))), ((q 30), .inl (E.2.1, (32, .inl (fun _ => 0)))), ((q 31), .inr (4, [.ref (q 18), .ref (q 32), iv 0, .ref (q 33), .ref (q 34), iv 0, iv 0, iv 0, iv (-1)])), ((q 32), .inl (E.2.1, (500, .inl (fun _ => 0)))), ((q 33), .inl (E.2.1, (501, .inl (fun _ => 0)))), ((q 34), .inl (E.2.1, (501, .inl (fun _ => 0)))), ((q 35), .inr (9, [.ref (q 0), .ref (q 5), .ref (q 36), .ref (q 37), .ref (q 38), .ref (q 39), iv 0, iv 0])), ((q 36), .inl (E.2.1, (14, .inl (fun _ => 0)))), ((q 37), .inl (E.2.1, (14, .inl (fun j => if j < 14 then Int32.ofInt 24 else (fun _ => 0) j)))), ((q 38), .inl (E.2.1, (16, .inl (fun _ => 0)))), ((q 39), .inl (E.2.1, (14, .inl (fun _ => 0)))), ((q 40), .inr (0, [.ref (q 0), .ref (q 5), .ref (q 35), .ref (q 41), .ref (q 42), .ref (q 43), .ref (q 44), iv 0, .ref (q 45), .ref (q 56), .ref (q 67), .ref (q 68)])), ((q 41), .inl (E.2.1, (10, .inl (fun _ => 0)))), ((q 42), .inl (E.2.1, (10, .inl (fun _ => 0)))), ((q 43), .inl (E.2.1, (10, .inl (fun _ => 0)))), ((q 44), .inl (E.2.1, (10, .inl (fun _ => 0)))), ((q 45), .inl (E.2.2.2, (10, .inr (.inr (.inr (.inr (fun i => ([(q 46), (q 47), (q 48), (q 49), (q 50), (q 51), (q 52), (q 53), (q 54), (q 55)] : List Nat)[i]?))))))), ((q 46), .inl (E.2.1, (10, .inl (fun _ => 0)))), ((q 47), .inl (E.2.1, (10, .inl (fun _ => 0)))), ((q 48), .inl (E.2.1, (10, .inl (fun _ => 0)))), ((q 49), .inl (E.2.1, (10, .inl (fun _ => 0)))), ((q 50), .inl (E.2.1, (10, .inl (fun _ => 0)))), ((q 51), .inl (E.2.1, (10, .inl (fun _ => 0)))), ((q 52), .inl (E.2.1, (10, .inl (fun _ => 0)))), ((q 53), .inl (E.2.1, (10, .inl (fun _ => 0)))), ((q 54), .inl (E.2.1, (10, .inl (fun _ => 0)))), ((q 55), .inl (E.2.1, (10, .inl (fun _ => 0)))), ((q 56), .inl (E.2.2.2, (10, .inr (.inr (.inr (.inr (fun i => ([(q 57), (q 58), (q 59), (q 60), (q 61), (q 62), (q 63), (q 64), (q 65), (q 66)] : List Nat)[i]?))))))), ((q 57), .inl (E.2.1, (10, .inl (fun _ => 0)))), ((q 58), .inl (E.2.1, (10, .inl (fun _ => 0)))), ((q 59), .inl (E.2.1, (10, .inl (fun _ => 0)))), ((q 60), .inl (E.2.1, (10, .inl (fun _ => 0)))), ((q 61), .inl (E.2.1, (10, .inl (fun _ => 0)))), ((q 62), .inl (E.2.1, (10, .inl (fun _ => 0)))), ((q 63), .inl (E.2.1, (10, .inl (fun _ => 0)))), ((q 64), .inl (E.2.1, (10, .inl (fun _ => 0)))), ((q 65), .inl (E.2.1, (10, .inl (fun _ => 0)))), ((q 66), .inl (E.2.1, (10, .inl (fun _ => 0)))), ((q 67), .inl (E.2.1, (10, .inl (fun _ => 0)))), ((q 68), .inl (E.2.1, (16, .inl (fun _ => 0)))), ((q 69), .inr (7, [.ref (q 40), .ref (q 5), .ref (q 35), .ref (q 70), .ref (q 71), .ref (q 72), .ref (q 73), .ref (q 74), iv 0])), ((q 70), .inl (E.2.1, (20, .inl (fun _ => 0)))), ((q 71), .inl (E.2.1, (20, .inl (fun _ => 0)))), ((q 72), .inl (E.2.1, (20, .inl (fun _ => 0)))), ((q 73), .inl (E.2.1, (20, .inl (fun _ => 0)))), ((q 74), .inl (E.2.1, (20, .inl (fun _ => 0)))), ((q 75), .inr (3, [.ref (q 76), .ref (q 77), iv 0, iv 0, iv 0, .ref (q 78), .ref (q 79)])), ((q 76), .inl (E.2.1, (7, .inl (fun _ => 0)))), ((q 77), .inl (E.2.1, (7, .inl (fun _ => 0)))), ((q 78), .inl (E.2.1, (7, .inl (fun _ => 0)))), ((q 79), .inl (E.2.1, (7, .inl (fun _ => 0)))), ((q 80), .inr (1, [.ref (q 81), .ref (q 82), .ref (q 83), .ref (q 84), iv 0, .ref (q 85), .ref (q 86), .ref (q 87), .ref (q 88), .ref (q 89), iv 0, iv 0, .ref (q 90), .ref (q 91), .ref (q 92), iv 0, iv 0])), ((q 81), .inl (E.2.1, (8, .inl (fun _ => 0)))), ((q 82), .inl (E.2.1, (8, .inl (fun _ => 0)))), ((q 83), .inl (E.2.1, (8, .inl (fun _ => 0)))), ((q 84), .inl (E.2.1, (8, .inl (fun _ => 0)))), ((q 85), .inl (E.2.1, (8, .inl (fun _ => 0)))), ((q 86), .inl (E.2.1, (4, .inl (fun _ => 0)))), ((q 87), .inl (E.2.1, (4, .inl (fun _ => 0)))), ((q 88), .inl (E.2.1, (4, .inl (fun _ => 0)))), ((q 89), .inl (E.2.1, (4, .inl (fun _ => 0)))), ((q 90), .inl (E.2.1, (9, .inl (fun _ => 0)))), ((q 91), .inl (E.2.1, (8, .inl (fun _ => 0)))), ((q 92), .inl (E.2.1, (8, .inl (fun _ => 0)))), ((q 93), .inr (10, [.ref (q 94), .ref (q 95), iv 0, .ref (q 96), .ref (q 97), .ref (q 98), .ref (q 99), iv 0, .ref (q 100), .ref (q 101), .ref (q 102), .ref (q 103), iv 0, iv 0, iv 0])), ((q 94), .inl (E.2.1, (10, .inl (fun _ => 0)))), ((q 95), .inl (E.2.1, (10, .inl (fun _ => 0)))), ((q 96), .inl (E.2.1, (7, .inl (fun _ => 0)))), ((q 97), .inl (E.2.1, (128, .inl (fun _ => 0)))), ((q 98), .inl (E.2.1, (128, .inl (fun _ => 0)))), ((q 99), .inl (E.2.1, (128, .inl (fun _ => 0)))), ((q 100), .inl (E.2.1, (8, .inl (fun _ => 0)))), ((q 101), .inl (E.2.1, (3, .inl (fun _ => 0)))), ((q 102), .inl (E.2.1, (8, .inl (fun _ => 0)))), ((q 103), .inl (E.2.1, (8, .inl (fun _ => 0)))), ((q 104), .inr (8, [.ref (q 0), .ref (q 105), .ref (q 106), iv 0, iv 0, iv 0, .ref (q 107), .ref (q 108), .ref (q 109), .ref (q 110), .ref (q 111), .ref (q 112), iv 0, iv 0, iv 0])), ((q 105), .inl (E.2.1, (16, .inl (fun _ => 0)))), ((q 106), .inl (E.2.1, (16, .inl (fun _ => 0)))), ((q 107), .inl (E.2.1, (12, .inl (fun _ => 0)))), ((q 108), .inl (E.2.1, (12, .inl (fun _ => 0)))), ((q 109), .inl (E.2.1, (12, .inl (fun _ => 0)))), ((q 110), .inl (E.2.1, (12, .inl (fun _ => 0)))), ((q 111), .inl (E.2.1, (2, .inl (fun _ => 0)))), ((q 112), .inl (E.2.1, (2, .inl (fun _ => 0)))), ((q 113), .inr (5, [.ref (q 114), .ref (q 115), iv 0])), ((q 114), .inl (E.2.1, (1000, .inl (fun _ => 0)))), ((q 115), .inl (E.2.1, (1000, .inl (fun _ => 0))))]) 116 7163 := by
  refine CM.of (by decide +kernel) rfl (Nat.le_of_ble_eq_true rfl) (fun A => ?_)
  show CW E RX11 cX11_init 1 (cR 2 116 7163) 11 h0 A (KWb) _ 0 [(0, .ref h0)] [] [.null, .null, .null, .null, .null, .null, .null, .null, .null, .null, .null, .null] [] 0 0
  refine CW.aload_n 0 (dcN_0 dcg_339 :) rfl ?_
  refine CW.objInit wm_138 wm_139 wm_140 (Nat.le_of_ble_eq_true rfl) (Nat.le_of_ble_eq_true rfl) (dcN_1 dcg_339 :) ?_
  refine CW.aload_n 0 (dcN_2 dcg_339 :) rfl ?_
  refine CW.new (cj := 2) (N := 7) (fs1 := [.null, .null, .null, .null, iv 0, iv 0, iv 0]) gX2 tyX2_ok wm_141 wm_142 wm_112 rfl (by decide +kernel) (Nat.le_of_ble_eq_true rfl) (Nat.le_of_ble_eq_true rfl) (dcN_3 dcg_339 :) (fun q0 => ?_)
  refine CW.dup (dcN_4 dcg_339 :) ?_
  refine CW.runI (n := 0) (As := []) (st := [.ref q0, .ref h0]) (cm_X2 E q0) StK.tt (fun U h => trivial) StK.w rfl wm_145 wm_112 wm_144 (Or.inl wm_143) ⟨by decide +kernel, by decide +kernel, by decide +kernel⟩ (Nat.le_of_ble_eq_true rfl) (Nat.le_of_ble_eq_true rfl) (Nat.le_of_ble_eq_true rfl) (Nat.le_of_ble_eq_true rfl) rfl (Nat.le_of_ble_eq_true rfl) (dcN_5 dcg_339 :) rfl (fun r1 => ?_)
  refine CW.putF (k := 0) (ty := (.object "WeekBoats$Canal")) (v := .ref q0) rfl gX11 tyX11_ok nmX11 (by decide) wm_641 rfl rfl (by decide +kernel) rfl rfl (Nat.le_of_ble_eq_true rfl) (dcN_6 dcg_339 :) ?_
  refine CW.aload_n 0 (dcN_7 dcg_339 :) rfl ?_
  refine CW.new (cj := 6) (N := 15) (fs1 := [.null, .null, iv 0, iv 0, .null, .null, .null, .null, .null, .null, iv 0, .null, .null, .null, .null]) gX6 tyX6_ok wm_185 wm_186 wm_114 rfl (by decide +kernel) (Nat.le_of_ble_eq_true rfl) (Nat.le_of_ble_eq_true rfl) (dcN_8 dcg_339 :) (fun q5 => ?_)
  refine CW.dup (dcN_9 dcg_339 :) ?_
  refine CW.runI (n := 0) (As := []) (st := [.ref q5, .ref h0]) (cm_X6 E q5) StK.tt (fun U h => trivial) StK.w rfl wm_189 wm_114 wm_188 (Or.inr ⟨"WeekBoats", fun U h => h.2 (18, "WeekBoats$Rules") (by decide)⟩) ⟨by decide +kernel, by decide +kernel, by decide +kernel⟩ (Nat.le_of_ble_eq_true rfl) (Nat.le_of_ble_eq_true rfl) (Nat.le_of_ble_eq_true rfl) (Nat.le_of_ble_eq_true rfl) rfl (Nat.le_of_ble_eq_true rfl) (dcN_10 dcg_339 :) rfl (fun r6 => ?_)
  refine CW.putF (k := 1) (ty := (.object "WeekBoats$Rules")) (v := .ref q5) rfl gX11 tyX11_ok nmX11 (by decide) wm_642 rfl rfl (by decide +kernel) rfl rfl (Nat.le_of_ble_eq_true rfl) (dcN_11 dcg_339 :) ?_
  refine CW.aload_n 0 (dcN_12 dcg_339 :) rfl ?_
  refine CW.new (cj := 6) (N := 15) (fs1 := [.null, .null, iv 0, iv 0, .null, .null, .null, .null, .null, .null, iv 0, .null, .null, .null, .null]) gX6 tyX6_ok wm_185 wm_186 wm_114 rfl (by decide +kernel) (Nat.le_of_ble_eq_true rfl) (Nat.le_of_ble_eq_true rfl) (dcN_13 dcg_339 :) (fun q18 => ?_)
  refine CW.dup (dcN_14 dcg_339 :) ?_
  refine CW.runI (n := 0) (As := []) (st := [.ref q18, .ref h0]) (cm_X6 E q18) StK.tt (fun U h => trivial) StK.w rfl wm_189 wm_114 wm_188 (Or.inr ⟨"WeekBoats", fun U h => h.2 (18, "WeekBoats$Rules") (by decide)⟩) ⟨by decide +kernel, by decide +kernel, by decide +kernel⟩ (Nat.le_of_ble_eq_true rfl) (Nat.le_of_ble_eq_true rfl) (Nat.le_of_ble_eq_true rfl) (Nat.le_of_ble_eq_true rfl) rfl (Nat.le_of_ble_eq_true rfl) (dcN_15 dcg_339 :) rfl (fun r19 => ?_)
  refine CW.putF (k := 2) (ty := (.object "WeekBoats$Rules")) (v := .ref q18) rfl gX11 tyX11_ok nmX11 (by decide) wm_643 rfl rfl (by decide +kernel) rfl rfl (Nat.le_of_ble_eq_true rfl) (dcN_0 dcg_340 :) ?_
  refine CW.aload_n 0 (dcN_1 dcg_340 :) rfl ?_
  refine CW.new (cj := 4) (N := 9) (fs1 := [.null, .null, iv 0, .null, .null, iv 0, iv 0, iv 0, iv 0]) gX4 tyX4_ok wm_253 wm_254 wm_115 rfl (by decide +kernel) (Nat.le_of_ble_eq_true rfl) (Nat.le_of_ble_eq_true rfl) (dcN_2 dcg_340 :) (fun q31 => ?_)
  refine CW.dup (dcN_3 dcg_340 :) ?_
  refine CW.aload_n 0 (dcN_4 dcg_340 :) rfl ?_
  refine CW.get (k := 2) (v := .ref q18) rfl gX11 (by decide) wm_643 rfl (dcN_5 dcg_340 :) ?_
  refine CW.runI (n := 1) (As := [.ref q18]) (st := [.ref q31, .ref h0]) (cm_X4 E q31 q18) StK.tt (fun U h => trivial) StK.w rfl wm_257 wm_115 wm_256 (Or.inl wm_255) ⟨by decide +kernel, by decide +kernel, by decide +kernel⟩ (Nat.le_of_ble_eq_true rfl) (Nat.le_of_ble_eq_true rfl) (Nat.le_of_ble_eq_true rfl) (Nat.le_of_ble_eq_true rfl) rfl (Nat.le_of_ble_eq_true rfl) (dcN_6 dcg_340 :) rfl (fun r32 => ?_)
  refine CW.putF (k := 3) (ty := (.object "WeekBoats$Parser")) (v := .ref q31) rfl gX11 tyX11_ok nmX11 (by decide) wm_644 rfl rfl (by decide +kernel) rfl rfl (Nat.le_of_ble_eq_true rfl) (dcN_7 dcg_340 :) ?_
  refine CW.aload_n 0 (dcN_8 dcg_340 :) rfl ?_
  refine CW.new (cj := 9) (N := 8) (fs1 := [.null, .null, .null, .null, .null, .null, iv 0, iv 0]) gX9 tyX9_ok wm_290 wm_291 wm_116 rfl (by decide +kernel) (Nat.le_of_ble_eq_true rfl) (Nat.le_of_ble_eq_true rfl) (dcN_9 dcg_340 :) (fun q35 => ?_)
  refine CW.dup (dcN_10 dcg_340 :) ?_
  refine CW.aload_n 0 (dcN_11 dcg_340 :) rfl ?_
  refine CW.get (k := 0) (v := .ref q0) rfl gX11 (by decide) wm_641 rfl (dcN_12 dcg_340 :) ?_
  refine CW.aload_n 0 (dcN_13 dcg_340 :) rfl ?_
  refine CW.get (k := 1) (v := .ref q5) rfl gX11 (by decide) wm_642 rfl (dcN_14 dcg_340 :) ?_
  refine CW.runI (n := 2) (As := [.ref q0, .ref q5]) (st := [.ref q35, .ref h0]) (cm_X9 E q35 q0 q5) StK.tt (fun U h => trivial) StK.w rfl wm_294 wm_116 wm_293 (Or.inl wm_292) ⟨by decide +kernel, by decide +kernel, by decide +kernel⟩ (Nat.le_of_ble_eq_true rfl) (Nat.le_of_ble_eq_true rfl) (Nat.le_of_ble_eq_true rfl) (Nat.le_of_ble_eq_true rfl) rfl (Nat.le_of_ble_eq_true rfl) (dcN_0 dcg_341 :) rfl (fun r36 => ?_)
  refine CW.putF (k := 4) (ty := (.object "WeekBoats$Voyage")) (v := .ref q35) rfl gX11 tyX11_ok nmX11 (by decide) wm_645 rfl rfl (by decide +kernel) rfl rfl (Nat.le_of_ble_eq_true rfl) (dcN_1 dcg_341 :) ?_
  refine CW.aload_n 0 (dcN_2 dcg_341 :) rfl ?_
  refine CW.new (cj := 0) (N := 12) (fs1 := [.null, .null, .null, .null, .null, .null, .null, iv 0, .null, .null, .null, .null]) gX0 tyX0_ok wm_326 wm_327 wm_117 rfl (by decide +kernel) (Nat.le_of_ble_eq_true rfl) (Nat.le_of_ble_eq_true rfl) (dcN_3 dcg_341 :) (fun q40 => ?_)
  refine CW.dup (dcN_4 dcg_341 :) ?_
  refine CW.aload_n 0 (dcN_5 dcg_341 :) rfl ?_
  refine CW.get (k := 0) (v := .ref q0) rfl gX11 (by decide) wm_641 rfl (dcN_6 dcg_341 :) ?_
  refine CW.aload_n 0 (dcN_7 dcg_341 :) rfl ?_
  refine CW.get (k := 1) (v := .ref q5) rfl gX11 (by decide) wm_642 rfl (dcN_8 dcg_341 :) ?_
  refine CW.aload_n 0 (dcN_9 dcg_341 :) rfl ?_
  refine CW.get (k := 4) (v := .ref q35) rfl gX11 (by decide) wm_645 rfl (dcN_10 dcg_341 :) ?_
  refine CW.runI (n := 3) (As := [.ref q0, .ref q5, .ref q35]) (st := [.ref q40, .ref h0]) (cm_X0 E q40 q0 q5 q35) StK.o (fun U h => h.1) StK.w rfl wm_330 wm_117 wm_329 (Or.inl wm_328) ⟨by decide +kernel, by decide +kernel, by decide +kernel⟩ (Nat.le_of_ble_eq_true rfl) (Nat.le_of_ble_eq_true rfl) (Nat.le_of_ble_eq_true rfl) (Nat.le_of_ble_eq_true rfl) rfl (Nat.le_of_ble_eq_true rfl) (dcN_11 dcg_341 :) rfl (fun r41 => ?_)
  refine CW.putF (k := 5) (ty := (.object "WeekBoats$Boats")) (v := .ref q40) rfl gX11 tyX11_ok nmX11 (by decide) wm_646 rfl rfl (by decide +kernel) rfl rfl (Nat.le_of_ble_eq_true rfl) (dcN_12 dcg_341 :) ?_
  refine CW.aload_n 0 (dcN_13 dcg_341 :) rfl ?_
  refine CW.new (cj := 7) (N := 9) (fs1 := [.null, .null, .null, .null, .null, .null, .null, .null, iv 0]) gX7 tyX7_ok wm_377 wm_378 wm_118 rfl (by decide +kernel) (Nat.le_of_ble_eq_true rfl) (Nat.le_of_ble_eq_true rfl) (dcN_14 dcg_341 :) (fun q69 => ?_)
  refine CW.dup (dcN_0 dcg_342 :) ?_
  refine CW.aload_n 0 (dcN_1 dcg_342 :) rfl ?_
  refine CW.get (k := 5) (v := .ref q40) rfl gX11 (by decide) wm_646 rfl (dcN_2 dcg_342 :) ?_
  refine CW.aload_n 0 (dcN_3 dcg_342 :) rfl ?_
  refine CW.get (k := 1) (v := .ref q5) rfl gX11 (by decide) wm_642 rfl (dcN_4 dcg_342 :) ?_
  refine CW.aload_n 0 (dcN_5 dcg_342 :) rfl ?_
  refine CW.get (k := 4) (v := .ref q35) rfl gX11 (by decide) wm_645 rfl (dcN_6 dcg_342 :) ?_
  refine CW.runI (n := 3) (As := [.ref q40, .ref q5, .ref q35]) (st := [.ref q69, .ref h0]) (cm_X7 E q69 q40 q5 q35) StK.tt (fun U h => trivial) StK.w rfl wm_381 wm_118 wm_380 (Or.inl wm_379) ⟨by decide +kernel, by decide +kernel, by decide +kernel⟩ (Nat.le_of_ble_eq_true rfl) (Nat.le_of_ble_eq_true rfl) (Nat.le_of_ble_eq_true rfl) (Nat.le_of_ble_eq_true rfl) rfl (Nat.le_of_ble_eq_true rfl) (dcN_7 dcg_342 :) rfl (fun r70 => ?_)
  refine CW.putF (k := 6) (ty := (.object "WeekBoats$Trips")) (v := .ref q69) rfl gX11 tyX11_ok nmX11 (by decide) wm_647 rfl rfl (by decide +kernel) rfl rfl (Nat.le_of_ble_eq_true rfl) (dcN_8 dcg_342 :) ?_
  refine CW.aload_n 0 (dcN_9 dcg_342 :) rfl ?_
  refine CW.new (cj := 3) (N := 7) (fs1 := [.null, .null, iv 0, iv 0, iv 0, .null, .null]) gX3 tyX3_ok wm_412 wm_413 wm_119 rfl (by decide +kernel) (Nat.le_of_ble_eq_true rfl) (Nat.le_of_ble_eq_true rfl) (dcN_10 dcg_342 :) (fun q75 => ?_)
  refine CW.dup (dcN_11 dcg_342 :) ?_
  refine CW.runI (n := 0) (As := []) (st := [.ref q75, .ref h0]) (cm_X3 E q75) StK.tt (fun U h => trivial) StK.w rfl wm_416 wm_119 wm_415 (Or.inr ⟨"WeekBoats", fun U h => h.2 (64, "WeekBoats$LockQueue") (by decide)⟩) ⟨by decide +kernel, by decide +kernel, by decide +kernel⟩ (Nat.le_of_ble_eq_true rfl) (Nat.le_of_ble_eq_true rfl) (Nat.le_of_ble_eq_true rfl) (Nat.le_of_ble_eq_true rfl) rfl (Nat.le_of_ble_eq_true rfl) (dcN_12 dcg_342 :) rfl (fun r76 => ?_)
  refine CW.putF (k := 7) (ty := (.object "WeekBoats$LockQueue")) (v := .ref q75) rfl gX11 tyX11_ok nmX11 (by decide) wm_648 rfl rfl (by decide +kernel) rfl rfl (Nat.le_of_ble_eq_true rfl) (dcN_13 dcg_342 :) ?_
  refine CW.aload_n 0 (dcN_0 dcg_343 :) rfl ?_
  refine CW.new (cj := 1) (N := 17) (fs1 := [.null, .null, .null, .null, iv 0, .null, .null, .null, .null, .null, iv 0, iv 0, .null, .null, .null, iv 0, iv 0]) gX1 tyX1_ok wm_443 wm_444 wm_120 rfl (by decide +kernel) (Nat.le_of_ble_eq_true rfl) (Nat.le_of_ble_eq_true rfl) (dcN_1 dcg_343 :) (fun q80 => ?_)
  refine CW.dup (dcN_2 dcg_343 :) ?_
  refine CW.runI (n := 0) (As := []) (st := [.ref q80, .ref h0]) (cm_X1 E q80) StK.tt (fun U h => trivial) StK.w rfl wm_447 wm_120 wm_446 (Or.inr ⟨"WeekBoats", fun U h => h.2 (71, "WeekBoats$Bookings") (by decide)⟩) ⟨by decide +kernel, by decide +kernel, by decide +kernel⟩ (Nat.le_of_ble_eq_true rfl) (Nat.le_of_ble_eq_true rfl) (Nat.le_of_ble_eq_true rfl) (Nat.le_of_ble_eq_true rfl) rfl (Nat.le_of_ble_eq_true rfl) (dcN_3 dcg_343 :) rfl (fun r81 => ?_)
  refine CW.putF (k := 8) (ty := (.object "WeekBoats$Bookings")) (v := .ref q80) rfl gX11 tyX11_ok nmX11 (by decide) wm_649 rfl rfl (by decide +kernel) rfl rfl (Nat.le_of_ble_eq_true rfl) (dcN_4 dcg_343 :) ?_
  refine CW.aload_n 0 (dcN_5 dcg_343 :) rfl ?_
  refine CW.new (cj := 10) (N := 15) (fs1 := [.null, .null, iv 0, .null, .null, .null, .null, iv 0, .null, .null, .null, .null, iv 0, iv 0, iv 0]) gX10 tyX10_ok wm_505 wm_506 wm_121 rfl (by decide +kernel) (Nat.le_of_ble_eq_true rfl) (Nat.le_of_ble_eq_true rfl) (dcN_6 dcg_343 :) (fun q93 => ?_)
  refine CW.dup (dcN_7 dcg_343 :) ?_
  refine CW.runI (n := 0) (As := []) (st := [.ref q93, .ref h0]) (cm_X10 E q93) StK.tt (fun U h => trivial) StK.w rfl wm_509 wm_121 wm_508 (Or.inr ⟨"WeekBoats", fun U h => h.2 (78, "WeekBoats$Yard") (by decide)⟩) ⟨by decide +kernel, by decide +kernel, by decide +kernel⟩ (Nat.le_of_ble_eq_true rfl) (Nat.le_of_ble_eq_true rfl) (Nat.le_of_ble_eq_true rfl) (Nat.le_of_ble_eq_true rfl) rfl (Nat.le_of_ble_eq_true rfl) (dcN_8 dcg_343 :) rfl (fun r94 => ?_)
  refine CW.putF (k := 9) (ty := (.object "WeekBoats$Yard")) (v := .ref q93) rfl gX11 tyX11_ok nmX11 (by decide) wm_650 rfl rfl (by decide +kernel) rfl rfl (Nat.le_of_ble_eq_true rfl) (dcN_9 dcg_343 :) ?_
  refine CW.aload_n 0 (dcN_10 dcg_343 :) rfl ?_
  refine CW.new (cj := 8) (N := 15) (fs1 := [.null, .null, .null, iv 0, iv 0, iv 0, .null, .null, .null, .null, .null, .null, iv 0, iv 0, iv 0]) gX8 tyX8_ok wm_565 wm_566 wm_122 rfl (by decide +kernel) (Nat.le_of_ble_eq_true rfl) (Nat.le_of_ble_eq_true rfl) (dcN_11 dcg_343 :) (fun q104 => ?_)
  refine CW.dup (dcN_12 dcg_343 :) ?_
  refine CW.aload_n 0 (dcN_13 dcg_343 :) rfl ?_
  refine CW.get (k := 0) (v := .ref q0) rfl gX11 (by decide) wm_641 rfl (dcN_14 dcg_343 :) ?_
  refine CW.runI (n := 1) (As := [.ref q0]) (st := [.ref q104, .ref h0]) (cm_X8 E q104 q0) StK.tt (fun U h => trivial) StK.w rfl wm_569 wm_122 wm_568 (Or.inl wm_567) ⟨by decide +kernel, by decide +kernel, by decide +kernel⟩ (Nat.le_of_ble_eq_true rfl) (Nat.le_of_ble_eq_true rfl) (Nat.le_of_ble_eq_true rfl) (Nat.le_of_ble_eq_true rfl) rfl (Nat.le_of_ble_eq_true rfl) (dcN_15 dcg_343 :) rfl (fun r105 => ?_)
  refine CW.putF (k := 10) (ty := (.object "WeekBoats$Vans")) (v := .ref q104) rfl gX11 tyX11_ok nmX11 (by decide) wm_651 rfl rfl (by decide +kernel) rfl rfl (Nat.le_of_ble_eq_true rfl) (dcN_0 dcg_344 :) ?_
  refine CW.aload_n 0 (dcN_1 dcg_344 :) rfl ?_
  refine CW.new (cj := 5) (N := 3) (fs1 := [.null, .null, iv 0]) gX5 tyX5_ok wm_624 wm_625 wm_123 rfl (by decide +kernel) (Nat.le_of_ble_eq_true rfl) (Nat.le_of_ble_eq_true rfl) (dcN_2 dcg_344 :) (fun q113 => ?_)
  refine CW.dup (dcN_3 dcg_344 :) ?_
  refine CW.runI (n := 0) (As := []) (st := [.ref q113, .ref h0]) (cm_X5 E q113) StK.tt (fun U h => trivial) StK.w rfl wm_628 wm_123 wm_627 (Or.inr ⟨"WeekBoats", fun U h => h.2 (94, "WeekBoats$Rain") (by decide)⟩) ⟨by decide +kernel, by decide +kernel, by decide +kernel⟩ (Nat.le_of_ble_eq_true rfl) (Nat.le_of_ble_eq_true rfl) (Nat.le_of_ble_eq_true rfl) (Nat.le_of_ble_eq_true rfl) rfl (Nat.le_of_ble_eq_true rfl) (dcN_4 dcg_344 :) rfl (fun r114 => ?_)
  refine CW.putF (k := 11) (ty := (.object "WeekBoats$Rain")) (v := .ref q113) rfl gX11 tyX11_ok nmX11 (by decide) wm_652 rfl rfl (by decide +kernel) rfl rfl (Nat.le_of_ble_eq_true rfl) (dcN_5 dcg_344 :) ?_
  exact CW.ret (fun i => ([q0, (r1 0), (r1 1), (r1 2), (r1 3), q5, (r6 0), (r6 1), (r6 2), (r6 3), (r6 4), (r6 5), (r6 6), (r6 7), (r6 8), (r6 9), (r6 10), (r6 11), q18, (r19 0), (r19 1), (r19 2), (r19 3), (r19 4), (r19 5), (r19 6), (r19 7), (r19 8), (r19 9), (r19 10), (r19 11), q31, (r32 0), (r32 1), (r32 2), q35, (r36 0), (r36 1), (r36 2), (r36 3), q40, (r41 0), (r41 1), (r41 2), (r41 3), (r41 4), (r41 5), (r41 6), (r41 7), (r41 8), (r41 9), (r41 10), (r41 11), (r41 12), (r41 13), (r41 14), (r41 15), (r41 16), (r41 17), (r41 18), (r41 19), (r41 20), (r41 21), (r41 22), (r41 23), (r41 24), (r41 25), (r41 26), (r41 27), q69, (r70 0), (r70 1), (r70 2), (r70 3), (r70 4), q75, (r76 0), (r76 1), (r76 2), (r76 3), q80, (r81 0), (r81 1), (r81 2), (r81 3), (r81 4), (r81 5), (r81 6), (r81 7), (r81 8), (r81 9), (r81 10), (r81 11), q93, (r94 0), (r94 1), (r94 2), (r94 3), (r94 4), (r94 5), (r94 6), (r94 7), (r94 8), (r94 9), q104, (r105 0), (r105 1), (r105 2), (r105 3), (r105 4), (r105 5), (r105 6), (r105 7), q113, (r114 0), (r114 1)] : List Nat).getD i 0) rfl rfl rfl rfl (dcN_6 dcg_344 :)
