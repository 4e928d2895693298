/-! from the law's entry to its loop -/
theorem wm_133 : Cond.classLink "WeekBoatsLaw" 7 "WeekBoats" ∈ lw_gd := wk_1 (i := 23) (by decide +kernel) rfl
theorem wm_134 : Cond.instantiable "WeekBoats" 12 ∈ lw_gd := wk_1 (i := 24) (by decide +kernel) rfl
theorem wm_1492 : Cond.classLink "WeekBoatsLaw" 10 "WeekBoatsModel" ∈ lw_gd := wk_6 (i := 182) (by decide +kernel) rfl
theorem wm_1493 : Cond.instantiable "WeekBoatsModel" 101 ∈ lw_gd := wk_6 (i := 183) (by decide +kernel) rfl
set_option maxRecDepth 100000 in
theorem in6 : Cond.code ⟨"WeekBoatsModel", "<init>", "()V"⟩ prog_14_method_4_code 2 none ∈ tables_1_6 := List.mem_of_getElem? (i := 186) rfl
theorem wm_1496 : Cond.code ⟨"WeekBoatsModel", "<init>", "()V"⟩ prog_14_method_4_code 2 none ∈ lw_gd := gd (List.mem_append_right _ (List.mem_append_right _ (List.mem_append_right _ (List.mem_append_right _ (List.mem_append_right _ (List.mem_append_right _ (List.mem_append_left _ in6))))))) rfl
theorem bg_perm : bgPerm.length = 188 := by decide +kernel
theorem bg_perm_inj : ∀ i, i < 188 → bgInv.getD (bgPerm.getD i 0) 0 = i := by decide +kernel
theorem bg_ad {E : CE} {x mm : Nat} {r q aK aV : Nat → Nat} : ∀ k, k < 188 → ∃ v, (bgWS E x mm r q)[bgPerm.getD k 0]? = some (zad (bgZ E x mm r q aK aV) k, v) := by
  intro k hk
  exact match k, hk with
    | 0, _ => ⟨_, rfl⟩
    | 1, _ => ⟨_, rfl⟩
    | 2, _ => ⟨_, rfl⟩
    | 3, _ => ⟨_, rfl⟩
    | 4, _ => ⟨_, rfl⟩
    | 5, _ => ⟨_, rfl⟩
    | 6, _ => ⟨_, rfl⟩
    | 7, _ => ⟨_, rfl⟩
    | 8, _ => ⟨_, rfl⟩
    | 9, _ => ⟨_, rfl⟩
    | 10, _ => ⟨_, rfl⟩
    | 11, _ => ⟨_, rfl⟩
    | 12, _ => ⟨_, rfl⟩
    | 13, _ => ⟨_, rfl⟩
    | 14, _ => ⟨_, rfl⟩
    | 15, _ => ⟨_, rfl⟩
    | 16, _ => ⟨_, rfl⟩
    | 17, _ => ⟨_, rfl⟩
    | 18, _ => ⟨_, rfl⟩
    | 19, _ => ⟨_, rfl⟩
    | 20, _ => ⟨_, rfl⟩
    | 21, _ => ⟨_, rfl⟩
    | 22, _ => ⟨_, rfl⟩
    | 23, _ => ⟨_, rfl⟩
    | 24, _ => ⟨_, rfl⟩
    | 25, _ => ⟨_, rfl⟩
    | 26, _ => ⟨_, rfl⟩
    | 27, _ => ⟨_, rfl⟩
    | 28, _ => ⟨_, rfl⟩
    | 29, _ => ⟨_, rfl⟩
    | 30, _ => ⟨_, rfl⟩
    | 31, _ => ⟨_, rfl⟩
    | 32, _ => ⟨_, rfl⟩
    | 33, _ => ⟨_, rfl⟩
    | 34, _ => ⟨_, rfl⟩
    | 35, _ => ⟨_, rfl⟩
    | 36, _ => ⟨_, rfl⟩
    | 37, _ => ⟨_, rfl⟩
    | 38, _ => ⟨_, rfl⟩
    | 39, _ => ⟨_, rfl⟩
    | 40, _ => ⟨_, rfl⟩
    | 41, _ => ⟨_, rfl⟩
    | 42, _ => ⟨_, rfl⟩
    | 43, _ => ⟨_, rfl⟩
    | 44, _ => ⟨_, rfl⟩
    | 45, _ => ⟨_, rfl⟩
    | 46, _ => ⟨_, rfl⟩
    | 47, _ => ⟨_, rfl⟩
    | 48, _ => ⟨_, rfl⟩
    | 49, _ => ⟨_, rfl⟩
    | 50, _ => ⟨_, rfl⟩
    | 51, _ => ⟨_, rfl⟩
    | 52, _ => ⟨_, rfl⟩
    | 53, _ => ⟨_, rfl⟩
    | 54, _ => ⟨_, rfl⟩
    | 55, _ => ⟨_, rfl⟩
    | 56, _ => ⟨_, rfl⟩
    | 57, _ => ⟨_, rfl⟩
    | 58, _ => ⟨_, rfl⟩
    | 59, _ => ⟨_, rfl⟩
    | 60, _ => ⟨_, rfl⟩
    | 61, _ => ⟨_, rfl⟩
    | 62, _ => ⟨_, rfl⟩
    | 63, _ => ⟨_, rfl⟩
    | 64, _ => ⟨_, rfl⟩
    | 65, _ => ⟨_, rfl⟩
    | 66, _ => ⟨_, rfl⟩
    | 67, _ => ⟨_, rfl⟩
    | 68, _ => ⟨_, rfl⟩
    | 69, _ => ⟨_, rfl⟩
    | 70, _ => ⟨_, rfl⟩
    | 71, _ => ⟨_, rfl⟩
    | 72, _ => ⟨_, rfl⟩
    | 73, _ => ⟨_, rfl⟩
    | 74, _ => ⟨_, rfl⟩
    | 75, _ => ⟨_, rfl⟩
    | 76, _ => ⟨_, rfl⟩
    | 77, _ => ⟨_, rfl⟩
    | 78, _ => ⟨_, rfl⟩
    | 79, _ => ⟨_, rfl⟩
    | 80, _ => ⟨_, rfl⟩
    | 81, _ => ⟨_, rfl⟩
    | 82, _ => ⟨_, rfl⟩
    | 83, _ => ⟨_, rfl⟩
    | 84, _ => ⟨_, rfl⟩
    | 85, _ => ⟨_, rfl⟩
    | 86, _ => ⟨_, rfl⟩
    | 87, _ => ⟨_, rfl⟩
    | 88, _ => ⟨_, rfl⟩
    | 89, _ => ⟨_, rfl⟩
    | 90, _ => ⟨_, rfl⟩
    | 91, _ => ⟨_, rfl⟩
    | 92, _ => ⟨_, rfl⟩
    | 93, _ => ⟨_, rfl⟩
    | 94, _ => ⟨_, rfl⟩
    | 95, _ => ⟨_, rfl⟩
    | 96, _ => ⟨_, rfl⟩
    | 97, _ => ⟨_, rfl⟩
    | 98, _ => ⟨_, rfl⟩
    | 99, _ => ⟨_, rfl⟩
    | 100, _ => ⟨_, rfl⟩
    | 101, _ => ⟨_, rfl⟩
    | 102, _ => ⟨_, rfl⟩
    | 103, _ => ⟨_, rfl⟩
    | 104, _ => ⟨_, rfl⟩
    | 105, _ => ⟨_, rfl⟩
    | 106, _ => ⟨_, rfl⟩
    | 107, _ => ⟨_, rfl⟩
    | 108, _ => ⟨_, rfl⟩
    | 109, _ => ⟨_, rfl⟩
    | 110, _ => ⟨_, rfl⟩
    | 111, _ => ⟨_, rfl⟩
    | 112, _ => ⟨_, rfl⟩
    | 113, _ => ⟨_, rfl⟩
    | 114, _ => ⟨_, rfl⟩
    | 115, _ => ⟨_, rfl⟩
    | 116, _ => ⟨_, rfl⟩
    | 117, _ => ⟨_, rfl⟩
    | 118, _ => ⟨_, rfl⟩
    | 119, _ => ⟨_, rfl⟩
    | 120, _ => ⟨_, rfl⟩
    | 121, _ => ⟨_, rfl⟩
    | 122, _ => ⟨_, rfl⟩
    | 123, _ => ⟨_, rfl⟩
    | 124, _ => ⟨_, rfl⟩
    | 125, _ => ⟨_, rfl⟩
    | 126, _ => ⟨_, rfl⟩
    | 127, _ => ⟨_, rfl⟩
    | 128, _ => ⟨_, rfl⟩
    | 129, _ => ⟨_, rfl⟩
    | 130, _ => ⟨_, rfl⟩
    | 131, _ => ⟨_, rfl⟩
    | 132, _ => ⟨_, rfl⟩
    | 133, _ => ⟨_, rfl⟩
    | 134, _ => ⟨_, rfl⟩
    | 135, _ => ⟨_, rfl⟩
    | 136, _ => ⟨_, rfl⟩
    | 137, _ => ⟨_, rfl⟩
    | 138, _ => ⟨_, rfl⟩
    | 139, _ => ⟨_, rfl⟩
    | 140, _ => ⟨_, rfl⟩
    | 141, _ => ⟨_, rfl⟩
    | 142, _ => ⟨_, rfl⟩
    | 143, _ => ⟨_, rfl⟩
    | 144, _ => ⟨_, rfl⟩
    | 145, _ => ⟨_, rfl⟩
    | 146, _ => ⟨_, rfl⟩
    | 147, _ => ⟨_, rfl⟩
    | 148, _ => ⟨_, rfl⟩
    | 149, _ => ⟨_, rfl⟩
    | 150, _ => ⟨_, rfl⟩
    | 151, _ => ⟨_, rfl⟩
    | 152, _ => ⟨_, rfl⟩
    | 153, _ => ⟨_, rfl⟩
    | 154, _ => ⟨_, rfl⟩
    | 155, _ => ⟨_, rfl⟩
    | 156, _ => ⟨_, rfl⟩
    | 157, _ => ⟨_, rfl⟩
    | 158, _ => ⟨_, rfl⟩
    | 159, _ => ⟨_, rfl⟩
    | 160, _ => ⟨_, rfl⟩
    | 161, _ => ⟨_, rfl⟩
    | 162, _ => ⟨_, rfl⟩
    | 163, _ => ⟨_, rfl⟩
    | 164, _ => ⟨_, rfl⟩
    | 165, _ => ⟨_, rfl⟩
    | 166, _ => ⟨_, rfl⟩
    | 167, _ => ⟨_, rfl⟩
    | 168, _ => ⟨_, rfl⟩
    | 169, _ => ⟨_, rfl⟩
    | 170, _ => ⟨_, rfl⟩
    | 171, _ => ⟨_, rfl⟩
    | 172, _ => ⟨_, rfl⟩
    | 173, _ => ⟨_, rfl⟩
    | 174, _ => ⟨_, rfl⟩
    | 175, _ => ⟨_, rfl⟩
    | 176, _ => ⟨_, rfl⟩
    | 177, _ => ⟨_, rfl⟩
    | 178, _ => ⟨_, rfl⟩
    | 179, _ => ⟨_, rfl⟩
    | 180, _ => ⟨_, rfl⟩
    | 181, _ => ⟨_, rfl⟩
    | 182, _ => ⟨_, rfl⟩
    | 183, _ => ⟨_, rfl⟩
    | 184, _ => ⟨_, rfl⟩
    | 185, _ => ⟨_, rfl⟩
    | 186, _ => ⟨_, rfl⟩
    | 187, _ => ⟨_, rfl⟩
    | n + 188, h => absurd h (by omega)
theorem bg_start {E : CE} {x mm : Nat} {r q aK aV : Nat → Nat} {s : State} {A : Array Value} {H : Heap} (hE : va_K E.1 vwCl (cTy E) s) (hts : ∀ w ∈ lw_tbl, w.before A s = true) (hfl : ∀ c ∈ flatC (Jvm.Cond.and given_1 narrow_1), c.before A s = true) (hS1 : vk_S 22 lenJ bytJ aK aV (fun q : Nat => s.heap.size ≤ q) s s.heap) (hS2 : ∀ i : Nat, i < 22 → (tmS i).eval A s none [] s = some (.ref (aK i))) (hP : cP E (bgWS E x mm r q) H) (hD : va_D (fun q : Nat => s.heap.size ≤ q) (bgWS E x mm r q)) : awP (bgZ E x mm r q aK aV) g00 H ∧ awK (bgZ E x mm r q aK aV) s ∧ ∀ y, zA (bgZ E x mm r q aK aV) y → s.heap.size ≤ y := by
  have hA : ∀ y, zA (bgZ E x mm r q aK aV) y → s.heap.size ≤ y := by
    intro y hy
    obtain ⟨k, hk, e⟩ := hy
    obtain ⟨v, hv⟩ := bg_ad (E := E) (x := x) (mm := mm) (r := r) (q := q) (aK := aK) (aV := aV) k hk
    rw [e]
    exact hD.2 _ _ hv
  have hN : ∀ a : Nat, a < s.heap.size → ¬ (fun q : Nat => s.heap.size ≤ q) a := fun a ha h => absurd ha (Nat.not_lt.mpr h)
  refine ⟨fun k y hy => ?_, ⟨hE, fun i j hi hj e => ?_, hS1.narrow hA, st_refs hts hS2, st_nest hts, ?_, ?_⟩, hA⟩
  · have hk : k < KC := by
      have := (List.getElem?_eq_some_iff.mp hy).1
      simpa [awW] using this
    rw [awW_get hk] at hy
    cases hy
    exact bg_at hP k hk
  · obtain ⟨v, hv⟩ := bg_ad (E := E) (x := x) (mm := mm) (r := r) (q := q) (aK := aK) (aV := aV) i hi
    obtain ⟨w, hw⟩ := bg_ad (E := E) (x := x) (mm := mm) (r := r) (q := q) (aK := aK) (aV := aV) j hj
    have h := hD.1 _ _ _ _ hv hw e
    rw [← bg_perm_inj i hi, ← bg_perm_inj j hj, h]
  · exact (va_Zof (hts _ (List.mem_of_getElem? (l := lw_tbl) (i := 793) (a := Cond.laysStatic "java/lang/String" "COMPACT_STRINGS" "Z") (by decide +kernel))) (hts _ (List.mem_of_getElem? (l := lw_tbl) (i := 125) (a := Cond.initialized "java/lang/String") (by decide +kernel))) (va_eqt (hfl _ (by rw [flS]; exact List.mem_append_left _ (List.mem_of_getElem? (i := 4) rfl)))) hN).narrow hA
  · exact (va_Zqof (hts _ (List.mem_of_getElem? (l := lw_tbl) (i := 809) (a := Cond.laysStatic "jdk/internal/util/Preconditions" "SIOOBE_FORMATTER" "Ljava/util/function/BiFunction;") (by decide +kernel))) (hts _ (List.mem_of_getElem? (l := lw_tbl) (i := 127) (a := Cond.initialized "jdk/internal/util/Preconditions") (by decide +kernel))) (hfl _ (by rw [flS]; exact List.mem_append_left _ (List.mem_of_getElem? (i := 5) rfl))) hN).narrow hA
theorem whole_start {p : Program} {e : Env} {s : State} {m : MethodId} {below : List Frame} {meth : Method} {c : Code} (l : Launch) (hflags : l.flags = flags0) {b L : Nat} {xs : Nat → Int32} (hL : L ≤ 3072) (C0 : lw_At p s m meth c b L xs) : W p l e room_1 s m #[Value.ref b] below meth c s.heap [] 0 0 (lw_Z below #[Value.ref b] s) (entryFrame m ([Value.ref b] : List Value).toArray 4) := by
  obtain ⟨hx, hb, hr, hml, hown, hts, hX, hbl, hlocks, hgv⟩ := id C0
  obtain ⟨E, hE⟩ := st_known hts
  have CL : LNC p s m meth c b L xs E := ⟨C0, hE, st_nestI hts⟩
  have hfl := flat_of_before _ hgv
  obtain ⟨aK, aV, hS1, hS2⟩ := st_texts hfl
  have hS : va_S (fun q : Nat => s.heap.size ≤ q) s.heap s.heap [] := va_S.rf
  have hP : cP E [] s.heap := fun k q h => by simp at h
  have hD : va_D (fun q : Nat => s.heap.size ≤ q) [] := ⟨fun i j p q h => by simp at h, fun k q h => by simp at h⟩
  have hl := lv_entry ([.ref b]) (n := 4) (Nat.le_of_ble_eq_true rfl)
  rw [lg_entry_eq]
  generalize (lg_sl ([.ref b]) ++ List.replicate (4 - (lg_sl ([.ref b])).length) Slot.unset).toArray = ls at hl ⊢
  have hl : lv_has ls 4 [(0, .ref b)] := hl
  have main : LN p l e s m below meth c b E 0 [(0, .ref b)] [] [] 0 0 := by
    refine LN.new CL (cj := 11) (fs1 := [.null, .null, .null, .null, .null, .null, .null, .null, .null, .null, .null, .null]) gX11 tyX11_ok wm_133 wm_134 wm_111 rfl (by decide +kernel) (Nat.le_of_ble_eq_true rfl) (Nat.le_of_ble_eq_true rfl) (dcN_0 dLg_0 :) (fun x => ?_)
    refine LN.dup CL (dcN_1 dLg_0 :) ?_
    refine LN.runI (ws := []) (st := [.ref x]) CL (cm_X11 E x) StK.w (fun U h => h) rfl wm_137 wm_111 wm_136 wm_135 ⟨by decide +kernel, by decide +kernel, by decide +kernel⟩ (Nat.le_of_ble_eq_true rfl) (Nat.le_of_ble_eq_true rfl) (Nat.le_of_ble_eq_true rfl) (Nat.le_of_ble_eq_true rfl) (Nat.le_of_ble_eq_true rfl) (dcN_2 dLg_0 :) (fun r => ?_)
    refine LN.astore_n (lv1 := [(1, .ref x), (0, .ref b)]) CL (dcN_3 dLg_0 :) (by decide) rfl ?_
    refine LN.new CL (cj := 12) (fs1 := [.null, .null, .null, .null, .null, .null, .null, .null, .null, .null, iv 0, iv 0, iv 0, .null, .null, .null, .null, .null, .null, .null, .null, .null, .null, .null, .null, .null, .null, .null, .null, .null, .null, .null, .null, .null, iv 0, iv 0, iv 0, iv 0, iv 0, iv 0, iv 0, iv 0, iv 0, iv 0, iv 0, iv 0, iv 0, iv 0, iv 0, iv 0, .null, .null, .null, .null, .null, .null, .null, .null, .null, iv 0, .null, .null, .null, .null, iv 0, iv 0, iv 0, iv 0, .null, .null, .null, .null, .null, .null, .null, .null, .null, .null, .null, .null, .null, .null, .null, .null, iv 0, iv 0, iv 0, iv 0, .null, .null, iv 0, .null, iv 0, .null, .null, .null, .null, .null, .null, .null, iv 0]) gX12 tyX12_ok wm_1492 wm_1493 wm_124 rfl (by decide +kernel) (Nat.le_of_ble_eq_true rfl) (Nat.le_of_ble_eq_true rfl) (dcN_4 dLg_0 :) (fun mm => ?_)
    refine LN.dup CL (dcN_5 dLg_0 :) ?_
    refine LN.runI (st := [.ref mm]) CL (cm_X12 E mm) StK.tt (fun U _ => trivial) rfl wm_1496 wm_124 wm_1495 wm_1494 ⟨by decide +kernel, by decide +kernel, by decide +kernel⟩ (Nat.le_of_ble_eq_true rfl) (Nat.le_of_ble_eq_true rfl) (Nat.le_of_ble_eq_true rfl) (Nat.le_of_ble_eq_true rfl) (Nat.le_of_ble_eq_true rfl) (dcN_6 dLg_0 :) (fun q => ?_)
    refine LN.astore_n (lv1 := [(2, .ref mm), (1, .ref x), (0, .ref b)]) CL (dcN_7 dLg_0 :) (by decide) rfl ?_
    refine LN.iconst CL (dcN_8 dLg_0 :) ?_
    refine LN.istore_n (lv1 := [(3, iv 0), (2, .ref mm), (1, .ref x), (0, .ref b)]) CL (dcN_9 dLg_0 :) (by decide) rfl ?_
    intro H locs ls hP hD hS hl
    have hP : cP E (bgWS E x mm r q) H := hP
    have hD : va_D (fun q : Nat => s.heap.size ≤ q) (bgWS E x mm r q) := hD
    obtain ⟨hPw, hKw, hAw⟩ := bg_start (aK := aK) (aV := aV) hE hts hfl hS1 hS2 hP hD
    have LCz : LC p s m meth c b L xs (bgZ E x mm r q aK aV) := ⟨C0, hKw, hAw⟩
    exact lw_loop (p := p) (l := l) (e := e) (below := below) sims_all LCz hL L 0 g00 (Int.le_refl 0) (by omega) (by omega) inv_g00 H locs ls hPw hS hl
  exact main s.heap [] ls hP hD hS hl
