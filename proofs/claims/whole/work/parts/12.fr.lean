/-! which places a program can change: k * 1000 the whole of cell k, k * 1000 + 1 + i its place i -/
def inW (W : List Nat) (k i : Nat) : Bool := W.contains (k * 1000) || W.contains (k * 1000 + 1 + i)
def Fr (W : List Nat) (g g' : AG) : Prop := ∀ k i, inW W k i = false → g' k i = g k i
def KpG {α : Type} (W : List Nat) (g : AG) (π : α → AG) (o : Option α) : Prop := ∀ r, o = some r → Fr W g (π r)
theorem Fr.rf {W : List Nat} {g : AG} : Fr W g g := fun _ _ _ => rfl
theorem Fr.tr {W : List Nat} {a b c : AG} (h1 : Fr W a b) (h2 : Fr W b c) : Fr W a c := fun k i h => (h2 k i h).trans (h1 k i h)
theorem inW_mono {A B : List Nat} (h : A.all (fun x => B.contains x) = true) {k i : Nat} (hb : inW B k i = false) : inW A k i = false := by
  have hs : ∀ x, A.contains x = true → B.contains x = true := fun x hx => List.all_eq_true.mp h x (List.contains_iff_mem.mp hx)
  unfold inW at hb ⊢
  rw [Bool.or_eq_false_iff] at hb ⊢
  refine ⟨?_, ?_⟩
  · cases q : A.contains (k * 1000) with
    | false => rfl
    | true => exact absurd (hs _ q) (by rw [hb.1]; decide)
  · cases q : A.contains (k * 1000 + 1 + i) with
    | false => rfl
    | true => exact absurd (hs _ q) (by rw [hb.2]; decide)
theorem Fr.mono {A B : List Nat} {g g' : AG} (h : A.all (fun x => B.contains x) = true) (hf : Fr A g g') : Fr B g g' := fun k i q => hf k i (inW_mono h q)
theorem Fr.up {W : List Nat} {g : AG} {k i : Nat} {v : Int} (h : inW W k i = true) : Fr W g (up g k i v) := by
  intro a b q
  unfold up
  by_cases e : a = k ∧ b = i
  · rw [e.1, e.2, h] at q
    cases q
  · rw [if_neg e]
theorem Fr.fill {W : List Nat} {g : AG} {k n : Nat} {v : Int} (h : W.contains (k * 1000) = true) : Fr W g (fillG g k n v) := by
  intro a b q
  unfold fillG
  by_cases e : a = k ∧ b < n
  · unfold inW at q
    rw [e.1, h] at q
    cases q
  · rw [if_neg e]
theorem Fr.copy {W : List Nat} {g : AG} {ks sp kd dp n : Nat} (h : W.contains (kd * 1000) = true) : Fr W g (copyG g ks sp kd dp n) := by
  intro a b q
  unfold copyG
  by_cases e : a = kd ∧ dp ≤ b ∧ b < dp + n
  · unfold inW at q
    rw [e.1, h] at q
    cases q
  · rw [if_neg e]
section KPG
variable {α β : Type} {W W1 : List Nat} {g : AG} {π : α → AG} {ρ : β → AG}
theorem KpG.none : KpG W g π none := fun _ h => by cases h
theorem KpG.ret {x : α} (h : π x = g) : KpG W g π (some x) := fun r q => by
  cases q
  rw [h]
  exact Fr.rf
theorem KpG.ite {c : Prop} [Decidable c] {A B : Option α} (h1 : c → KpG W g π A) (h2 : ¬ c → KpG W g π B) : KpG W g π (if c then A else B) := by
  by_cases q : c
  · rw [if_pos q]
    exact h1 q
  · rw [if_neg q]
    exact h2 q
theorem KpG.stp {g1 : AG} {B : AG → Option α} (h : Fr W g g1) (kk : ∀ g2, KpG W g2 π (B g2)) : KpG W g π (some g1 >>= B) := fun r q => h.tr (kk g1 r q)
theorem KpG.up {k i : Nat} {v : Int} {B : AG → Option α} (h : inW W k i = true) (kk : ∀ g2, KpG W g2 π (B g2)) : KpG W g π (some (up g k i v) >>= B) := KpG.stp (Fr.up h) kk
theorem KpG.fill {k n : Nat} {v : Int} {B : AG → Option α} (h : W.contains (k * 1000) = true) (kk : ∀ g2, KpG W g2 π (B g2)) : KpG W g π (some (fillG g k n v) >>= B) := KpG.stp (Fr.fill h) kk
theorem KpG.copy {ks sp kd dp n : Nat} {B : AG → Option α} (h : W.contains (kd * 1000) = true) (kk : ∀ g2, KpG W g2 π (B g2)) : KpG W g π (some (copyG g ks sp kd dp n) >>= B) := KpG.stp (Fr.copy h) kk
theorem KpG.bind {x : Option β} {B : β → Option α} (h : KpG W g ρ x) (kk : ∀ r, KpG W (ρ r) π (B r)) : KpG W g π (x >>= B) := fun r q => by
  obtain ⟨y, e, q⟩ := hC q
  exact (h y e).tr (kk y r q)
theorem KpG.call {x : Option (Int × AG)} {B : Int × AG → Option α} (h : KpG W1 g Prod.snd x) (hs : W1.all (fun x => W.contains x) = true) (kk : ∀ r : Int × AG, KpG W r.2 π (B r)) : KpG W g π (x >>= B) := KpG.bind (fun r q => (h r q).mono hs) kk
theorem KpG.tail {x : Option (Int × AG)} (h : KpG W1 g Prod.snd x) (hs : W1.all (fun x => W.contains x) = true) : KpG W g Prod.snd x := fun r q => (h r q).mono hs
theorem KpG.int {x : Option β} {B : β → Option α} (kk : ∀ r, KpG W g π (B r)) : KpG W g π (x >>= B) := fun r q => by
  obtain ⟨y, e, q⟩ := hC q
  exact kk y r q
theorem ix_lt9 {x : Int} {n : Nat} (h : 0 ≤ nw x ∧ nw x < n) : ix x < n := by unfold ix; omega
theorem KpG.upM {a : Int} {i : Nat} {v : Int} {B : AG → Option α} (hc : a = 115 ∨ a = 116) (h1 : W.contains 115000 = true) (h2 : W.contains 116000 = true) (kk : ∀ g2, KpG W g2 π (B g2)) : KpG W g π (some (up g a.toNat i v) >>= B) := KpG.stp (Fr.up (by
  rcases hc with rfl | rfl
  · show (W.contains 115000 || _) = true
    rw [h1]; rfl
  · show (W.contains 116000 || _) = true
    rw [h2]; rfl)) kk
theorem KpG.fillM {a : Int} {n : Nat} {v : Int} {B : AG → Option α} (hc : a = 115 ∨ a = 116) (h1 : W.contains 115000 = true) (h2 : W.contains 116000 = true) (kk : ∀ g2, KpG W g2 π (B g2)) : KpG W g π (some (fillG g a.toNat n v) >>= B) := KpG.stp (Fr.fill (by
  rcases hc with rfl | rfl
  · exact h1
  · exact h2)) kk
theorem KpG.upR {b i : Nat} {x v : Int} {B : AG → Option α} (hc : 0 ≤ nw x ∧ nw x < (10 : Nat)) (h1 : ∀ j, j < 10 → W.contains ((b + j) * 1000) = true) (kk : ∀ g2, KpG W g2 π (B g2)) : KpG W g π (some (up g (b + ix x) i v) >>= B) := KpG.stp (Fr.up (by
  unfold inW
  rw [h1 _ (ix_lt9 hc)]
  rfl)) kk
end KPG
def W_M_stretch : List Nat := [118000, 119000, 120000]
theorem M_stretch_fr {x1 : Int} {x2 : Int} {x3 : Int} {x4 : Int} {g : AG} : KpG W_M_stretch g Prod.snd (M_stretch x1 x2 x3 x4 g) := by
  unfold M_stretch
  repeat' (first
    | exact KpG.none
    | exact KpG.ret rfl
    | refine KpG.ite (fun _ => ?_) (fun _ => ?_)
    | refine KpG.up rfl (fun _ => ?_)
    | refine KpG.fill rfl (fun _ => ?_)
    | refine KpG.copy rfl (fun _ => ?_)
    | refine KpG.bind (ρ := fun r : AG => r) ?_ (fun _ => ?_)
    | refine KpG.bind (ρ := fun r : Int × AG => r.2) ?_ (fun _ => ?_)
    | refine KpG.bind (ρ := fun r : Int × Int × AG => r.2.2) ?_ (fun _ => ?_)
    | refine KpG.bind (ρ := fun r : Int × Int × Int × AG => r.2.2.2) ?_ (fun _ => ?_)
    | refine KpG.int (fun _ => ?_))
def W_M_water : List Nat := [117011]
theorem M_water_fr {x1 : Int} {g : AG} : KpG W_M_water g Prod.snd (M_water x1 g) := by
  unfold M_water
  repeat' (first
    | exact KpG.none
    | exact KpG.ret rfl
    | refine KpG.ite (fun _ => ?_) (fun _ => ?_)
    | refine KpG.up rfl (fun _ => ?_)
    | refine KpG.fill rfl (fun _ => ?_)
    | refine KpG.copy rfl (fun _ => ?_)
    | refine KpG.bind (ρ := fun r : AG => r) ?_ (fun _ => ?_)
    | refine KpG.bind (ρ := fun r : Int × AG => r.2) ?_ (fun _ => ?_)
    | refine KpG.bind (ρ := fun r : Int × Int × AG => r.2.2) ?_ (fun _ => ?_)
    | refine KpG.bind (ρ := fun r : Int × Int × Int × AG => r.2.2.2) ?_ (fun _ => ?_)
    | refine KpG.int (fun _ => ?_))
def W_M_stoppage : List Nat := [117012, 121000, 122000, 123000]
theorem M_stoppage_fr {x1 : Int} {x2 : Int} {x3 : Int} {g : AG} : KpG W_M_stoppage g Prod.snd (M_stoppage x1 x2 x3 g) := by
  unfold M_stoppage
  repeat' (first
    | exact KpG.none
    | exact KpG.ret rfl
    | refine KpG.ite (fun _ => ?_) (fun _ => ?_)
    | refine KpG.up rfl (fun _ => ?_)
    | refine KpG.fill rfl (fun _ => ?_)
    | refine KpG.copy rfl (fun _ => ?_)
    | refine KpG.bind (ρ := fun r : AG => r) ?_ (fun _ => ?_)
    | refine KpG.bind (ρ := fun r : Int × AG => r.2) ?_ (fun _ => ?_)
    | refine KpG.bind (ρ := fun r : Int × Int × AG => r.2.2) ?_ (fun _ => ?_)
    | refine KpG.bind (ρ := fun r : Int × Int × Int × AG => r.2.2.2) ?_ (fun _ => ?_)
    | refine KpG.int (fun _ => ?_))
def W_M_boat : List Nat := [117013, 124000, 125000, 126000, 127000]
theorem M_boat_fr {x1 : Int} {x2 : Int} {x3 : Int} {x4 : Int} {g : AG} : KpG W_M_boat g Prod.snd (M_boat x1 x2 x3 x4 g) := by
  unfold M_boat
  repeat' (first
    | exact KpG.none
    | exact KpG.ret rfl
    | refine KpG.ite (fun _ => ?_) (fun _ => ?_)
    | refine KpG.up rfl (fun _ => ?_)
    | refine KpG.fill rfl (fun _ => ?_)
    | refine KpG.copy rfl (fun _ => ?_)
    | refine KpG.bind (ρ := fun r : AG => r) ?_ (fun _ => ?_)
    | refine KpG.bind (ρ := fun r : Int × AG => r.2) ?_ (fun _ => ?_)
    | refine KpG.bind (ρ := fun r : Int × Int × AG => r.2.2) ?_ (fun _ => ?_)
    | refine KpG.bind (ρ := fun r : Int × Int × Int × AG => r.2.2.2) ?_ (fun _ => ?_)
    | refine KpG.int (fun _ => ?_))
def W_M_feed_b : List Nat := [117038, 146000]
set_option synthInstance.maxHeartbeats 2000000 in
theorem M_feed_b_fr {x1 : Int} {x2 : Int} {x3 : Int} {x4 : Int} {x5 : Int} {x6 : Int} {g : AG} : KpG W_M_feed_b g Prod.snd (M_feed_b x1 x2 x3 x4 x5 x6 g) := by
  refine M_feed_b.partial_correctness x1 x2 x3 x4 x5 (fun x6 g r => Fr W_M_feed_b g r.2) ?_ x6 g
  intro fb9 ih x6 g
  show KpG W_M_feed_b g Prod.snd _
  repeat' (first
    | exact KpG.none
    | exact KpG.ret rfl
    | refine KpG.ite (fun _ => ?_) (fun _ => ?_)
    | refine KpG.up rfl (fun _ => ?_)
    | refine KpG.fill rfl (fun _ => ?_)
    | refine KpG.copy rfl (fun _ => ?_)
    | exact ih _ _
    | refine KpG.bind (ρ := fun r : AG => r) ?_ (fun _ => ?_)
    | refine KpG.bind (ρ := fun r : Int × AG => r.2) ?_ (fun _ => ?_)
    | refine KpG.bind (ρ := fun r : Int × Int × AG => r.2.2) ?_ (fun _ => ?_)
    | refine KpG.bind (ρ := fun r : Int × Int × Int × AG => r.2.2.2) ?_ (fun _ => ?_)
    | refine KpG.int (fun _ => ?_))
def W_M_feed : List Nat := [117038, 146000]
theorem M_feed_fr {x1 : Int} {x2 : Int} {x3 : Int} {x4 : Int} {x5 : Int} {g : AG} : KpG W_M_feed g Prod.snd (M_feed x1 x2 x3 x4 x5 g) := by
  unfold M_feed
  repeat' (first
    | exact KpG.none
    | exact KpG.ret rfl
    | refine KpG.ite (fun _ => ?_) (fun _ => ?_)
    | refine KpG.up rfl (fun _ => ?_)
    | refine KpG.fill rfl (fun _ => ?_)
    | refine KpG.copy rfl (fun _ => ?_)
    | refine KpG.call (W1 := W_M_feed_b) (M_feed_b_fr) (by decide +kernel) (fun _ => ?_)
    | exact KpG.tail (W1 := W_M_feed_b) (M_feed_b_fr) (by decide +kernel)
    | refine KpG.bind (ρ := fun r : AG => r) ?_ (fun _ => ?_)
    | refine KpG.bind (ρ := fun r : Int × AG => r.2) ?_ (fun _ => ?_)
    | refine KpG.bind (ρ := fun r : Int × Int × AG => r.2.2) ?_ (fun _ => ?_)
    | refine KpG.bind (ρ := fun r : Int × Int × Int × AG => r.2.2.2) ?_ (fun _ => ?_)
    | refine KpG.int (fun _ => ?_))
def W_M_end : List Nat := [117038]
theorem M_end_fr {x1 : Int} {g : AG} : KpG W_M_end g Prod.snd (M_end x1 g) := by
  unfold M_end
  repeat' (first
    | exact KpG.none
    | exact KpG.ret rfl
    | refine KpG.ite (fun _ => ?_) (fun _ => ?_)
    | refine KpG.up rfl (fun _ => ?_)
    | refine KpG.fill rfl (fun _ => ?_)
    | refine KpG.copy rfl (fun _ => ?_)
    | refine KpG.bind (ρ := fun r : AG => r) ?_ (fun _ => ?_)
    | refine KpG.bind (ρ := fun r : Int × AG => r.2) ?_ (fun _ => ?_)
    | refine KpG.bind (ρ := fun r : Int × Int × AG => r.2.2) ?_ (fun _ => ?_)
    | refine KpG.bind (ρ := fun r : Int × Int × Int × AG => r.2.2.2) ?_ (fun _ => ?_)
    | refine KpG.int (fun _ => ?_))
def W_M_next0_b : List Nat := [117039, 117040, 117041, 117042]
set_option synthInstance.maxHeartbeats 2000000 in
theorem M_next0_b_fr {tag : Nat} {g : AG} : KpG W_M_next0_b g Prod.snd (M_next0_b tag g) := by
  refine M_next0_b.partial_correctness (fun tag g r => Fr W_M_next0_b g r.2) ?_ tag g
  intro fb9 ih tag g
  show KpG W_M_next0_b g Prod.snd _
  repeat' (first
    | exact KpG.none
    | exact KpG.ret rfl
    | refine KpG.ite (fun _ => ?_) (fun _ => ?_)
    | refine KpG.up rfl (fun _ => ?_)
    | refine KpG.fill rfl (fun _ => ?_)
    | refine KpG.copy rfl (fun _ => ?_)
    | exact ih _ _
    | refine KpG.bind (ρ := fun r : AG => r) ?_ (fun _ => ?_)
    | refine KpG.bind (ρ := fun r : Int × AG => r.2) ?_ (fun _ => ?_)
    | refine KpG.bind (ρ := fun r : Int × Int × AG => r.2.2) ?_ (fun _ => ?_)
    | refine KpG.bind (ρ := fun r : Int × Int × Int × AG => r.2.2.2) ?_ (fun _ => ?_)
    | refine KpG.int (fun _ => ?_))
def W_M_next0 : List Nat := [117039, 117040, 117041, 117042]
theorem M_next0_fr {g : AG} : KpG W_M_next0 g Prod.snd (M_next0 g) := by
  unfold M_next0
  repeat' (first
    | exact KpG.none
    | exact KpG.ret rfl
    | refine KpG.ite (fun _ => ?_) (fun _ => ?_)
    | refine KpG.up rfl (fun _ => ?_)
    | refine KpG.fill rfl (fun _ => ?_)
    | refine KpG.copy rfl (fun _ => ?_)
    | refine KpG.call (W1 := W_M_next0_b) (M_next0_b_fr) (by decide +kernel) (fun _ => ?_)
    | exact KpG.tail (W1 := W_M_next0_b) (M_next0_b_fr) (by decide +kernel)
    | refine KpG.bind (ρ := fun r : AG => r) ?_ (fun _ => ?_)
    | refine KpG.bind (ρ := fun r : Int × AG => r.2) ?_ (fun _ => ?_)
    | refine KpG.bind (ρ := fun r : Int × Int × AG => r.2.2) ?_ (fun _ => ?_)
    | refine KpG.bind (ρ := fun r : Int × Int × Int × AG => r.2.2.2) ?_ (fun _ => ?_)
    | refine KpG.int (fun _ => ?_))
def W_M_bad : List Nat := [117043, 117044]
theorem M_bad_fr {x1 : Int} {g : AG} : KpG W_M_bad g Prod.snd (M_bad x1 g) := by
  unfold M_bad
  repeat' (first
    | exact KpG.none
    | exact KpG.ret rfl
    | refine KpG.ite (fun _ => ?_) (fun _ => ?_)
    | refine KpG.up rfl (fun _ => ?_)
    | refine KpG.fill rfl (fun _ => ?_)
    | refine KpG.copy rfl (fun _ => ?_)
    | refine KpG.bind (ρ := fun r : AG => r) ?_ (fun _ => ?_)
    | refine KpG.bind (ρ := fun r : Int × AG => r.2) ?_ (fun _ => ?_)
    | refine KpG.bind (ρ := fun r : Int × Int × AG => r.2.2) ?_ (fun _ => ?_)
    | refine KpG.bind (ρ := fun r : Int × Int × Int × AG => r.2.2.2) ?_ (fun _ => ?_)
    | refine KpG.int (fun _ => ?_))
def W_M_lay : List Nat := [117037, 141000]
theorem M_lay_fr {x1 : Int} {x2 : Int} {g : AG} : KpG W_M_lay g Prod.snd (M_lay x1 x2 g) := by
  unfold M_lay
  repeat' (first
    | exact KpG.none
    | exact KpG.ret rfl
    | refine KpG.ite (fun _ => ?_) (fun _ => ?_)
    | refine KpG.up rfl (fun _ => ?_)
    | refine KpG.fill rfl (fun _ => ?_)
    | refine KpG.copy rfl (fun _ => ?_)
    | refine KpG.bind (ρ := fun r : AG => r) ?_ (fun _ => ?_)
    | refine KpG.bind (ρ := fun r : Int × AG => r.2) ?_ (fun _ => ?_)
    | refine KpG.bind (ρ := fun r : Int × Int × AG => r.2.2) ?_ (fun _ => ?_)
    | refine KpG.bind (ρ := fun r : Int × Int × Int × AG => r.2.2.2) ?_ (fun _ => ?_)
    | refine KpG.int (fun _ => ?_))
def W_M_unit_b : List Nat := [117037, 117039, 117040, 117041, 117042, 141000]
theorem M_unit_b_fr {x1 : Int} {g : AG} : KpG W_M_unit_b g Prod.snd (M_unit_b x1 g) := by
  unfold M_unit_b
  repeat' (first
    | exact KpG.none
    | exact KpG.ret rfl
    | refine KpG.ite (fun _ => ?_) (fun _ => ?_)
    | refine KpG.up rfl (fun _ => ?_)
    | refine KpG.fill rfl (fun _ => ?_)
    | refine KpG.copy rfl (fun _ => ?_)
    | refine KpG.call (W1 := W_M_lay) (M_lay_fr) (by decide +kernel) (fun _ => ?_)
    | exact KpG.tail (W1 := W_M_lay) (M_lay_fr) (by decide +kernel)
    | refine KpG.call (W1 := W_M_next0) (M_next0_fr) (by decide +kernel) (fun _ => ?_)
    | exact KpG.tail (W1 := W_M_next0) (M_next0_fr) (by decide +kernel)
    | refine KpG.bind (ρ := fun r : AG => r) ?_ (fun _ => ?_)
    | refine KpG.bind (ρ := fun r : Int × AG => r.2) ?_ (fun _ => ?_)
    | refine KpG.bind (ρ := fun r : Int × Int × AG => r.2.2) ?_ (fun _ => ?_)
    | refine KpG.bind (ρ := fun r : Int × Int × Int × AG => r.2.2.2) ?_ (fun _ => ?_)
    | refine KpG.int (fun _ => ?_))
def W_M_unit : List Nat := [117037, 117039, 117040, 117041, 117042, 117043, 117044, 141000]
theorem M_unit_fr {g : AG} : KpG W_M_unit g Prod.snd (M_unit g) := by
  unfold M_unit
  repeat' (first
    | exact KpG.none
    | exact KpG.ret rfl
    | refine KpG.ite (fun _ => ?_) (fun _ => ?_)
    | refine KpG.up rfl (fun _ => ?_)
    | refine KpG.fill rfl (fun _ => ?_)
    | refine KpG.copy rfl (fun _ => ?_)
    | refine KpG.call (W1 := W_M_unit_b) (M_unit_b_fr) (by decide +kernel) (fun _ => ?_)
    | exact KpG.tail (W1 := W_M_unit_b) (M_unit_b_fr) (by decide +kernel)
    | refine KpG.call (W1 := W_M_bad) (M_bad_fr) (by decide +kernel) (fun _ => ?_)
    | exact KpG.tail (W1 := W_M_bad) (M_bad_fr) (by decide +kernel)
    | refine KpG.bind (ρ := fun r : AG => r) ?_ (fun _ => ?_)
    | refine KpG.bind (ρ := fun r : Int × AG => r.2) ?_ (fun _ => ?_)
    | refine KpG.bind (ρ := fun r : Int × Int × AG => r.2.2) ?_ (fun _ => ?_)
    | refine KpG.bind (ρ := fun r : Int × Int × Int × AG => r.2.2.2) ?_ (fun _ => ?_)
    | refine KpG.int (fun _ => ?_))
def W_M_number : List Nat := [117039, 117040, 117041, 117042, 117043, 117044]
theorem M_number_fr {x1 : Int} {x2 : Int} {g : AG} : KpG W_M_number g Prod.snd (M_number x1 x2 g) := by
  unfold M_number
  repeat' (first
    | exact KpG.none
    | exact KpG.ret rfl
    | refine KpG.ite (fun _ => ?_) (fun _ => ?_)
    | refine KpG.up rfl (fun _ => ?_)
    | refine KpG.fill rfl (fun _ => ?_)
    | refine KpG.copy rfl (fun _ => ?_)
    | refine KpG.call (W1 := W_M_bad) (M_bad_fr) (by decide +kernel) (fun _ => ?_)
    | exact KpG.tail (W1 := W_M_bad) (M_bad_fr) (by decide +kernel)
    | refine KpG.call (W1 := W_M_next0) (M_next0_fr) (by decide +kernel) (fun _ => ?_)
    | exact KpG.tail (W1 := W_M_next0) (M_next0_fr) (by decide +kernel)
    | refine KpG.bind (ρ := fun r : AG => r) ?_ (fun _ => ?_)
    | refine KpG.bind (ρ := fun r : Int × AG => r.2) ?_ (fun _ => ?_)
    | refine KpG.bind (ρ := fun r : Int × Int × AG => r.2.2) ?_ (fun _ => ?_)
    | refine KpG.bind (ρ := fun r : Int × Int × Int × AG => r.2.2.2) ?_ (fun _ => ?_)
    | refine KpG.int (fun _ => ?_))
def W_M_product_b : List Nat := [117037, 117039, 117040, 117041, 117042, 117043, 117044, 141000]
set_option synthInstance.maxHeartbeats 2000000 in
theorem M_product_b_fr {tag : Nat} {g : AG} : KpG W_M_product_b g Prod.snd (M_product_b tag g) := by
  refine M_product_b.partial_correctness (fun tag g r => Fr W_M_product_b g r.2) ?_ tag g
  intro fb9 ih tag g
  show KpG W_M_product_b g Prod.snd _
  repeat' (first
    | exact KpG.none
    | exact KpG.ret rfl
    | refine KpG.ite (fun _ => ?_) (fun _ => ?_)
    | refine KpG.up rfl (fun _ => ?_)
    | refine KpG.fill rfl (fun _ => ?_)
    | refine KpG.copy rfl (fun _ => ?_)
    | refine KpG.call (W1 := W_M_next0) (M_next0_fr) (by decide +kernel) (fun _ => ?_)
    | exact KpG.tail (W1 := W_M_next0) (M_next0_fr) (by decide +kernel)
    | refine KpG.call (W1 := W_M_unit) (M_unit_fr) (by decide +kernel) (fun _ => ?_)
    | exact KpG.tail (W1 := W_M_unit) (M_unit_fr) (by decide +kernel)
    | refine KpG.call (W1 := W_M_lay) (M_lay_fr) (by decide +kernel) (fun _ => ?_)
    | exact KpG.tail (W1 := W_M_lay) (M_lay_fr) (by decide +kernel)
    | refine KpG.call (W1 := W_M_number) (M_number_fr) (by decide +kernel) (fun _ => ?_)
    | exact KpG.tail (W1 := W_M_number) (M_number_fr) (by decide +kernel)
    | exact ih _ _
    | refine KpG.bind (ρ := fun r : AG => r) ?_ (fun _ => ?_)
    | refine KpG.bind (ρ := fun r : Int × AG => r.2) ?_ (fun _ => ?_)
    | refine KpG.bind (ρ := fun r : Int × Int × AG => r.2.2) ?_ (fun _ => ?_)
    | refine KpG.bind (ρ := fun r : Int × Int × Int × AG => r.2.2.2) ?_ (fun _ => ?_)
    | refine KpG.int (fun _ => ?_))
def W_M_product : List Nat := [117037, 117039, 117040, 117041, 117042, 117043, 117044, 141000]
theorem M_product_fr {g : AG} : KpG W_M_product g Prod.snd (M_product g) := by
  unfold M_product
  repeat' (first
    | exact KpG.none
    | exact KpG.ret rfl
    | refine KpG.ite (fun _ => ?_) (fun _ => ?_)
    | refine KpG.up rfl (fun _ => ?_)
    | refine KpG.fill rfl (fun _ => ?_)
    | refine KpG.copy rfl (fun _ => ?_)
    | refine KpG.call (W1 := W_M_unit) (M_unit_fr) (by decide +kernel) (fun _ => ?_)
    | exact KpG.tail (W1 := W_M_unit) (M_unit_fr) (by decide +kernel)
    | refine KpG.call (W1 := W_M_product_b) (M_product_b_fr) (by decide +kernel) (fun _ => ?_)
    | exact KpG.tail (W1 := W_M_product_b) (M_product_b_fr) (by decide +kernel)
    | refine KpG.bind (ρ := fun r : AG => r) ?_ (fun _ => ?_)
    | refine KpG.bind (ρ := fun r : Int × AG => r.2) ?_ (fun _ => ?_)
    | refine KpG.bind (ρ := fun r : Int × Int × AG => r.2.2) ?_ (fun _ => ?_)
    | refine KpG.bind (ρ := fun r : Int × Int × Int × AG => r.2.2.2) ?_ (fun _ => ?_)
    | refine KpG.int (fun _ => ?_))
def W_M_sumUp_b : List Nat := [117037, 117039, 117040, 117041, 117042, 117043, 117044, 141000]
set_option synthInstance.maxHeartbeats 2000000 in
theorem M_sumUp_b_fr {tag : Nat} {g : AG} : KpG W_M_sumUp_b g Prod.snd (M_sumUp_b tag g) := by
  refine M_sumUp_b.partial_correctness (fun tag g r => Fr W_M_sumUp_b g r.2) ?_ tag g
  intro fb9 ih tag g
  show KpG W_M_sumUp_b g Prod.snd _
  repeat' (first
    | exact KpG.none
    | exact KpG.ret rfl
    | refine KpG.ite (fun _ => ?_) (fun _ => ?_)
    | refine KpG.up rfl (fun _ => ?_)
    | refine KpG.fill rfl (fun _ => ?_)
    | refine KpG.copy rfl (fun _ => ?_)
    | refine KpG.call (W1 := W_M_next0) (M_next0_fr) (by decide +kernel) (fun _ => ?_)
    | exact KpG.tail (W1 := W_M_next0) (M_next0_fr) (by decide +kernel)
    | refine KpG.call (W1 := W_M_product) (M_product_fr) (by decide +kernel) (fun _ => ?_)
    | exact KpG.tail (W1 := W_M_product) (M_product_fr) (by decide +kernel)
    | refine KpG.call (W1 := W_M_lay) (M_lay_fr) (by decide +kernel) (fun _ => ?_)
    | exact KpG.tail (W1 := W_M_lay) (M_lay_fr) (by decide +kernel)
    | exact ih _ _
    | refine KpG.bind (ρ := fun r : AG => r) ?_ (fun _ => ?_)
    | refine KpG.bind (ρ := fun r : Int × AG => r.2) ?_ (fun _ => ?_)
    | refine KpG.bind (ρ := fun r : Int × Int × AG => r.2.2) ?_ (fun _ => ?_)
    | refine KpG.bind (ρ := fun r : Int × Int × Int × AG => r.2.2.2) ?_ (fun _ => ?_)
    | refine KpG.int (fun _ => ?_))
def W_M_sumUp : List Nat := [117037, 117039, 117040, 117041, 117042, 117043, 117044, 141000]
theorem M_sumUp_fr {g : AG} : KpG W_M_sumUp g Prod.snd (M_sumUp g) := by
  unfold M_sumUp
  repeat' (first
    | exact KpG.none
    | exact KpG.ret rfl
    | refine KpG.ite (fun _ => ?_) (fun _ => ?_)
    | refine KpG.up rfl (fun _ => ?_)
    | refine KpG.fill rfl (fun _ => ?_)
    | refine KpG.copy rfl (fun _ => ?_)
    | refine KpG.call (W1 := W_M_product) (M_product_fr) (by decide +kernel) (fun _ => ?_)
    | exact KpG.tail (W1 := W_M_product) (M_product_fr) (by decide +kernel)
    | refine KpG.call (W1 := W_M_sumUp_b) (M_sumUp_b_fr) (by decide +kernel) (fun _ => ?_)
    | exact KpG.tail (W1 := W_M_sumUp_b) (M_sumUp_b_fr) (by decide +kernel)
    | refine KpG.bind (ρ := fun r : AG => r) ?_ (fun _ => ?_)
    | refine KpG.bind (ρ := fun r : Int × AG => r.2) ?_ (fun _ => ?_)
    | refine KpG.bind (ρ := fun r : Int × Int × AG => r.2.2) ?_ (fun _ => ?_)
    | refine KpG.bind (ρ := fun r : Int × Int × Int × AG => r.2.2.2) ?_ (fun _ => ?_)
    | refine KpG.int (fun _ => ?_))
def W_M_hours_117_136_137 : List Nat := [117039, 117040, 117041, 117042, 117043, 117044, 136000]
theorem M_hours_117_136_137_fr {x2 : Int} {x4 : Int} {g : AG} : KpG W_M_hours_117_136_137 g Prod.snd (M_hours_117_136_137 x2 x4 g) := by
  unfold M_hours_117_136_137
  repeat' (first
    | exact KpG.none
    | exact KpG.ret rfl
    | refine KpG.ite (fun _ => ?_) (fun _ => ?_)
    | refine KpG.up rfl (fun _ => ?_)
    | refine KpG.fill rfl (fun _ => ?_)
    | refine KpG.copy rfl (fun _ => ?_)
    | refine KpG.call (W1 := W_M_number) (M_number_fr) (by decide +kernel) (fun _ => ?_)
    | exact KpG.tail (W1 := W_M_number) (M_number_fr) (by decide +kernel)
    | refine KpG.bind (ρ := fun r : AG => r) ?_ (fun _ => ?_)
    | refine KpG.bind (ρ := fun r : Int × AG => r.2) ?_ (fun _ => ?_)
    | refine KpG.bind (ρ := fun r : Int × Int × AG => r.2.2) ?_ (fun _ => ?_)
    | refine KpG.bind (ρ := fun r : Int × Int × Int × AG => r.2.2.2) ?_ (fun _ => ?_)
    | refine KpG.int (fun _ => ?_))
def W_M_hours_117_143_143 : List Nat := [117039, 117040, 117041, 117042, 117043, 117044, 143000]
theorem M_hours_117_143_143_fr {x2 : Int} {x4 : Int} {g : AG} : KpG W_M_hours_117_143_143 g Prod.snd (M_hours_117_143_143 x2 x4 g) := by
  unfold M_hours_117_143_143
  repeat' (first
    | exact KpG.none
    | exact KpG.ret rfl
    | refine KpG.ite (fun _ => ?_) (fun _ => ?_)
    | refine KpG.up rfl (fun _ => ?_)
    | refine KpG.fill rfl (fun _ => ?_)
    | refine KpG.copy rfl (fun _ => ?_)
    | refine KpG.call (W1 := W_M_number) (M_number_fr) (by decide +kernel) (fun _ => ?_)
    | exact KpG.tail (W1 := W_M_number) (M_number_fr) (by decide +kernel)
    | refine KpG.bind (ρ := fun r : AG => r) ?_ (fun _ => ?_)
    | refine KpG.bind (ρ := fun r : Int × AG => r.2) ?_ (fun _ => ?_)
    | refine KpG.bind (ρ := fun r : Int × Int × AG => r.2.2) ?_ (fun _ => ?_)
    | refine KpG.bind (ρ := fun r : Int × Int × Int × AG => r.2.2.2) ?_ (fun _ => ?_)
    | refine KpG.int (fun _ => ?_))
def W_M_aTunnel_b : List Nat := [117039, 117040, 117041, 117042, 117043, 117044, 143000, 145000]
theorem M_aTunnel_b_fr {x1 : Int} {g : AG} : KpG W_M_aTunnel_b g Prod.snd (M_aTunnel_b x1 g) := by
  unfold M_aTunnel_b
  repeat' (first
    | exact KpG.none
    | exact KpG.ret rfl
    | refine KpG.ite (fun _ => ?_) (fun _ => ?_)
    | refine KpG.up rfl (fun _ => ?_)
    | refine KpG.fill rfl (fun _ => ?_)
    | refine KpG.copy rfl (fun _ => ?_)
    | refine KpG.call (W1 := W_M_next0) (M_next0_fr) (by decide +kernel) (fun _ => ?_)
    | exact KpG.tail (W1 := W_M_next0) (M_next0_fr) (by decide +kernel)
    | refine KpG.call (W1 := W_M_hours_117_143_143) (M_hours_117_143_143_fr) (by decide +kernel) (fun _ => ?_)
    | exact KpG.tail (W1 := W_M_hours_117_143_143) (M_hours_117_143_143_fr) (by decide +kernel)
    | refine KpG.call (W1 := W_M_bad) (M_bad_fr) (by decide +kernel) (fun _ => ?_)
    | exact KpG.tail (W1 := W_M_bad) (M_bad_fr) (by decide +kernel)
    | refine KpG.bind (ρ := fun r : AG => r) ?_ (fun _ => ?_)
    | refine KpG.bind (ρ := fun r : Int × AG => r.2) ?_ (fun _ => ?_)
    | refine KpG.bind (ρ := fun r : Int × Int × AG => r.2.2) ?_ (fun _ => ?_)
    | refine KpG.bind (ρ := fun r : Int × Int × Int × AG => r.2.2.2) ?_ (fun _ => ?_)
    | refine KpG.int (fun _ => ?_))
def W_M_aTunnel : List Nat := [117039, 117040, 117041, 117042, 117043, 117044, 143000, 145000]
theorem M_aTunnel_fr {g : AG} : KpG W_M_aTunnel g Prod.snd (M_aTunnel g) := by
  unfold M_aTunnel
  repeat' (first
    | exact KpG.none
    | exact KpG.ret rfl
    | refine KpG.ite (fun _ => ?_) (fun _ => ?_)
    | refine KpG.up rfl (fun _ => ?_)
    | refine KpG.fill rfl (fun _ => ?_)
    | refine KpG.copy rfl (fun _ => ?_)
    | refine KpG.call (W1 := W_M_number) (M_number_fr) (by decide +kernel) (fun _ => ?_)
    | exact KpG.tail (W1 := W_M_number) (M_number_fr) (by decide +kernel)
    | refine KpG.call (W1 := W_M_aTunnel_b) (M_aTunnel_b_fr) (by decide +kernel) (fun _ => ?_)
    | exact KpG.tail (W1 := W_M_aTunnel_b) (M_aTunnel_b_fr) (by decide +kernel)
    | refine KpG.call (W1 := W_M_bad) (M_bad_fr) (by decide +kernel) (fun _ => ?_)
    | exact KpG.tail (W1 := W_M_bad) (M_bad_fr) (by decide +kernel)
    | refine KpG.bind (ρ := fun r : AG => r) ?_ (fun _ => ?_)
    | refine KpG.bind (ρ := fun r : Int × AG => r.2) ?_ (fun _ => ?_)
    | refine KpG.bind (ρ := fun r : Int × Int × AG => r.2.2) ?_ (fun _ => ?_)
    | refine KpG.bind (ρ := fun r : Int × Int × Int × AG => r.2.2.2) ?_ (fun _ => ?_)
    | refine KpG.int (fun _ => ?_))
def W_M_need : List Nat := [117039, 117040, 117041, 117042, 117043, 117044]
theorem M_need_fr {x1 : Int} {g : AG} : KpG W_M_need g Prod.snd (M_need x1 g) := by
  unfold M_need
  repeat' (first
    | exact KpG.none
    | exact KpG.ret rfl
    | refine KpG.ite (fun _ => ?_) (fun _ => ?_)
    | refine KpG.up rfl (fun _ => ?_)
    | refine KpG.fill rfl (fun _ => ?_)
    | refine KpG.copy rfl (fun _ => ?_)
    | refine KpG.call (W1 := W_M_next0) (M_next0_fr) (by decide +kernel) (fun _ => ?_)
    | exact KpG.tail (W1 := W_M_next0) (M_next0_fr) (by decide +kernel)
    | refine KpG.call (W1 := W_M_bad) (M_bad_fr) (by decide +kernel) (fun _ => ?_)
    | exact KpG.tail (W1 := W_M_bad) (M_bad_fr) (by decide +kernel)
    | refine KpG.bind (ρ := fun r : AG => r) ?_ (fun _ => ?_)
    | refine KpG.bind (ρ := fun r : Int × AG => r.2) ?_ (fun _ => ?_)
    | refine KpG.bind (ρ := fun r : Int × Int × AG => r.2.2) ?_ (fun _ => ?_)
    | refine KpG.bind (ρ := fun r : Int × Int × Int × AG => r.2.2.2) ?_ (fun _ => ?_)
    | refine KpG.int (fun _ => ?_))
def W_M_every_b : List Nat := [117037, 117039, 117040, 117041, 117042, 117043, 117044, 117046, 141000]
set_option synthInstance.maxHeartbeats 2000000 in
theorem M_every_b_fr {rec : AG → Option (Int × AG)} {g : AG} (hrec : ∀ (g : AG), KpG [117037, 117039, 117040, 117041, 117042, 117043, 117044, 117046, 141000] g Prod.snd (rec g)) : KpG W_M_every_b g Prod.snd (M_every_b rec g) := by
  refine M_every_b.partial_correctness rec (fun g r => Fr W_M_every_b g r.2) ?_ g
  intro fb9 ih g
  show KpG W_M_every_b g Prod.snd _
  repeat' (first
    | exact KpG.none
    | exact KpG.ret rfl
    | refine KpG.ite (fun _ => ?_) (fun _ => ?_)
    | refine KpG.up rfl (fun _ => ?_)
    | refine KpG.fill rfl (fun _ => ?_)
    | refine KpG.copy rfl (fun _ => ?_)
    | refine KpG.call (W1 := W_M_next0) (M_next0_fr) (by decide +kernel) (fun _ => ?_)
    | exact KpG.tail (W1 := W_M_next0) (M_next0_fr) (by decide +kernel)
    | refine KpG.call (W1 := W_M_lay) (M_lay_fr) (by decide +kernel) (fun _ => ?_)
    | exact KpG.tail (W1 := W_M_lay) (M_lay_fr) (by decide +kernel)
    | refine KpG.call (W1 := [117037, 117039, 117040, 117041, 117042, 117043, 117044, 117046, 141000]) (hrec _) (by decide +kernel) (fun _ => ?_)
    | exact KpG.tail (W1 := [117037, 117039, 117040, 117041, 117042, 117043, 117044, 117046, 141000]) (hrec _) (by decide +kernel)
    | exact ih _
    | refine KpG.bind (ρ := fun r : AG => r) ?_ (fun _ => ?_)
    | refine KpG.bind (ρ := fun r : Int × AG => r.2) ?_ (fun _ => ?_)
    | refine KpG.bind (ρ := fun r : Int × Int × AG => r.2.2) ?_ (fun _ => ?_)
    | refine KpG.bind (ρ := fun r : Int × Int × Int × AG => r.2.2.2) ?_ (fun _ => ?_)
    | refine KpG.int (fun _ => ?_))
def W_M_every : List Nat := [117037, 117039, 117040, 117041, 117042, 117043, 117044, 117046, 141000]
theorem M_every_fr {rec : AG → Option (Int × AG)} {g : AG} (hrec : ∀ (g : AG), KpG [117037, 117039, 117040, 117041, 117042, 117043, 117044, 117046, 141000] g Prod.snd (rec g)) : KpG W_M_every g Prod.snd (M_every rec g) := by
  unfold M_every
  repeat' (first
    | exact KpG.none
    | exact KpG.ret rfl
    | refine KpG.ite (fun _ => ?_) (fun _ => ?_)
    | refine KpG.up rfl (fun _ => ?_)
    | refine KpG.fill rfl (fun _ => ?_)
    | refine KpG.copy rfl (fun _ => ?_)
    | refine KpG.call (W1 := W_M_every_b) (M_every_b_fr hrec) (by decide +kernel) (fun _ => ?_)
    | exact KpG.tail (W1 := W_M_every_b) (M_every_b_fr hrec) (by decide +kernel)
    | refine KpG.call (W1 := [117037, 117039, 117040, 117041, 117042, 117043, 117044, 117046, 141000]) (hrec _) (by decide +kernel) (fun _ => ?_)
    | exact KpG.tail (W1 := [117037, 117039, 117040, 117041, 117042, 117043, 117044, 117046, 141000]) (hrec _) (by decide +kernel)
    | refine KpG.bind (ρ := fun r : AG => r) ?_ (fun _ => ?_)
    | refine KpG.bind (ρ := fun r : Int × AG => r.2) ?_ (fun _ => ?_)
    | refine KpG.bind (ρ := fun r : Int × Int × AG => r.2.2) ?_ (fun _ => ?_)
    | refine KpG.bind (ρ := fun r : Int × Int × Int × AG => r.2.2.2) ?_ (fun _ => ?_)
    | refine KpG.int (fun _ => ?_))
def W_M_any_b : List Nat := [117037, 117039, 117040, 117041, 117042, 117043, 117044, 117046, 141000]
set_option synthInstance.maxHeartbeats 2000000 in
theorem M_any_b_fr {rec : AG → Option (Int × AG)} {g : AG} (hrec : ∀ (g : AG), KpG [117037, 117039, 117040, 117041, 117042, 117043, 117044, 117046, 141000] g Prod.snd (rec g)) : KpG W_M_any_b g Prod.snd (M_any_b rec g) := by
  refine M_any_b.partial_correctness rec (fun g r => Fr W_M_any_b g r.2) ?_ g
  intro fb9 ih g
  show KpG W_M_any_b g Prod.snd _
  repeat' (first
    | exact KpG.none
    | exact KpG.ret rfl
    | refine KpG.ite (fun _ => ?_) (fun _ => ?_)
    | refine KpG.up rfl (fun _ => ?_)
    | refine KpG.fill rfl (fun _ => ?_)
    | refine KpG.copy rfl (fun _ => ?_)
    | refine KpG.call (W1 := W_M_next0) (M_next0_fr) (by decide +kernel) (fun _ => ?_)
    | exact KpG.tail (W1 := W_M_next0) (M_next0_fr) (by decide +kernel)
    | refine KpG.call (W1 := W_M_every) (M_every_fr hrec) (by decide +kernel) (fun _ => ?_)
    | exact KpG.tail (W1 := W_M_every) (M_every_fr hrec) (by decide +kernel)
    | refine KpG.call (W1 := W_M_lay) (M_lay_fr) (by decide +kernel) (fun _ => ?_)
    | exact KpG.tail (W1 := W_M_lay) (M_lay_fr) (by decide +kernel)
    | refine KpG.call (W1 := [117037, 117039, 117040, 117041, 117042, 117043, 117044, 117046, 141000]) (hrec _) (by decide +kernel) (fun _ => ?_)
    | exact KpG.tail (W1 := [117037, 117039, 117040, 117041, 117042, 117043, 117044, 117046, 141000]) (hrec _) (by decide +kernel)
    | exact ih _
    | refine KpG.bind (ρ := fun r : AG => r) ?_ (fun _ => ?_)
    | refine KpG.bind (ρ := fun r : Int × AG => r.2) ?_ (fun _ => ?_)
    | refine KpG.bind (ρ := fun r : Int × Int × AG => r.2.2) ?_ (fun _ => ?_)
    | refine KpG.bind (ρ := fun r : Int × Int × Int × AG => r.2.2.2) ?_ (fun _ => ?_)
    | refine KpG.int (fun _ => ?_))
def W_M_any : List Nat := [117037, 117039, 117040, 117041, 117042, 117043, 117044, 117046, 141000]
theorem M_any_fr {rec : AG → Option (Int × AG)} {g : AG} (hrec : ∀ (g : AG), KpG [117037, 117039, 117040, 117041, 117042, 117043, 117044, 117046, 141000] g Prod.snd (rec g)) : KpG W_M_any g Prod.snd (M_any rec g) := by
  unfold M_any
  repeat' (first
    | exact KpG.none
    | exact KpG.ret rfl
    | refine KpG.ite (fun _ => ?_) (fun _ => ?_)
    | refine KpG.up rfl (fun _ => ?_)
    | refine KpG.fill rfl (fun _ => ?_)
    | refine KpG.copy rfl (fun _ => ?_)
    | refine KpG.call (W1 := W_M_every) (M_every_fr hrec) (by decide +kernel) (fun _ => ?_)
    | exact KpG.tail (W1 := W_M_every) (M_every_fr hrec) (by decide +kernel)
    | refine KpG.call (W1 := W_M_any_b) (M_any_b_fr hrec) (by decide +kernel) (fun _ => ?_)
    | exact KpG.tail (W1 := W_M_any_b) (M_any_b_fr hrec) (by decide +kernel)
    | refine KpG.call (W1 := [117037, 117039, 117040, 117041, 117042, 117043, 117044, 117046, 141000]) (hrec _) (by decide +kernel) (fun _ => ?_)
    | exact KpG.tail (W1 := [117037, 117039, 117040, 117041, 117042, 117043, 117044, 117046, 141000]) (hrec _) (by decide +kernel)
    | refine KpG.bind (ρ := fun r : AG => r) ?_ (fun _ => ?_)
    | refine KpG.bind (ρ := fun r : Int × AG => r.2) ?_ (fun _ => ?_)
    | refine KpG.bind (ρ := fun r : Int × Int × AG => r.2.2) ?_ (fun _ => ?_)
    | refine KpG.bind (ρ := fun r : Int × Int × Int × AG => r.2.2.2) ?_ (fun _ => ?_)
    | refine KpG.int (fun _ => ?_))
def W_M_opens : List Nat := [117039, 117040, 117041, 117042, 117043, 117044, 117046]
theorem M_opens_fr {g : AG} : KpG W_M_opens g Prod.snd (M_opens g) := by
  unfold M_opens
  repeat' (first
    | exact KpG.none
    | exact KpG.ret rfl
    | refine KpG.ite (fun _ => ?_) (fun _ => ?_)
    | refine KpG.up rfl (fun _ => ?_)
    | refine KpG.fill rfl (fun _ => ?_)
    | refine KpG.copy rfl (fun _ => ?_)
    | refine KpG.call (W1 := W_M_bad) (M_bad_fr) (by decide +kernel) (fun _ => ?_)
    | exact KpG.tail (W1 := W_M_bad) (M_bad_fr) (by decide +kernel)
    | refine KpG.call (W1 := W_M_next0) (M_next0_fr) (by decide +kernel) (fun _ => ?_)
    | exact KpG.tail (W1 := W_M_next0) (M_next0_fr) (by decide +kernel)
    | refine KpG.bind (ρ := fun r : AG => r) ?_ (fun _ => ?_)
    | refine KpG.bind (ρ := fun r : Int × AG => r.2) ?_ (fun _ => ?_)
    | refine KpG.bind (ρ := fun r : Int × Int × AG => r.2.2) ?_ (fun _ => ?_)
    | refine KpG.bind (ρ := fun r : Int × Int × Int × AG => r.2.2.2) ?_ (fun _ => ?_)
    | refine KpG.int (fun _ => ?_))
def W_M_one_s : List Nat := [117037, 117039, 117040, 117041, 117042, 117043, 117044, 117046, 141000]
theorem M_one_s_fr {rec : AG → Option (Int × AG)} {g : AG} (hrec : ∀ (g : AG), KpG [117037, 117039, 117040, 117041, 117042, 117043, 117044, 117046, 141000] g Prod.snd (rec g)) : KpG W_M_one_s g Prod.snd (M_one_s rec g) := by
  unfold M_one_s
  repeat' (first
    | exact KpG.none
    | exact KpG.ret rfl
    | refine KpG.ite (fun _ => ?_) (fun _ => ?_)
    | refine KpG.up rfl (fun _ => ?_)
    | refine KpG.fill rfl (fun _ => ?_)
    | refine KpG.copy rfl (fun _ => ?_)
    | refine KpG.call (W1 := W_M_opens) (M_opens_fr) (by decide +kernel) (fun _ => ?_)
    | exact KpG.tail (W1 := W_M_opens) (M_opens_fr) (by decide +kernel)
    | refine KpG.call (W1 := W_M_lay) (M_lay_fr) (by decide +kernel) (fun _ => ?_)
    | exact KpG.tail (W1 := W_M_lay) (M_lay_fr) (by decide +kernel)
    | refine KpG.call (W1 := W_M_any) (M_any_fr hrec) (by decide +kernel) (fun _ => ?_)
    | exact KpG.tail (W1 := W_M_any) (M_any_fr hrec) (by decide +kernel)
    | refine KpG.call (W1 := W_M_need) (M_need_fr) (by decide +kernel) (fun _ => ?_)
    | exact KpG.tail (W1 := W_M_need) (M_need_fr) (by decide +kernel)
    | refine KpG.call (W1 := W_M_sumUp) (M_sumUp_fr) (by decide +kernel) (fun _ => ?_)
    | exact KpG.tail (W1 := W_M_sumUp) (M_sumUp_fr) (by decide +kernel)
    | refine KpG.call (W1 := W_M_bad) (M_bad_fr) (by decide +kernel) (fun _ => ?_)
    | exact KpG.tail (W1 := W_M_bad) (M_bad_fr) (by decide +kernel)
    | refine KpG.call (W1 := W_M_next0) (M_next0_fr) (by decide +kernel) (fun _ => ?_)
    | exact KpG.tail (W1 := W_M_next0) (M_next0_fr) (by decide +kernel)
    | refine KpG.call (W1 := [117037, 117039, 117040, 117041, 117042, 117043, 117044, 117046, 141000]) (hrec _) (by decide +kernel) (fun _ => ?_)
    | exact KpG.tail (W1 := [117037, 117039, 117040, 117041, 117042, 117043, 117044, 117046, 141000]) (hrec _) (by decide +kernel)
    | refine KpG.bind (ρ := fun r : AG => r) ?_ (fun _ => ?_)
    | refine KpG.bind (ρ := fun r : Int × AG => r.2) ?_ (fun _ => ?_)
    | refine KpG.bind (ρ := fun r : Int × Int × AG => r.2.2) ?_ (fun _ => ?_)
    | refine KpG.bind (ρ := fun r : Int × Int × Int × AG => r.2.2.2) ?_ (fun _ => ?_)
    | refine KpG.int (fun _ => ?_))
def W_M_one : List Nat := [117037, 117039, 117040, 117041, 117042, 117043, 117044, 117046, 141000]
theorem M_one_fr {n : Nat} {g : AG} : KpG W_M_one g Prod.snd (M_one n g) := by
  induction n generalizing g with
  | zero => exact KpG.none
  | succ n ih => exact M_one_s_fr (rec := M_one n) (fun g => ih)
def W_M_aLine_b : List Nat := [117037, 117039, 117040, 117041, 117042, 117043, 117044, 117046, 139000, 140000, 141000]
set_option synthInstance.maxHeartbeats 2000000 in
theorem M_aLine_b_fr {x2 : Int} {tag : Nat} {g : AG} : KpG W_M_aLine_b g Prod.snd (M_aLine_b x2 tag g) := by
  refine M_aLine_b.partial_correctness x2 (fun tag g r => Fr W_M_aLine_b g r.2) ?_ tag g
  intro fb9 ih tag g
  show KpG W_M_aLine_b g Prod.snd _
  repeat' (first
    | exact KpG.none
    | exact KpG.ret rfl
    | refine KpG.ite (fun _ => ?_) (fun _ => ?_)
    | refine KpG.up rfl (fun _ => ?_)
    | refine KpG.fill rfl (fun _ => ?_)
    | refine KpG.copy rfl (fun _ => ?_)
    | refine KpG.call (W1 := W_M_next0) (M_next0_fr) (by decide +kernel) (fun _ => ?_)
    | exact KpG.tail (W1 := W_M_next0) (M_next0_fr) (by decide +kernel)
    | refine KpG.call (W1 := W_M_any) (M_any_fr hrec) (by decide +kernel) (fun _ => ?_)
    | exact KpG.tail (W1 := W_M_any) (M_any_fr hrec) (by decide +kernel)
    | refine KpG.call (W1 := W_M_one) (M_one_fr) (by decide +kernel) (fun _ => ?_)
    | exact KpG.tail (W1 := W_M_one) (M_one_fr) (by decide +kernel)
    | refine KpG.call (W1 := W_M_need) (M_need_fr) (by decide +kernel) (fun _ => ?_)
    | exact KpG.tail (W1 := W_M_need) (M_need_fr) (by decide +kernel)
    | exact ih _ _
    | refine KpG.bind (ρ := fun r : AG => r) ?_ (fun _ => ?_)
    | refine KpG.bind (ρ := fun r : Int × AG => r.2) ?_ (fun _ => ?_)
    | refine KpG.bind (ρ := fun r : Int × Int × AG => r.2.2) ?_ (fun _ => ?_)
    | refine KpG.bind (ρ := fun r : Int × Int × Int × AG => r.2.2.2) ?_ (fun _ => ?_)
    | refine KpG.int (fun _ => ?_))
def W_M_aLine : List Nat := [117037, 117039, 117040, 117041, 117042, 117043, 117044, 117046, 136000, 138000, 139000, 140000, 141000, 143000, 145000]
theorem M_aLine_fr {g : AG} : KpG W_M_aLine g Prod.snd (M_aLine g) := by
  unfold M_aLine
  repeat' (first
    | exact KpG.none
    | exact KpG.ret rfl
    | refine KpG.ite (fun _ => ?_) (fun _ => ?_)
    | refine KpG.up rfl (fun _ => ?_)
    | refine KpG.fill rfl (fun _ => ?_)
    | refine KpG.copy rfl (fun _ => ?_)
    | refine KpG.call (W1 := W_M_bad) (M_bad_fr) (by decide +kernel) (fun _ => ?_)
    | exact KpG.tail (W1 := W_M_bad) (M_bad_fr) (by decide +kernel)
    | refine KpG.call (W1 := W_M_next0) (M_next0_fr) (by decide +kernel) (fun _ => ?_)
    | exact KpG.tail (W1 := W_M_next0) (M_next0_fr) (by decide +kernel)
    | refine KpG.call (W1 := W_M_aTunnel) (M_aTunnel_fr) (by decide +kernel) (fun _ => ?_)
    | exact KpG.tail (W1 := W_M_aTunnel) (M_aTunnel_fr) (by decide +kernel)
    | refine KpG.call (W1 := W_M_need) (M_need_fr) (by decide +kernel) (fun _ => ?_)
    | exact KpG.tail (W1 := W_M_need) (M_need_fr) (by decide +kernel)
    | refine KpG.call (W1 := W_M_hours_117_136_137) (M_hours_117_136_137_fr) (by decide +kernel) (fun _ => ?_)
    | exact KpG.tail (W1 := W_M_hours_117_136_137) (M_hours_117_136_137_fr) (by decide +kernel)
    | refine KpG.call (W1 := W_M_aLine_b) (M_aLine_b_fr) (by decide +kernel) (fun _ => ?_)
    | exact KpG.tail (W1 := W_M_aLine_b) (M_aLine_b_fr) (by decide +kernel)
    | refine KpG.call (W1 := W_M_sumUp) (M_sumUp_fr) (by decide +kernel) (fun _ => ?_)
    | exact KpG.tail (W1 := W_M_sumUp) (M_sumUp_fr) (by decide +kernel)
    | refine KpG.bind (ρ := fun r : AG => r) ?_ (fun _ => ?_)
    | refine KpG.bind (ρ := fun r : Int × AG => r.2) ?_ (fun _ => ?_)
    | refine KpG.bind (ρ := fun r : Int × Int × AG => r.2.2) ?_ (fun _ => ?_)
    | refine KpG.bind (ρ := fun r : Int × Int × Int × AG => r.2.2.2) ?_ (fun _ => ?_)
    | refine KpG.int (fun _ => ?_))
def W_M_keeps_b : List Nat := [128000, 129000, 130000, 131000, 132000, 133000, 134000, 142000, 144000]
set_option synthInstance.maxHeartbeats 2000000 in
theorem M_keeps_b_fr {tag : Nat} {x1 : Int} {g : AG} : KpG W_M_keeps_b g Prod.snd (M_keeps_b tag x1 g) := by
  refine M_keeps_b.partial_correctness (fun tag x1 g r => Fr W_M_keeps_b g r.2) ?_ tag x1 g
  intro fb9 ih tag x1 g
  show KpG W_M_keeps_b g Prod.snd _
  repeat' (first
    | exact KpG.none
    | exact KpG.ret rfl
    | refine KpG.ite (fun _ => ?_) (fun _ => ?_)
    | refine KpG.up rfl (fun _ => ?_)
    | refine KpG.fill rfl (fun _ => ?_)
    | refine KpG.copy rfl (fun _ => ?_)
    | exact ih _ _ _
    | refine KpG.bind (ρ := fun r : AG => r) ?_ (fun _ => ?_)
    | refine KpG.bind (ρ := fun r : Int × AG => r.2) ?_ (fun _ => ?_)
    | refine KpG.bind (ρ := fun r : Int × Int × AG => r.2.2) ?_ (fun _ => ?_)
    | refine KpG.bind (ρ := fun r : Int × Int × Int × AG => r.2.2.2) ?_ (fun _ => ?_)
    | refine KpG.int (fun _ => ?_))
def W_M_keeps : List Nat := [117035, 128000, 129000, 130000, 131000, 132000, 133000, 134000, 142000, 144000]
theorem M_keeps_fr {g : AG} : KpG W_M_keeps g Prod.snd (M_keeps g) := by
  unfold M_keeps
  repeat' (first
    | exact KpG.none
    | exact KpG.ret rfl
    | refine KpG.ite (fun _ => ?_) (fun _ => ?_)
    | refine KpG.up rfl (fun _ => ?_)
    | refine KpG.fill rfl (fun _ => ?_)
    | refine KpG.copy rfl (fun _ => ?_)
    | refine KpG.call (W1 := W_M_keeps_b) (M_keeps_b_fr) (by decide +kernel) (fun _ => ?_)
    | exact KpG.tail (W1 := W_M_keeps_b) (M_keeps_b_fr) (by decide +kernel)
    | refine KpG.bind (ρ := fun r : AG => r) ?_ (fun _ => ?_)
    | refine KpG.bind (ρ := fun r : Int × AG => r.2) ?_ (fun _ => ?_)
    | refine KpG.bind (ρ := fun r : Int × Int × AG => r.2.2) ?_ (fun _ => ?_)
    | refine KpG.bind (ρ := fun r : Int × Int × Int × AG => r.2.2.2) ?_ (fun _ => ?_)
    | refine KpG.int (fun _ => ?_))
def W_M_rules_b : List Nat := [117035, 117037, 117038, 117039, 117040, 117041, 117042, 117043, 117044, 117045, 117046, 117047, 128000, 129000, 130000, 131000, 132000, 133000, 134000, 136000, 138000, 139000, 140000, 141000, 142000, 143000, 144000, 145000]
set_option synthInstance.maxHeartbeats 2000000 in
theorem M_rules_b_fr {tag : Nat} {x1 : Int} {g : AG} : KpG W_M_rules_b g Prod.snd (M_rules_b tag x1 g) := by
  refine M_rules_b.partial_correctness (fun tag x1 g r => Fr W_M_rules_b g r.2) ?_ tag x1 g
  intro fb9 ih tag x1 g
  show KpG W_M_rules_b g Prod.snd _
  repeat' (first
    | exact KpG.none
    | exact KpG.ret rfl
    | refine KpG.ite (fun _ => ?_) (fun _ => ?_)
    | refine KpG.up rfl (fun _ => ?_)
    | refine KpG.fill rfl (fun _ => ?_)
    | refine KpG.copy rfl (fun _ => ?_)
    | refine KpG.call (W1 := W_M_next0) (M_next0_fr) (by decide +kernel) (fun _ => ?_)
    | exact KpG.tail (W1 := W_M_next0) (M_next0_fr) (by decide +kernel)
    | refine KpG.call (W1 := W_M_aLine) (M_aLine_fr) (by decide +kernel) (fun _ => ?_)
    | exact KpG.tail (W1 := W_M_aLine) (M_aLine_fr) (by decide +kernel)
    | refine KpG.call (W1 := W_M_keeps) (M_keeps_fr) (by decide +kernel) (fun _ => ?_)
    | exact KpG.tail (W1 := W_M_keeps) (M_keeps_fr) (by decide +kernel)
    | exact ih _ _ _
    | refine KpG.bind (ρ := fun r : AG => r) ?_ (fun _ => ?_)
    | refine KpG.bind (ρ := fun r : Int × AG => r.2) ?_ (fun _ => ?_)
    | refine KpG.bind (ρ := fun r : Int × Int × AG => r.2.2) ?_ (fun _ => ?_)
    | refine KpG.bind (ρ := fun r : Int × Int × Int × AG => r.2.2.2) ?_ (fun _ => ?_)
    | refine KpG.int (fun _ => ?_))
def W_M_rules : List Nat := [117035, 117036, 117037, 117038, 117039, 117040, 117041, 117042, 117043, 117044, 117045, 117046, 117047, 128000, 129000, 130000, 131000, 132000, 133000, 134000, 136000, 138000, 139000, 140000, 141000, 142000, 143000, 144000, 145000]
theorem M_rules_fr {g : AG} : KpG W_M_rules g Prod.snd (M_rules g) := by
  unfold M_rules
  repeat' (first
    | exact KpG.none
    | exact KpG.ret rfl
    | refine KpG.ite (fun _ => ?_) (fun _ => ?_)
    | refine KpG.up rfl (fun _ => ?_)
    | refine KpG.fill rfl (fun _ => ?_)
    | refine KpG.copy rfl (fun _ => ?_)
    | refine KpG.call (W1 := W_M_rules_b) (M_rules_b_fr) (by decide +kernel) (fun _ => ?_)
    | exact KpG.tail (W1 := W_M_rules_b) (M_rules_b_fr) (by decide +kernel)
    | refine KpG.bind (ρ := fun r : AG => r) ?_ (fun _ => ?_)
    | refine KpG.bind (ρ := fun r : Int × AG => r.2) ?_ (fun _ => ?_)
    | refine KpG.bind (ρ := fun r : Int × Int × AG => r.2.2) ?_ (fun _ => ?_)
    | refine KpG.bind (ρ := fun r : Int × Int × Int × AG => r.2.2.2) ?_ (fun _ => ?_)
    | refine KpG.int (fun _ => ?_))
def W_M_forgets_b : List Nat := [148000]
set_option synthInstance.maxHeartbeats 2000000 in
theorem M_forgets_b_fr {x1 : Int} {g : AG} : KpG W_M_forgets_b g Prod.snd (M_forgets_b x1 g) := by
  refine M_forgets_b.partial_correctness (fun x1 g r => Fr W_M_forgets_b g r.2) ?_ x1 g
  intro fb9 ih x1 g
  show KpG W_M_forgets_b g Prod.snd _
  repeat' (first
    | exact KpG.none
    | exact KpG.ret rfl
    | refine KpG.ite (fun _ => ?_) (fun _ => ?_)
    | refine KpG.up rfl (fun _ => ?_)
    | refine KpG.fill rfl (fun _ => ?_)
    | refine KpG.copy rfl (fun _ => ?_)
    | exact ih _ _
    | refine KpG.bind (ρ := fun r : AG => r) ?_ (fun _ => ?_)
    | refine KpG.bind (ρ := fun r : Int × AG => r.2) ?_ (fun _ => ?_)
    | refine KpG.bind (ρ := fun r : Int × Int × AG => r.2.2) ?_ (fun _ => ?_)
    | refine KpG.bind (ρ := fun r : Int × Int × Int × AG => r.2.2.2) ?_ (fun _ => ?_)
    | refine KpG.int (fun _ => ?_))
def W_M_forgets : List Nat := [148000]
theorem M_forgets_fr {g : AG} : KpG W_M_forgets g Prod.snd (M_forgets g) := by
  unfold M_forgets
  repeat' (first
    | exact KpG.none
    | exact KpG.ret rfl
    | refine KpG.ite (fun _ => ?_) (fun _ => ?_)
    | refine KpG.up rfl (fun _ => ?_)
    | refine KpG.fill rfl (fun _ => ?_)
    | refine KpG.copy rfl (fun _ => ?_)
    | refine KpG.call (W1 := W_M_forgets_b) (M_forgets_b_fr) (by decide +kernel) (fun _ => ?_)
    | exact KpG.tail (W1 := W_M_forgets_b) (M_forgets_b_fr) (by decide +kernel)
    | refine KpG.bind (ρ := fun r : AG => r) ?_ (fun _ => ?_)
    | refine KpG.bind (ρ := fun r : Int × AG => r.2) ?_ (fun _ => ?_)
    | refine KpG.bind (ρ := fun r : Int × Int × AG => r.2.2) ?_ (fun _ => ?_)
    | refine KpG.bind (ρ := fun r : Int × Int × Int × AG => r.2.2.2) ?_ (fun _ => ?_)
    | refine KpG.int (fun _ => ?_))
def W_M_comesTo_b : List Nat := [147000]
set_option synthInstance.maxHeartbeats 2000000 in
theorem M_comesTo_b_fr {x2 : Int} {x3 : Int} {x4 : Int} {g : AG} : KpG W_M_comesTo_b g Prod.snd (M_comesTo_b x2 x3 x4 g) := by
  refine M_comesTo_b.partial_correctness x2 (fun x3 x4 g r => Fr W_M_comesTo_b g r.2) ?_ x3 x4 g
  intro fb9 ih x3 x4 g
  show KpG W_M_comesTo_b g Prod.snd _
  repeat' (first
    | exact KpG.none
    | exact KpG.ret rfl
    | refine KpG.ite (fun _ => ?_) (fun _ => ?_)
    | refine KpG.up rfl (fun _ => ?_)
    | refine KpG.fill rfl (fun _ => ?_)
    | refine KpG.copy rfl (fun _ => ?_)
    | exact ih _ _ _
    | refine KpG.bind (ρ := fun r : AG => r) ?_ (fun _ => ?_)
    | refine KpG.bind (ρ := fun r : Int × AG => r.2) ?_ (fun _ => ?_)
    | refine KpG.bind (ρ := fun r : Int × Int × AG => r.2.2) ?_ (fun _ => ?_)
    | refine KpG.bind (ρ := fun r : Int × Int × Int × AG => r.2.2.2) ?_ (fun _ => ?_)
    | refine KpG.int (fun _ => ?_))
def W_M_comesTo : List Nat := [147000]
theorem M_comesTo_fr {x1 : Int} {x2 : Int} {g : AG} : KpG W_M_comesTo g Prod.snd (M_comesTo x1 x2 g) := by
  unfold M_comesTo
  repeat' (first
    | exact KpG.none
    | exact KpG.ret rfl
    | refine KpG.ite (fun _ => ?_) (fun _ => ?_)
    | refine KpG.up rfl (fun _ => ?_)
    | refine KpG.fill rfl (fun _ => ?_)
    | refine KpG.copy rfl (fun _ => ?_)
    | refine KpG.call (W1 := W_M_comesTo_b) (M_comesTo_b_fr) (by decide +kernel) (fun _ => ?_)
    | exact KpG.tail (W1 := W_M_comesTo_b) (M_comesTo_b_fr) (by decide +kernel)
    | refine KpG.bind (ρ := fun r : AG => r) ?_ (fun _ => ?_)
    | refine KpG.bind (ρ := fun r : Int × AG => r.2) ?_ (fun _ => ?_)
    | refine KpG.bind (ρ := fun r : Int × Int × AG => r.2.2) ?_ (fun _ => ?_)
    | refine KpG.bind (ρ := fun r : Int × Int × Int × AG => r.2.2.2) ?_ (fun _ => ?_)
    | refine KpG.int (fun _ => ?_))
def W_M_serves_b : List Nat := [147000]
set_option synthInstance.maxHeartbeats 2000000 in
theorem M_serves_b_fr {x1 : Int} {tag : Nat} {x2 : Int} {g : AG} : KpG W_M_serves_b g Prod.snd (M_serves_b x1 tag x2 g) := by
  refine M_serves_b.partial_correctness x1 (fun tag x2 g r => Fr W_M_serves_b g r.2) ?_ tag x2 g
  intro fb9 ih tag x2 g
  show KpG W_M_serves_b g Prod.snd _
  repeat' (first
    | exact KpG.none
    | exact KpG.ret rfl
    | refine KpG.ite (fun _ => ?_) (fun _ => ?_)
    | refine KpG.up rfl (fun _ => ?_)
    | refine KpG.fill rfl (fun _ => ?_)
    | refine KpG.copy rfl (fun _ => ?_)
    | refine KpG.call (W1 := W_M_comesTo) (M_comesTo_fr) (by decide +kernel) (fun _ => ?_)
    | exact KpG.tail (W1 := W_M_comesTo) (M_comesTo_fr) (by decide +kernel)
    | exact ih _ _ _
    | refine KpG.bind (ρ := fun r : AG => r) ?_ (fun _ => ?_)
    | refine KpG.bind (ρ := fun r : Int × AG => r.2) ?_ (fun _ => ?_)
    | refine KpG.bind (ρ := fun r : Int × Int × AG => r.2.2) ?_ (fun _ => ?_)
    | refine KpG.bind (ρ := fun r : Int × Int × Int × AG => r.2.2.2) ?_ (fun _ => ?_)
    | refine KpG.int (fun _ => ?_))
def W_M_serves : List Nat := [147000]
theorem M_serves_fr {x1 : Int} {g : AG} : KpG W_M_serves g Prod.snd (M_serves x1 g) := by
  unfold M_serves
  repeat' (first
    | exact KpG.none
    | exact KpG.ret rfl
    | refine KpG.ite (fun _ => ?_) (fun _ => ?_)
    | refine KpG.up rfl (fun _ => ?_)
    | refine KpG.fill rfl (fun _ => ?_)
    | refine KpG.copy rfl (fun _ => ?_)
    | refine KpG.call (W1 := W_M_serves_b) (M_serves_b_fr) (by decide +kernel) (fun _ => ?_)
    | exact KpG.tail (W1 := W_M_serves_b) (M_serves_b_fr) (by decide +kernel)
    | refine KpG.bind (ρ := fun r : AG => r) ?_ (fun _ => ?_)
    | refine KpG.bind (ρ := fun r : Int × AG => r.2) ?_ (fun _ => ?_)
    | refine KpG.bind (ρ := fun r : Int × Int × AG => r.2.2) ?_ (fun _ => ?_)
    | refine KpG.bind (ρ := fun r : Int × Int × Int × AG => r.2.2.2) ?_ (fun _ => ?_)
    | refine KpG.int (fun _ => ?_))
def W_M_locksLine : List Nat := [147000, 148000]
theorem M_locksLine_fr {x1 : Int} {g : AG} : KpG W_M_locksLine g Prod.snd (M_locksLine x1 g) := by
  unfold M_locksLine
  repeat' (first
    | exact KpG.none
    | exact KpG.ret rfl
    | refine KpG.ite (fun _ => ?_) (fun _ => ?_)
    | refine KpG.up rfl (fun _ => ?_)
    | refine KpG.fill rfl (fun _ => ?_)
    | refine KpG.copy rfl (fun _ => ?_)
    | refine KpG.call (W1 := W_M_forgets) (M_forgets_fr) (by decide +kernel) (fun _ => ?_)
    | exact KpG.tail (W1 := W_M_forgets) (M_forgets_fr) (by decide +kernel)
    | refine KpG.call (W1 := W_M_serves) (M_serves_fr) (by decide +kernel) (fun _ => ?_)
    | exact KpG.tail (W1 := W_M_serves) (M_serves_fr) (by decide +kernel)
    | refine KpG.bind (ρ := fun r : AG => r) ?_ (fun _ => ?_)
    | refine KpG.bind (ρ := fun r : Int × AG => r.2) ?_ (fun _ => ?_)
    | refine KpG.bind (ρ := fun r : Int × Int × AG => r.2.2) ?_ (fun _ => ?_)
    | refine KpG.bind (ρ := fun r : Int × Int × Int × AG => r.2.2.2) ?_ (fun _ => ?_)
    | refine KpG.int (fun _ => ?_))
def W_M_open : List Nat := [147000, 148000]
theorem M_open_fr {x1 : Int} {x2 : Int} {g : AG} : KpG W_M_open g Prod.snd (M_open x1 x2 g) := by
  unfold M_open
  repeat' (first
    | exact KpG.none
    | exact KpG.ret rfl
    | refine KpG.ite (fun _ => ?_) (fun _ => ?_)
    | refine KpG.up rfl (fun _ => ?_)
    | refine KpG.fill rfl (fun _ => ?_)
    | refine KpG.copy rfl (fun _ => ?_)
    | refine KpG.call (W1 := W_M_locksLine) (M_locksLine_fr) (by decide +kernel) (fun _ => ?_)
    | exact KpG.tail (W1 := W_M_locksLine) (M_locksLine_fr) (by decide +kernel)
    | refine KpG.bind (ρ := fun r : AG => r) ?_ (fun _ => ?_)
    | refine KpG.bind (ρ := fun r : Int × AG => r.2) ?_ (fun _ => ?_)
    | refine KpG.bind (ρ := fun r : Int × Int × AG => r.2.2) ?_ (fun _ => ?_)
    | refine KpG.bind (ρ := fun r : Int × Int × Int × AG => r.2.2.2) ?_ (fun _ => ?_)
    | refine KpG.int (fun _ => ?_))
def W_M_mayBegin : List Nat := [147000, 148000]
theorem M_mayBegin_fr {x1 : Int} {x2 : Int} {x3 : Int} {x4 : Int} {g : AG} : KpG W_M_mayBegin g Prod.snd (M_mayBegin x1 x2 x3 x4 g) := by
  unfold M_mayBegin
  repeat' (first
    | exact KpG.none
    | exact KpG.ret rfl
    | refine KpG.ite (fun _ => ?_) (fun _ => ?_)
    | refine KpG.up rfl (fun _ => ?_)
    | refine KpG.fill rfl (fun _ => ?_)
    | refine KpG.copy rfl (fun _ => ?_)
    | refine KpG.call (W1 := W_M_locksLine) (M_locksLine_fr) (by decide +kernel) (fun _ => ?_)
    | exact KpG.tail (W1 := W_M_locksLine) (M_locksLine_fr) (by decide +kernel)
    | refine KpG.bind (ρ := fun r : AG => r) ?_ (fun _ => ?_)
    | refine KpG.bind (ρ := fun r : Int × AG => r.2) ?_ (fun _ => ?_)
    | refine KpG.bind (ρ := fun r : Int × Int × AG => r.2.2) ?_ (fun _ => ?_)
    | refine KpG.bind (ρ := fun r : Int × Int × Int × AG => r.2.2.2) ?_ (fun _ => ?_)
    | refine KpG.int (fun _ => ?_))
def W_M_endOf_b : List Nat := [147000, 148000]
set_option synthInstance.maxHeartbeats 2000000 in
theorem M_endOf_b_fr {x1 : Int} {x2 : Int} {x4 : Int} {tag : Nat} {x5 : Int} {g : AG} : KpG W_M_endOf_b g Prod.snd (M_endOf_b x1 x2 x4 tag x5 g) := by
  refine M_endOf_b.partial_correctness x1 x2 x4 (fun tag x5 g r => Fr W_M_endOf_b g r.2) ?_ tag x5 g
  intro fb9 ih tag x5 g
  show KpG W_M_endOf_b g Prod.snd _
  repeat' (first
    | exact KpG.none
    | exact KpG.ret rfl
    | refine KpG.ite (fun _ => ?_) (fun _ => ?_)
    | refine KpG.up rfl (fun _ => ?_)
    | refine KpG.fill rfl (fun _ => ?_)
    | refine KpG.copy rfl (fun _ => ?_)
    | refine KpG.call (W1 := W_M_mayBegin) (M_mayBegin_fr) (by decide +kernel) (fun _ => ?_)
    | exact KpG.tail (W1 := W_M_mayBegin) (M_mayBegin_fr) (by decide +kernel)
    | exact ih _ _ _
    | refine KpG.bind (ρ := fun r : AG => r) ?_ (fun _ => ?_)
    | refine KpG.bind (ρ := fun r : Int × AG => r.2) ?_ (fun _ => ?_)
    | refine KpG.bind (ρ := fun r : Int × Int × AG => r.2.2) ?_ (fun _ => ?_)
    | refine KpG.bind (ρ := fun r : Int × Int × Int × AG => r.2.2.2) ?_ (fun _ => ?_)
    | refine KpG.int (fun _ => ?_))
def W_M_endOf : List Nat := [147000, 148000]
theorem M_endOf_fr {x1 : Int} {x2 : Int} {x3 : Int} {x4 : Int} {g : AG} : KpG W_M_endOf g Prod.snd (M_endOf x1 x2 x3 x4 g) := by
  unfold M_endOf
  repeat' (first
    | exact KpG.none
    | exact KpG.ret rfl
    | refine KpG.ite (fun _ => ?_) (fun _ => ?_)
    | refine KpG.up rfl (fun _ => ?_)
    | refine KpG.fill rfl (fun _ => ?_)
    | refine KpG.copy rfl (fun _ => ?_)
    | refine KpG.call (W1 := W_M_endOf_b) (M_endOf_b_fr) (by decide +kernel) (fun _ => ?_)
    | exact KpG.tail (W1 := W_M_endOf_b) (M_endOf_b_fr) (by decide +kernel)
    | refine KpG.bind (ρ := fun r : AG => r) ?_ (fun _ => ?_)
    | refine KpG.bind (ρ := fun r : Int × AG => r.2) ?_ (fun _ => ?_)
    | refine KpG.bind (ρ := fun r : Int × Int × AG => r.2.2) ?_ (fun _ => ?_)
    | refine KpG.bind (ρ := fun r : Int × Int × Int × AG => r.2.2.2) ?_ (fun _ => ?_)
    | refine KpG.int (fun _ => ?_))
def W_M_harmOf : List Nat := [147000, 148000]
theorem M_harmOf_fr {x1 : Int} {x2 : Int} {g : AG} : KpG W_M_harmOf g Prod.snd (M_harmOf x1 x2 g) := by
  unfold M_harmOf
  repeat' (first
    | exact KpG.none
    | exact KpG.ret rfl
    | refine KpG.ite (fun _ => ?_) (fun _ => ?_)
    | refine KpG.up rfl (fun _ => ?_)
    | refine KpG.fill rfl (fun _ => ?_)
    | refine KpG.copy rfl (fun _ => ?_)
    | refine KpG.call (W1 := W_M_forgets) (M_forgets_fr) (by decide +kernel) (fun _ => ?_)
    | exact KpG.tail (W1 := W_M_forgets) (M_forgets_fr) (by decide +kernel)
    | refine KpG.call (W1 := W_M_serves) (M_serves_fr) (by decide +kernel) (fun _ => ?_)
    | exact KpG.tail (W1 := W_M_serves) (M_serves_fr) (by decide +kernel)
    | refine KpG.call (W1 := W_M_comesTo) (M_comesTo_fr) (by decide +kernel) (fun _ => ?_)
    | exact KpG.tail (W1 := W_M_comesTo) (M_comesTo_fr) (by decide +kernel)
    | refine KpG.bind (ρ := fun r : AG => r) ?_ (fun _ => ?_)
    | refine KpG.bind (ρ := fun r : Int × AG => r.2) ?_ (fun _ => ?_)
    | refine KpG.bind (ρ := fun r : Int × Int × AG => r.2.2) ?_ (fun _ => ?_)
    | refine KpG.bind (ρ := fun r : Int × Int × Int × AG => r.2.2.2) ?_ (fun _ => ?_)
    | refine KpG.int (fun _ => ?_))
def W_M_through_b : List Nat := [147000, 148000]
set_option synthInstance.maxHeartbeats 2000000 in
theorem M_through_b_fr {x1 : Int} {x2 : Int} {x3 : Int} {tag : Nat} {x5 : Int} {x6 : Int} {x7 : Int} {g : AG} : KpG W_M_through_b g Prod.snd (M_through_b x1 x2 x3 tag x5 x6 x7 g) := by
  refine M_through_b.partial_correctness x1 x2 x3 (fun tag x5 x6 x7 g r => Fr W_M_through_b g r.2) ?_ tag x5 x6 x7 g
  intro fb9 ih tag x5 x6 x7 g
  show KpG W_M_through_b g Prod.snd _
  repeat' (first
    | exact KpG.none
    | exact KpG.ret rfl
    | refine KpG.ite (fun _ => ?_) (fun _ => ?_)
    | refine KpG.up rfl (fun _ => ?_)
    | refine KpG.fill rfl (fun _ => ?_)
    | refine KpG.copy rfl (fun _ => ?_)
    | refine KpG.call (W1 := W_M_endOf) (M_endOf_fr) (by decide +kernel) (fun _ => ?_)
    | exact KpG.tail (W1 := W_M_endOf) (M_endOf_fr) (by decide +kernel)
    | refine KpG.call (W1 := W_M_harmOf) (M_harmOf_fr) (by decide +kernel) (fun _ => ?_)
    | exact KpG.tail (W1 := W_M_harmOf) (M_harmOf_fr) (by decide +kernel)
    | exact ih _ _ _ _ _
    | refine KpG.bind (ρ := fun r : AG => r) ?_ (fun _ => ?_)
    | refine KpG.bind (ρ := fun r : Int × AG => r.2) ?_ (fun _ => ?_)
    | refine KpG.bind (ρ := fun r : Int × Int × AG => r.2.2) ?_ (fun _ => ?_)
    | refine KpG.bind (ρ := fun r : Int × Int × Int × AG => r.2.2.2) ?_ (fun _ => ?_)
    | refine KpG.int (fun _ => ?_))
def W_M_through : List Nat := [147000, 148000]
theorem M_through_fr {x1 : Int} {x2 : Int} {x3 : Int} {x4 : Int} {g : AG} : KpG W_M_through g Prod.snd (M_through x1 x2 x3 x4 g) := by
  unfold M_through
  repeat' (first
    | exact KpG.none
    | exact KpG.ret rfl
    | refine KpG.ite (fun _ => ?_) (fun _ => ?_)
    | refine KpG.up rfl (fun _ => ?_)
    | refine KpG.fill rfl (fun _ => ?_)
    | refine KpG.copy rfl (fun _ => ?_)
    | refine KpG.call (W1 := W_M_through_b) (M_through_b_fr) (by decide +kernel) (fun _ => ?_)
    | exact KpG.tail (W1 := W_M_through_b) (M_through_b_fr) (by decide +kernel)
    | refine KpG.bind (ρ := fun r : AG => r) ?_ (fun _ => ?_)
    | refine KpG.bind (ρ := fun r : Int × AG => r.2) ?_ (fun _ => ?_)
    | refine KpG.bind (ρ := fun r : Int × Int × AG => r.2.2) ?_ (fun _ => ?_)
    | refine KpG.bind (ρ := fun r : Int × Int × Int × AG => r.2.2.2) ?_ (fun _ => ?_)
    | refine KpG.int (fun _ => ?_))
def W_M_led_b : List Nat := [147000, 148000]
set_option synthInstance.maxHeartbeats 2000000 in
theorem M_led_b_fr {x1 : Int} {x2 : Int} {x3 : Int} {tag : Nat} {x5 : Int} {x6 : Int} {g : AG} : KpG W_M_led_b g Prod.snd (M_led_b x1 x2 x3 tag x5 x6 g) := by
  refine M_led_b.partial_correctness x1 x2 x3 (fun tag x5 x6 g r => Fr W_M_led_b g r.2) ?_ tag x5 x6 g
  intro fb9 ih tag x5 x6 g
  show KpG W_M_led_b g Prod.snd _
  repeat' (first
    | exact KpG.none
    | exact KpG.ret rfl
    | refine KpG.ite (fun _ => ?_) (fun _ => ?_)
    | refine KpG.up rfl (fun _ => ?_)
    | refine KpG.fill rfl (fun _ => ?_)
    | refine KpG.copy rfl (fun _ => ?_)
    | refine KpG.call (W1 := W_M_through) (M_through_fr) (by decide +kernel) (fun _ => ?_)
    | exact KpG.tail (W1 := W_M_through) (M_through_fr) (by decide +kernel)
    | exact ih _ _ _ _
    | refine KpG.bind (ρ := fun r : AG => r) ?_ (fun _ => ?_)
    | refine KpG.bind (ρ := fun r : Int × AG => r.2) ?_ (fun _ => ?_)
    | refine KpG.bind (ρ := fun r : Int × Int × AG => r.2.2) ?_ (fun _ => ?_)
    | refine KpG.bind (ρ := fun r : Int × Int × Int × AG => r.2.2.2) ?_ (fun _ => ?_)
    | refine KpG.int (fun _ => ?_))
def W_M_led : List Nat := [147000, 148000]
theorem M_led_fr {x1 : Int} {x2 : Int} {x3 : Int} {x4 : Int} {g : AG} : KpG W_M_led g Prod.snd (M_led x1 x2 x3 x4 g) := by
  unfold M_led
  repeat' (first
    | exact KpG.none
    | exact KpG.ret rfl
    | refine KpG.ite (fun _ => ?_) (fun _ => ?_)
    | refine KpG.up rfl (fun _ => ?_)
    | refine KpG.fill rfl (fun _ => ?_)
    | refine KpG.copy rfl (fun _ => ?_)
    | refine KpG.call (W1 := W_M_led_b) (M_led_b_fr) (by decide +kernel) (fun _ => ?_)
    | exact KpG.tail (W1 := W_M_led_b) (M_led_b_fr) (by decide +kernel)
    | refine KpG.bind (ρ := fun r : AG => r) ?_ (fun _ => ?_)
    | refine KpG.bind (ρ := fun r : Int × AG => r.2) ?_ (fun _ => ?_)
    | refine KpG.bind (ρ := fun r : Int × Int × AG => r.2.2) ?_ (fun _ => ?_)
    | refine KpG.bind (ρ := fun r : Int × Int × Int × AG => r.2.2.2) ?_ (fun _ => ?_)
    | refine KpG.int (fun _ => ?_))
def W_M_comes : List Nat := [147000, 148000]
theorem M_comes_fr {x1 : Int} {x2 : Int} {x3 : Int} {x4 : Int} {g : AG} : KpG W_M_comes g Prod.snd (M_comes x1 x2 x3 x4 g) := by
  unfold M_comes
  repeat' (first
    | exact KpG.none
    | exact KpG.ret rfl
    | refine KpG.ite (fun _ => ?_) (fun _ => ?_)
    | refine KpG.up rfl (fun _ => ?_)
    | refine KpG.fill rfl (fun _ => ?_)
    | refine KpG.copy rfl (fun _ => ?_)
    | refine KpG.call (W1 := W_M_led) (M_led_fr) (by decide +kernel) (fun _ => ?_)
    | exact KpG.tail (W1 := W_M_led) (M_led_fr) (by decide +kernel)
    | refine KpG.bind (ρ := fun r : AG => r) ?_ (fun _ => ?_)
    | refine KpG.bind (ρ := fun r : Int × AG => r.2) ?_ (fun _ => ?_)
    | refine KpG.bind (ρ := fun r : Int × Int × AG => r.2.2) ?_ (fun _ => ?_)
    | refine KpG.bind (ρ := fun r : Int × Int × Int × AG => r.2.2.2) ?_ (fun _ => ?_)
    | refine KpG.int (fun _ => ?_))
def W_M_harm : List Nat := [117048, 117049, 147000, 148000]
theorem M_harm_fr {x1 : Int} {x2 : Int} {x3 : Int} {x4 : Int} {g : AG} : KpG W_M_harm g Prod.snd (M_harm x1 x2 x3 x4 g) := by
  unfold M_harm
  repeat' (first
    | exact KpG.none
    | exact KpG.ret rfl
    | refine KpG.ite (fun _ => ?_) (fun _ => ?_)
    | refine KpG.up rfl (fun _ => ?_)
    | refine KpG.fill rfl (fun _ => ?_)
    | refine KpG.copy rfl (fun _ => ?_)
    | refine KpG.call (W1 := W_M_led) (M_led_fr) (by decide +kernel) (fun _ => ?_)
    | exact KpG.tail (W1 := W_M_led) (M_led_fr) (by decide +kernel)
    | refine KpG.bind (ρ := fun r : AG => r) ?_ (fun _ => ?_)
    | refine KpG.bind (ρ := fun r : Int × AG => r.2) ?_ (fun _ => ?_)
    | refine KpG.bind (ρ := fun r : Int × Int × AG => r.2.2) ?_ (fun _ => ?_)
    | refine KpG.bind (ρ := fun r : Int × Int × Int × AG => r.2.2.2) ?_ (fun _ => ?_)
    | refine KpG.int (fun _ => ?_))
def W_M_enough_b : List Nat := [127000, 147000, 148000]
set_option synthInstance.maxHeartbeats 2000000 in
theorem M_enough_b_fr {x1 : Int} {x2 : Int} {x3 : Int} {x4 : Int} {x5 : Int} {x6 : Int} {tag : Nat} {x7 : Int} {x8 : Int} {g : AG} : KpG W_M_enough_b g Prod.snd (M_enough_b x1 x2 x3 x4 x5 x6 tag x7 x8 g) := by
  refine M_enough_b.partial_correctness x1 x2 x3 x4 x5 x6 (fun tag x7 x8 g r => Fr W_M_enough_b g r.2) ?_ tag x7 x8 g
  intro fb9 ih tag x7 x8 g
  show KpG W_M_enough_b g Prod.snd _
  repeat' (first
    | exact KpG.none
    | exact KpG.ret rfl
    | refine KpG.ite (fun _ => ?_) (fun _ => ?_)
    | refine KpG.up rfl (fun _ => ?_)
    | refine KpG.fill rfl (fun _ => ?_)
    | refine KpG.copy rfl (fun _ => ?_)
    | refine KpG.call (W1 := W_M_led) (M_led_fr) (by decide +kernel) (fun _ => ?_)
    | exact KpG.tail (W1 := W_M_led) (M_led_fr) (by decide +kernel)
    | exact ih _ _ _ _
    | refine KpG.bind (ρ := fun r : AG => r) ?_ (fun _ => ?_)
    | refine KpG.bind (ρ := fun r : Int × AG => r.2) ?_ (fun _ => ?_)
    | refine KpG.bind (ρ := fun r : Int × Int × AG => r.2.2) ?_ (fun _ => ?_)
    | refine KpG.bind (ρ := fun r : Int × Int × Int × AG => r.2.2.2) ?_ (fun _ => ?_)
    | refine KpG.int (fun _ => ?_))
def W_M_enough : List Nat := [127000, 147000, 148000]
theorem M_enough_fr {x1 : Int} {x2 : Int} {x3 : Int} {x4 : Int} {x5 : Int} {g : AG} : KpG W_M_enough g Prod.snd (M_enough x1 x2 x3 x4 x5 g) := by
  unfold M_enough
  repeat' (first
    | exact KpG.none
    | exact KpG.ret rfl
    | refine KpG.ite (fun _ => ?_) (fun _ => ?_)
    | refine KpG.up rfl (fun _ => ?_)
    | refine KpG.fill rfl (fun _ => ?_)
    | refine KpG.copy rfl (fun _ => ?_)
    | refine KpG.call (W1 := W_M_enough_b) (M_enough_b_fr) (by decide +kernel) (fun _ => ?_)
    | exact KpG.tail (W1 := W_M_enough_b) (M_enough_b_fr) (by decide +kernel)
    | refine KpG.bind (ρ := fun r : AG => r) ?_ (fun _ => ?_)
    | refine KpG.bind (ρ := fun r : Int × AG => r.2) ?_ (fun _ => ?_)
    | refine KpG.bind (ρ := fun r : Int × Int × AG => r.2.2) ?_ (fun _ => ?_)
    | refine KpG.bind (ρ := fun r : Int × Int × Int × AG => r.2.2.2) ?_ (fun _ => ?_)
    | refine KpG.int (fun _ => ?_))
def W_M_maybe_b : List Nat := [147000, 148000]
set_option synthInstance.maxHeartbeats 2000000 in
theorem M_maybe_b_fr {x1 : Int} {x2 : Int} {x3 : Int} {x4 : Int} {x5 : Int} {x6 : Int} {g : AG} : KpG W_M_maybe_b g Prod.snd (M_maybe_b x1 x2 x3 x4 x5 x6 g) := by
  refine M_maybe_b.partial_correctness x1 x2 x3 x4 (fun x5 x6 g r => Fr W_M_maybe_b g r.2) ?_ x5 x6 g
  intro fb9 ih x5 x6 g
  show KpG W_M_maybe_b g Prod.snd _
  repeat' (first
    | exact KpG.none
    | exact KpG.ret rfl
    | refine KpG.ite (fun _ => ?_) (fun _ => ?_)
    | refine KpG.up rfl (fun _ => ?_)
    | refine KpG.fill rfl (fun _ => ?_)
    | refine KpG.copy rfl (fun _ => ?_)
    | refine KpG.call (W1 := W_M_led) (M_led_fr) (by decide +kernel) (fun _ => ?_)
    | exact KpG.tail (W1 := W_M_led) (M_led_fr) (by decide +kernel)
    | exact ih _ _ _
    | refine KpG.bind (ρ := fun r : AG => r) ?_ (fun _ => ?_)
    | refine KpG.bind (ρ := fun r : Int × AG => r.2) ?_ (fun _ => ?_)
    | refine KpG.bind (ρ := fun r : Int × Int × AG => r.2.2) ?_ (fun _ => ?_)
    | refine KpG.bind (ρ := fun r : Int × Int × Int × AG => r.2.2.2) ?_ (fun _ => ?_)
    | refine KpG.int (fun _ => ?_))
def W_M_maybe : List Nat := [147000, 148000]
theorem M_maybe_fr {x1 : Int} {x2 : Int} {x3 : Int} {x4 : Int} {g : AG} : KpG W_M_maybe g Prod.snd (M_maybe x1 x2 x3 x4 g) := by
  unfold M_maybe
  repeat' (first
    | exact KpG.none
    | exact KpG.ret rfl
    | refine KpG.ite (fun _ => ?_) (fun _ => ?_)
    | refine KpG.up rfl (fun _ => ?_)
    | refine KpG.fill rfl (fun _ => ?_)
    | refine KpG.copy rfl (fun _ => ?_)
    | refine KpG.call (W1 := W_M_maybe_b) (M_maybe_b_fr) (by decide +kernel) (fun _ => ?_)
    | exact KpG.tail (W1 := W_M_maybe_b) (M_maybe_b_fr) (by decide +kernel)
    | refine KpG.bind (ρ := fun r : AG => r) ?_ (fun _ => ?_)
    | refine KpG.bind (ρ := fun r : Int × AG => r.2) ?_ (fun _ => ?_)
    | refine KpG.bind (ρ := fun r : Int × Int × AG => r.2.2) ?_ (fun _ => ?_)
    | refine KpG.bind (ρ := fun r : Int × Int × Int × AG => r.2.2.2) ?_ (fun _ => ?_)
    | refine KpG.int (fun _ => ?_))
def W_M_trip : List Nat := [117050, 149000, 150000, 151000, 152000, 153000]
theorem M_trip_fr {x1 : Int} {x2 : Int} {x3 : Int} {x4 : Int} {x5 : Int} {g : AG} : KpG W_M_trip g Prod.snd (M_trip x1 x2 x3 x4 x5 g) := by
  unfold M_trip
  repeat' (first
    | exact KpG.none
    | exact KpG.ret rfl
    | refine KpG.ite (fun _ => ?_) (fun _ => ?_)
    | refine KpG.up rfl (fun _ => ?_)
    | refine KpG.fill rfl (fun _ => ?_)
    | refine KpG.copy rfl (fun _ => ?_)
    | refine KpG.bind (ρ := fun r : AG => r) ?_ (fun _ => ?_)
    | refine KpG.bind (ρ := fun r : Int × AG => r.2) ?_ (fun _ => ?_)
    | refine KpG.bind (ρ := fun r : Int × Int × AG => r.2.2) ?_ (fun _ => ?_)
    | refine KpG.bind (ρ := fun r : Int × Int × Int × AG => r.2.2.2) ?_ (fun _ => ?_)
    | refine KpG.int (fun _ => ?_))
def W_M_lateOf : List Nat := [147000, 148000]
theorem M_lateOf_fr {x1 : Int} {g : AG} : KpG W_M_lateOf g Prod.snd (M_lateOf x1 g) := by
  unfold M_lateOf
  repeat' (first
    | exact KpG.none
    | exact KpG.ret rfl
    | refine KpG.ite (fun _ => ?_) (fun _ => ?_)
    | refine KpG.up rfl (fun _ => ?_)
    | refine KpG.fill rfl (fun _ => ?_)
    | refine KpG.copy rfl (fun _ => ?_)
    | refine KpG.call (W1 := W_M_led) (M_led_fr) (by decide +kernel) (fun _ => ?_)
    | exact KpG.tail (W1 := W_M_led) (M_led_fr) (by decide +kernel)
    | refine KpG.bind (ρ := fun r : AG => r) ?_ (fun _ => ?_)
    | refine KpG.bind (ρ := fun r : Int × AG => r.2) ?_ (fun _ => ?_)
    | refine KpG.bind (ρ := fun r : Int × Int × AG => r.2.2) ?_ (fun _ => ?_)
    | refine KpG.bind (ρ := fun r : Int × Int × Int × AG => r.2.2.2) ?_ (fun _ => ?_)
    | refine KpG.int (fun _ => ?_))
def W_M_late_b : List Nat := [147000, 148000]
set_option synthInstance.maxHeartbeats 2000000 in
theorem M_late_b_fr {x2 : Int} {x3 : Int} {g : AG} : KpG W_M_late_b g Prod.snd (M_late_b x2 x3 g) := by
  refine M_late_b.partial_correctness (fun x2 x3 g r => Fr W_M_late_b g r.2) ?_ x2 x3 g
  intro fb9 ih x2 x3 g
  show KpG W_M_late_b g Prod.snd _
  repeat' (first
    | exact KpG.none
    | exact KpG.ret rfl
    | refine KpG.ite (fun _ => ?_) (fun _ => ?_)
    | refine KpG.up rfl (fun _ => ?_)
    | refine KpG.fill rfl (fun _ => ?_)
    | refine KpG.copy rfl (fun _ => ?_)
    | refine KpG.call (W1 := W_M_lateOf) (M_lateOf_fr) (by decide +kernel) (fun _ => ?_)
    | exact KpG.tail (W1 := W_M_lateOf) (M_lateOf_fr) (by decide +kernel)
    | exact ih _ _ _
    | refine KpG.bind (ρ := fun r : AG => r) ?_ (fun _ => ?_)
    | refine KpG.bind (ρ := fun r : Int × AG => r.2) ?_ (fun _ => ?_)
    | refine KpG.bind (ρ := fun r : Int × Int × AG => r.2.2) ?_ (fun _ => ?_)
    | refine KpG.bind (ρ := fun r : Int × Int × Int × AG => r.2.2.2) ?_ (fun _ => ?_)
    | refine KpG.int (fun _ => ?_))
def W_M_late : List Nat := [147000, 148000]
theorem M_late_fr {x1 : Int} {g : AG} : KpG W_M_late g Prod.snd (M_late x1 g) := by
  unfold M_late
  repeat' (first
    | exact KpG.none
    | exact KpG.ret rfl
    | refine KpG.ite (fun _ => ?_) (fun _ => ?_)
    | refine KpG.up rfl (fun _ => ?_)
    | refine KpG.fill rfl (fun _ => ?_)
    | refine KpG.copy rfl (fun _ => ?_)
    | refine KpG.call (W1 := W_M_late_b) (M_late_b_fr) (by decide +kernel) (fun _ => ?_)
    | exact KpG.tail (W1 := W_M_late_b) (M_late_b_fr) (by decide +kernel)
    | refine KpG.call (W1 := W_M_lateOf) (M_lateOf_fr) (by decide +kernel) (fun _ => ?_)
    | exact KpG.tail (W1 := W_M_lateOf) (M_lateOf_fr) (by decide +kernel)
    | refine KpG.bind (ρ := fun r : AG => r) ?_ (fun _ => ?_)
    | refine KpG.bind (ρ := fun r : Int × AG => r.2) ?_ (fun _ => ?_)
    | refine KpG.bind (ρ := fun r : Int × Int × AG => r.2.2) ?_ (fun _ => ?_)
    | refine KpG.bind (ρ := fun r : Int × Int × Int × AG => r.2.2.2) ?_ (fun _ => ?_)
    | refine KpG.int (fun _ => ?_))
def W_M_price : List Nat := [147000, 148000]
theorem M_price_fr {x1 : Int} {x2 : Int} {x3 : Int} {g : AG} : KpG W_M_price g Prod.snd (M_price x1 x2 x3 g) := by
  unfold M_price
  repeat' (first
    | exact KpG.none
    | exact KpG.ret rfl
    | refine KpG.ite (fun _ => ?_) (fun _ => ?_)
    | refine KpG.up rfl (fun _ => ?_)
    | refine KpG.fill rfl (fun _ => ?_)
    | refine KpG.copy rfl (fun _ => ?_)
    | refine KpG.call (W1 := W_M_forgets) (M_forgets_fr) (by decide +kernel) (fun _ => ?_)
    | exact KpG.tail (W1 := W_M_forgets) (M_forgets_fr) (by decide +kernel)
    | refine KpG.call (W1 := W_M_serves) (M_serves_fr) (by decide +kernel) (fun _ => ?_)
    | exact KpG.tail (W1 := W_M_serves) (M_serves_fr) (by decide +kernel)
    | refine KpG.call (W1 := W_M_comesTo) (M_comesTo_fr) (by decide +kernel) (fun _ => ?_)
    | exact KpG.tail (W1 := W_M_comesTo) (M_comesTo_fr) (by decide +kernel)
    | refine KpG.bind (ρ := fun r : AG => r) ?_ (fun _ => ?_)
    | refine KpG.bind (ρ := fun r : Int × AG => r.2) ?_ (fun _ => ?_)
    | refine KpG.bind (ρ := fun r : Int × Int × AG => r.2.2) ?_ (fun _ => ?_)
    | refine KpG.bind (ρ := fun r : Int × Int × Int × AG => r.2.2.2) ?_ (fun _ => ?_)
    | refine KpG.int (fun _ => ?_))
def W_M_refund : List Nat := [147000, 148000]
theorem M_refund_fr {x1 : Int} {g : AG} : KpG W_M_refund g Prod.snd (M_refund x1 g) := by
  unfold M_refund
  repeat' (first
    | exact KpG.none
    | exact KpG.ret rfl
    | refine KpG.ite (fun _ => ?_) (fun _ => ?_)
    | refine KpG.up rfl (fun _ => ?_)
    | refine KpG.fill rfl (fun _ => ?_)
    | refine KpG.copy rfl (fun _ => ?_)
    | refine KpG.call (W1 := W_M_lateOf) (M_lateOf_fr) (by decide +kernel) (fun _ => ?_)
    | exact KpG.tail (W1 := W_M_lateOf) (M_lateOf_fr) (by decide +kernel)
    | refine KpG.call (W1 := W_M_price) (M_price_fr) (by decide +kernel) (fun _ => ?_)
    | exact KpG.tail (W1 := W_M_price) (M_price_fr) (by decide +kernel)
    | refine KpG.bind (ρ := fun r : AG => r) ?_ (fun _ => ?_)
    | refine KpG.bind (ρ := fun r : Int × AG => r.2) ?_ (fun _ => ?_)
    | refine KpG.bind (ρ := fun r : Int × Int × AG => r.2.2) ?_ (fun _ => ?_)
    | refine KpG.bind (ρ := fun r : Int × Int × Int × AG => r.2.2.2) ?_ (fun _ => ?_)
    | refine KpG.int (fun _ => ?_))
def W_M_turningBack_b : List Nat := [147000, 148000]
set_option synthInstance.maxHeartbeats 2000000 in
theorem M_turningBack_b_fr {x1 : Int} {x3 : Int} {tag : Nat} {x2 : Int} {x4 : Int} {g : AG} : KpG W_M_turningBack_b g Prod.snd (M_turningBack_b x1 x3 tag x2 x4 g) := by
  refine M_turningBack_b.partial_correctness x1 x3 (fun tag x2 x4 g r => Fr W_M_turningBack_b g r.2) ?_ tag x2 x4 g
  intro fb9 ih tag x2 x4 g
  show KpG W_M_turningBack_b g Prod.snd _
  repeat' (first
    | exact KpG.none
    | exact KpG.ret rfl
    | refine KpG.ite (fun _ => ?_) (fun _ => ?_)
    | refine KpG.up rfl (fun _ => ?_)
    | refine KpG.fill rfl (fun _ => ?_)
    | refine KpG.copy rfl (fun _ => ?_)
    | refine KpG.call (W1 := W_M_led) (M_led_fr) (by decide +kernel) (fun _ => ?_)
    | exact KpG.tail (W1 := W_M_led) (M_led_fr) (by decide +kernel)
    | exact ih _ _ _ _
    | refine KpG.bind (ρ := fun r : AG => r) ?_ (fun _ => ?_)
    | refine KpG.bind (ρ := fun r : Int × AG => r.2) ?_ (fun _ => ?_)
    | refine KpG.bind (ρ := fun r : Int × Int × AG => r.2.2) ?_ (fun _ => ?_)
    | refine KpG.bind (ρ := fun r : Int × Int × Int × AG => r.2.2.2) ?_ (fun _ => ?_)
    | refine KpG.int (fun _ => ?_))
def W_M_turningBack : List Nat := [147000, 148000]
theorem M_turningBack_fr {x1 : Int} {g : AG} : KpG W_M_turningBack g Prod.snd (M_turningBack x1 g) := by
  unfold M_turningBack
  repeat' (first
    | exact KpG.none
    | exact KpG.ret rfl
    | refine KpG.ite (fun _ => ?_) (fun _ => ?_)
    | refine KpG.up rfl (fun _ => ?_)
    | refine KpG.fill rfl (fun _ => ?_)
    | refine KpG.copy rfl (fun _ => ?_)
    | refine KpG.call (W1 := W_M_turningBack_b) (M_turningBack_b_fr) (by decide +kernel) (fun _ => ?_)
    | exact KpG.tail (W1 := W_M_turningBack_b) (M_turningBack_b_fr) (by decide +kernel)
    | refine KpG.bind (ρ := fun r : AG => r) ?_ (fun _ => ?_)
    | refine KpG.bind (ρ := fun r : Int × AG => r.2) ?_ (fun _ => ?_)
    | refine KpG.bind (ρ := fun r : Int × Int × AG => r.2.2) ?_ (fun _ => ?_)
    | refine KpG.bind (ρ := fun r : Int × Int × Int × AG => r.2.2.2) ?_ (fun _ => ?_)
    | refine KpG.int (fun _ => ?_))
def W_M_back : List Nat := [147000, 148000]
theorem M_back_fr {x1 : Int} {x2 : Int} {g : AG} : KpG W_M_back g Prod.snd (M_back x1 x2 g) := by
  unfold M_back
  repeat' (first
    | exact KpG.none
    | exact KpG.ret rfl
    | refine KpG.ite (fun _ => ?_) (fun _ => ?_)
    | refine KpG.up rfl (fun _ => ?_)
    | refine KpG.fill rfl (fun _ => ?_)
    | refine KpG.copy rfl (fun _ => ?_)
    | refine KpG.call (W1 := W_M_turningBack) (M_turningBack_fr) (by decide +kernel) (fun _ => ?_)
    | exact KpG.tail (W1 := W_M_turningBack) (M_turningBack_fr) (by decide +kernel)
    | refine KpG.call (W1 := W_M_refund) (M_refund_fr) (by decide +kernel) (fun _ => ?_)
    | exact KpG.tail (W1 := W_M_refund) (M_refund_fr) (by decide +kernel)
    | refine KpG.bind (ρ := fun r : AG => r) ?_ (fun _ => ?_)
    | refine KpG.bind (ρ := fun r : Int × AG => r.2) ?_ (fun _ => ?_)
    | refine KpG.bind (ρ := fun r : Int × Int × AG => r.2.2) ?_ (fun _ => ?_)
    | refine KpG.bind (ρ := fun r : Int × Int × Int × AG => r.2.2.2) ?_ (fun _ => ?_)
    | refine KpG.int (fun _ => ?_))
def W_M_rung_b : List Nat := [147000, 148000]
set_option synthInstance.maxHeartbeats 2000000 in
theorem M_rung_b_fr {x2 : Int} {x1 : Int} {x3 : Int} {g : AG} : KpG W_M_rung_b g Prod.snd (M_rung_b x2 x1 x3 g) := by
  refine M_rung_b.partial_correctness x2 (fun x1 x3 g r => Fr W_M_rung_b g r.2) ?_ x1 x3 g
  intro fb9 ih x1 x3 g
  show KpG W_M_rung_b g Prod.snd _
  repeat' (first
    | exact KpG.none
    | exact KpG.ret rfl
    | refine KpG.ite (fun _ => ?_) (fun _ => ?_)
    | refine KpG.up rfl (fun _ => ?_)
    | refine KpG.fill rfl (fun _ => ?_)
    | refine KpG.copy rfl (fun _ => ?_)
    | refine KpG.call (W1 := W_M_lateOf) (M_lateOf_fr) (by decide +kernel) (fun _ => ?_)
    | exact KpG.tail (W1 := W_M_lateOf) (M_lateOf_fr) (by decide +kernel)
    | exact ih _ _ _
    | refine KpG.bind (ρ := fun r : AG => r) ?_ (fun _ => ?_)
    | refine KpG.bind (ρ := fun r : Int × AG => r.2) ?_ (fun _ => ?_)
    | refine KpG.bind (ρ := fun r : Int × Int × AG => r.2.2) ?_ (fun _ => ?_)
    | refine KpG.bind (ρ := fun r : Int × Int × Int × AG => r.2.2.2) ?_ (fun _ => ?_)
    | refine KpG.int (fun _ => ?_))
def W_M_rung : List Nat := [147000, 148000]
theorem M_rung_fr {g : AG} : KpG W_M_rung g Prod.snd (M_rung g) := by
  unfold M_rung
  repeat' (first
    | exact KpG.none
    | exact KpG.ret rfl
    | refine KpG.ite (fun _ => ?_) (fun _ => ?_)
    | refine KpG.up rfl (fun _ => ?_)
    | refine KpG.fill rfl (fun _ => ?_)
    | refine KpG.copy rfl (fun _ => ?_)
    | refine KpG.call (W1 := W_M_rung_b) (M_rung_b_fr) (by decide +kernel) (fun _ => ?_)
    | exact KpG.tail (W1 := W_M_rung_b) (M_rung_b_fr) (by decide +kernel)
    | refine KpG.bind (ρ := fun r : AG => r) ?_ (fun _ => ?_)
    | refine KpG.bind (ρ := fun r : Int × AG => r.2) ?_ (fun _ => ?_)
    | refine KpG.bind (ρ := fun r : Int × Int × AG => r.2.2) ?_ (fun _ => ?_)
    | refine KpG.bind (ρ := fun r : Int × Int × Int × AG => r.2.2.2) ?_ (fun _ => ?_)
    | refine KpG.int (fun _ => ?_))
def W_M_pump : List Nat := [154000]
theorem M_pump_fr {x1 : Int} {x2 : Int} {g : AG} : KpG W_M_pump g Prod.snd (M_pump x1 x2 g) := by
  unfold M_pump
  repeat' (first
    | exact KpG.none
    | exact KpG.ret rfl
    | refine KpG.ite (fun _ => ?_) (fun _ => ?_)
    | refine KpG.up rfl (fun _ => ?_)
    | refine KpG.fill rfl (fun _ => ?_)
    | refine KpG.copy rfl (fun _ => ?_)
    | refine KpG.bind (ρ := fun r : AG => r) ?_ (fun _ => ?_)
    | refine KpG.bind (ρ := fun r : Int × AG => r.2) ?_ (fun _ => ?_)
    | refine KpG.bind (ρ := fun r : Int × Int × AG => r.2.2) ?_ (fun _ => ?_)
    | refine KpG.bind (ρ := fun r : Int × Int × Int × AG => r.2.2.2) ?_ (fun _ => ?_)
    | refine KpG.int (fun _ => ?_))
def W_M_pumped_b : List Nat := [147000, 148000]
set_option synthInstance.maxHeartbeats 2000000 in
theorem M_pumped_b_fr {x1 : Int} {x2 : Int} {x3 : Int} {x4 : Int} {x5 : Int} {x6 : Int} {x7 : Int} {x8 : Int} {g : AG} : KpG W_M_pumped_b g Prod.snd (M_pumped_b x1 x2 x3 x4 x5 x6 x7 x8 g) := by
  refine M_pumped_b.partial_correctness x1 x2 x3 x4 x5 (fun x6 x7 x8 g r => Fr W_M_pumped_b g r.2) ?_ x6 x7 x8 g
  intro fb9 ih x6 x7 x8 g
  show KpG W_M_pumped_b g Prod.snd _
  repeat' (first
    | exact KpG.none
    | exact KpG.ret rfl
    | refine KpG.ite (fun _ => ?_) (fun _ => ?_)
    | refine KpG.up rfl (fun _ => ?_)
    | refine KpG.fill rfl (fun _ => ?_)
    | refine KpG.copy rfl (fun _ => ?_)
    | refine KpG.call (W1 := W_M_led) (M_led_fr) (by decide +kernel) (fun _ => ?_)
    | exact KpG.tail (W1 := W_M_led) (M_led_fr) (by decide +kernel)
    | exact ih _ _ _ _
    | refine KpG.bind (ρ := fun r : AG => r) ?_ (fun _ => ?_)
    | refine KpG.bind (ρ := fun r : Int × AG => r.2) ?_ (fun _ => ?_)
    | refine KpG.bind (ρ := fun r : Int × Int × AG => r.2.2) ?_ (fun _ => ?_)
    | refine KpG.bind (ρ := fun r : Int × Int × Int × AG => r.2.2.2) ?_ (fun _ => ?_)
    | refine KpG.int (fun _ => ?_))
def W_M_pumped : List Nat := [147000, 148000]
theorem M_pumped_fr {x1 : Int} {x2 : Int} {x3 : Int} {x4 : Int} {x5 : Int} {g : AG} : KpG W_M_pumped g Prod.snd (M_pumped x1 x2 x3 x4 x5 g) := by
  unfold M_pumped
  repeat' (first
    | exact KpG.none
    | exact KpG.ret rfl
    | refine KpG.ite (fun _ => ?_) (fun _ => ?_)
    | refine KpG.up rfl (fun _ => ?_)
    | refine KpG.fill rfl (fun _ => ?_)
    | refine KpG.copy rfl (fun _ => ?_)
    | refine KpG.call (W1 := W_M_pumped_b) (M_pumped_b_fr) (by decide +kernel) (fun _ => ?_)
    | exact KpG.tail (W1 := W_M_pumped_b) (M_pumped_b_fr) (by decide +kernel)
    | refine KpG.bind (ρ := fun r : AG => r) ?_ (fun _ => ?_)
    | refine KpG.bind (ρ := fun r : Int × AG => r.2) ?_ (fun _ => ?_)
    | refine KpG.bind (ρ := fun r : Int × Int × AG => r.2.2) ?_ (fun _ => ?_)
    | refine KpG.bind (ρ := fun r : Int × Int × Int × AG => r.2.2.2) ?_ (fun _ => ?_)
    | refine KpG.int (fun _ => ?_))
def W_M_log_b : List Nat := [155000, 156000, 157000]
theorem M_log_b_fr {x1 : Int} {x2 : Int} {x3 : Int} {g : AG} : KpG W_M_log_b g Prod.snd (M_log_b x1 x2 x3 g) := by
  unfold M_log_b
  repeat' (first
    | exact KpG.none
    | exact KpG.ret rfl
    | refine KpG.ite (fun _ => ?_) (fun _ => ?_)
    | refine KpG.up rfl (fun _ => ?_)
    | refine KpG.fill rfl (fun _ => ?_)
    | refine KpG.copy rfl (fun _ => ?_)
    | refine KpG.bind (ρ := fun r : AG => r) ?_ (fun _ => ?_)
    | refine KpG.bind (ρ := fun r : Int × AG => r.2) ?_ (fun _ => ?_)
    | refine KpG.bind (ρ := fun r : Int × Int × AG => r.2.2) ?_ (fun _ => ?_)
    | refine KpG.bind (ρ := fun r : Int × Int × Int × AG => r.2.2.2) ?_ (fun _ => ?_)
    | refine KpG.int (fun _ => ?_))
def W_M_log : List Nat := [155000, 156000, 157000]
theorem M_log_fr {x1 : Int} {x2 : Int} {x3 : Int} {g : AG} : KpG W_M_log g Prod.snd (M_log x1 x2 x3 g) := by
  unfold M_log
  repeat' (first
    | exact KpG.none
    | exact KpG.ret rfl
    | refine KpG.ite (fun _ => ?_) (fun _ => ?_)
    | refine KpG.up rfl (fun _ => ?_)
    | refine KpG.fill rfl (fun _ => ?_)
    | refine KpG.copy rfl (fun _ => ?_)
    | refine KpG.call (W1 := W_M_log_b) (M_log_b_fr) (by decide +kernel) (fun _ => ?_)
    | exact KpG.tail (W1 := W_M_log_b) (M_log_b_fr) (by decide +kernel)
    | refine KpG.bind (ρ := fun r : AG => r) ?_ (fun _ => ?_)
    | refine KpG.bind (ρ := fun r : Int × AG => r.2) ?_ (fun _ => ?_)
    | refine KpG.bind (ρ := fun r : Int × Int × AG => r.2.2) ?_ (fun _ => ?_)
    | refine KpG.bind (ρ := fun r : Int × Int × Int × AG => r.2.2.2) ?_ (fun _ => ?_)
    | refine KpG.int (fun _ => ?_))
def W_M_between_b : List Nat := [147000, 148000]
theorem M_between_b_fr {x1 : Int} {x2 : Int} {x5 : Int} {x8 : Int} {x9 : Int} {g : AG} : KpG W_M_between_b g Prod.snd (M_between_b x1 x2 x5 x8 x9 g) := by
  unfold M_between_b
  repeat' (first
    | exact KpG.none
    | exact KpG.ret rfl
    | refine KpG.ite (fun _ => ?_) (fun _ => ?_)
    | refine KpG.up rfl (fun _ => ?_)
    | refine KpG.fill rfl (fun _ => ?_)
    | refine KpG.copy rfl (fun _ => ?_)
    | refine KpG.call (W1 := W_M_led) (M_led_fr) (by decide +kernel) (fun _ => ?_)
    | exact KpG.tail (W1 := W_M_led) (M_led_fr) (by decide +kernel)
    | refine KpG.bind (ρ := fun r : AG => r) ?_ (fun _ => ?_)
    | refine KpG.bind (ρ := fun r : Int × AG => r.2) ?_ (fun _ => ?_)
    | refine KpG.bind (ρ := fun r : Int × Int × AG => r.2.2) ?_ (fun _ => ?_)
    | refine KpG.bind (ρ := fun r : Int × Int × Int × AG => r.2.2.2) ?_ (fun _ => ?_)
    | refine KpG.int (fun _ => ?_))
def W_M_between : List Nat := [147000, 148000]
theorem M_between_fr {x1 : Int} {x2 : Int} {x3 : Int} {x4 : Int} {x5 : Int} {g : AG} : KpG W_M_between g Prod.snd (M_between x1 x2 x3 x4 x5 g) := by
  unfold M_between
  repeat' (first
    | exact KpG.none
    | exact KpG.ret rfl
    | refine KpG.ite (fun _ => ?_) (fun _ => ?_)
    | refine KpG.up rfl (fun _ => ?_)
    | refine KpG.fill rfl (fun _ => ?_)
    | refine KpG.copy rfl (fun _ => ?_)
    | refine KpG.call (W1 := W_M_led) (M_led_fr) (by decide +kernel) (fun _ => ?_)
    | exact KpG.tail (W1 := W_M_led) (M_led_fr) (by decide +kernel)
    | refine KpG.call (W1 := W_M_between_b) (M_between_b_fr) (by decide +kernel) (fun _ => ?_)
    | exact KpG.tail (W1 := W_M_between_b) (M_between_b_fr) (by decide +kernel)
    | refine KpG.bind (ρ := fun r : AG => r) ?_ (fun _ => ?_)
    | refine KpG.bind (ρ := fun r : Int × AG => r.2) ?_ (fun _ => ?_)
    | refine KpG.bind (ρ := fun r : Int × Int × AG => r.2.2) ?_ (fun _ => ?_)
    | refine KpG.bind (ρ := fun r : Int × Int × Int × AG => r.2.2.2) ?_ (fun _ => ?_)
    | refine KpG.int (fun _ => ?_))
def W_M_canHaveBeen_b : List Nat := [147000, 148000]
set_option synthInstance.maxHeartbeats 2000000 in
theorem M_canHaveBeen_b_fr {x1 : Int} {x2 : Int} {x3 : Int} {x4 : Int} {x5 : Int} {g : AG} : KpG W_M_canHaveBeen_b g Prod.snd (M_canHaveBeen_b x1 x2 x3 x4 x5 g) := by
  refine M_canHaveBeen_b.partial_correctness x1 x2 x3 x4 (fun x5 g r => Fr W_M_canHaveBeen_b g r.2) ?_ x5 g
  intro fb9 ih x5 g
  show KpG W_M_canHaveBeen_b g Prod.snd _
  repeat' (first
    | exact KpG.none
    | exact KpG.ret rfl
    | refine KpG.ite (fun _ => ?_) (fun _ => ?_)
    | refine KpG.up rfl (fun _ => ?_)
    | refine KpG.fill rfl (fun _ => ?_)
    | refine KpG.copy rfl (fun _ => ?_)
    | refine KpG.call (W1 := W_M_between) (M_between_fr) (by decide +kernel) (fun _ => ?_)
    | exact KpG.tail (W1 := W_M_between) (M_between_fr) (by decide +kernel)
    | exact ih _ _
    | refine KpG.bind (ρ := fun r : AG => r) ?_ (fun _ => ?_)
    | refine KpG.bind (ρ := fun r : Int × AG => r.2) ?_ (fun _ => ?_)
    | refine KpG.bind (ρ := fun r : Int × Int × AG => r.2.2) ?_ (fun _ => ?_)
    | refine KpG.bind (ρ := fun r : Int × Int × Int × AG => r.2.2.2) ?_ (fun _ => ?_)
    | refine KpG.int (fun _ => ?_))
def W_M_canHaveBeen : List Nat := [147000, 148000]
theorem M_canHaveBeen_fr {x1 : Int} {x2 : Int} {x3 : Int} {x4 : Int} {g : AG} : KpG W_M_canHaveBeen g Prod.snd (M_canHaveBeen x1 x2 x3 x4 g) := by
  unfold M_canHaveBeen
  repeat' (first
    | exact KpG.none
    | exact KpG.ret rfl
    | refine KpG.ite (fun _ => ?_) (fun _ => ?_)
    | refine KpG.up rfl (fun _ => ?_)
    | refine KpG.fill rfl (fun _ => ?_)
    | refine KpG.copy rfl (fun _ => ?_)
    | refine KpG.call (W1 := W_M_canHaveBeen_b) (M_canHaveBeen_b_fr) (by decide +kernel) (fun _ => ?_)
    | exact KpG.tail (W1 := W_M_canHaveBeen_b) (M_canHaveBeen_b_fr) (by decide +kernel)
    | refine KpG.bind (ρ := fun r : AG => r) ?_ (fun _ => ?_)
    | refine KpG.bind (ρ := fun r : Int × AG => r.2) ?_ (fun _ => ?_)
    | refine KpG.bind (ρ := fun r : Int × Int × AG => r.2.2) ?_ (fun _ => ?_)
    | refine KpG.bind (ρ := fun r : Int × Int × Int × AG => r.2.2.2) ?_ (fun _ => ?_)
    | refine KpG.int (fun _ => ?_))
def W_M_could : List Nat := [147000, 148000]
theorem M_could_fr {x1 : Int} {x2 : Int} {x3 : Int} {x4 : Int} {g : AG} : KpG W_M_could g Prod.snd (M_could x1 x2 x3 x4 g) := by
  unfold M_could
  repeat' (first
    | exact KpG.none
    | exact KpG.ret rfl
    | refine KpG.ite (fun _ => ?_) (fun _ => ?_)
    | refine KpG.up rfl (fun _ => ?_)
    | refine KpG.fill rfl (fun _ => ?_)
    | refine KpG.copy rfl (fun _ => ?_)
    | refine KpG.call (W1 := W_M_canHaveBeen) (M_canHaveBeen_fr) (by decide +kernel) (fun _ => ?_)
    | exact KpG.tail (W1 := W_M_canHaveBeen) (M_canHaveBeen_fr) (by decide +kernel)
    | refine KpG.bind (ρ := fun r : AG => r) ?_ (fun _ => ?_)
    | refine KpG.bind (ρ := fun r : Int × AG => r.2) ?_ (fun _ => ?_)
    | refine KpG.bind (ρ := fun r : Int × Int × AG => r.2.2) ?_ (fun _ => ?_)
    | refine KpG.bind (ρ := fun r : Int × Int × Int × AG => r.2.2.2) ?_ (fun _ => ?_)
    | refine KpG.int (fun _ => ?_))
def W_M_whose_b : List Nat := [147000, 148000]
set_option synthInstance.maxHeartbeats 2000000 in
theorem M_whose_b_fr {x1 : Int} {x2 : Int} {x3 : Int} {x4 : Int} {x5 : Int} {x6 : Int} {x7 : Int} {x8 : Int} {g : AG} : KpG W_M_whose_b g Prod.snd (M_whose_b x1 x2 x3 x4 x5 x6 x7 x8 g) := by
  refine M_whose_b.partial_correctness x1 x2 x3 x4 (fun x5 x6 x7 x8 g r => Fr W_M_whose_b g r.2) ?_ x5 x6 x7 x8 g
  intro fb9 ih x5 x6 x7 x8 g
  show KpG W_M_whose_b g Prod.snd _
  repeat' (first
    | exact KpG.none
    | exact KpG.ret rfl
    | refine KpG.ite (fun _ => ?_) (fun _ => ?_)
    | refine KpG.up rfl (fun _ => ?_)
    | refine KpG.fill rfl (fun _ => ?_)
    | refine KpG.copy rfl (fun _ => ?_)
    | refine KpG.call (W1 := W_M_canHaveBeen) (M_canHaveBeen_fr) (by decide +kernel) (fun _ => ?_)
    | exact KpG.tail (W1 := W_M_canHaveBeen) (M_canHaveBeen_fr) (by decide +kernel)
    | exact ih _ _ _ _ _
    | refine KpG.bind (ρ := fun r : AG => r) ?_ (fun _ => ?_)
    | refine KpG.bind (ρ := fun r : Int × AG => r.2) ?_ (fun _ => ?_)
    | refine KpG.bind (ρ := fun r : Int × Int × AG => r.2.2) ?_ (fun _ => ?_)
    | refine KpG.bind (ρ := fun r : Int × Int × Int × AG => r.2.2.2) ?_ (fun _ => ?_)
    | refine KpG.int (fun _ => ?_))
def W_M_whose : List Nat := [147000, 148000]
theorem M_whose_fr {x1 : Int} {x2 : Int} {x3 : Int} {x4 : Int} {g : AG} : KpG W_M_whose g Prod.snd (M_whose x1 x2 x3 x4 g) := by
  unfold M_whose
  repeat' (first
    | exact KpG.none
    | exact KpG.ret rfl
    | refine KpG.ite (fun _ => ?_) (fun _ => ?_)
    | refine KpG.up rfl (fun _ => ?_)
    | refine KpG.fill rfl (fun _ => ?_)
    | refine KpG.copy rfl (fun _ => ?_)
    | refine KpG.call (W1 := W_M_whose_b) (M_whose_b_fr) (by decide +kernel) (fun _ => ?_)
    | exact KpG.tail (W1 := W_M_whose_b) (M_whose_b_fr) (by decide +kernel)
    | refine KpG.bind (ρ := fun r : AG => r) ?_ (fun _ => ?_)
    | refine KpG.bind (ρ := fun r : Int × AG => r.2) ?_ (fun _ => ?_)
    | refine KpG.bind (ρ := fun r : Int × Int × AG => r.2.2) ?_ (fun _ => ?_)
    | refine KpG.bind (ρ := fun r : Int × Int × Int × AG => r.2.2.2) ?_ (fun _ => ?_)
    | refine KpG.int (fun _ => ?_))
def W_M_tonight_b : List Nat := [147000, 148000]
set_option synthInstance.maxHeartbeats 2000000 in
theorem M_tonight_b_fr {x1 : Int} {x2 : Int} {tag : Nat} {p : Int × Int × Int × Int × Int × Int × Int} {g : AG} : KpG W_M_tonight_b g Prod.snd (M_tonight_b x1 x2 tag p g) := by
  refine M_tonight_b.partial_correctness x1 x2 (fun tag p g r => Fr W_M_tonight_b g r.2) ?_ tag p g
  intro fb9 ih tag p g
  show KpG W_M_tonight_b g Prod.snd _
  repeat' (first
    | exact KpG.none
    | exact KpG.ret rfl
    | refine KpG.ite (fun _ => ?_) (fun _ => ?_)
    | refine KpG.up rfl (fun _ => ?_)
    | refine KpG.fill rfl (fun _ => ?_)
    | refine KpG.copy rfl (fun _ => ?_)
    | refine KpG.call (W1 := W_M_led) (M_led_fr) (by decide +kernel) (fun _ => ?_)
    | exact KpG.tail (W1 := W_M_led) (M_led_fr) (by decide +kernel)
    | exact ih _ _ _
    | refine KpG.bind (ρ := fun r : AG => r) ?_ (fun _ => ?_)
    | refine KpG.bind (ρ := fun r : Int × AG => r.2) ?_ (fun _ => ?_)
    | refine KpG.bind (ρ := fun r : Int × Int × AG => r.2.2) ?_ (fun _ => ?_)
    | refine KpG.bind (ρ := fun r : Int × Int × Int × AG => r.2.2.2) ?_ (fun _ => ?_)
    | refine KpG.int (fun _ => ?_))
def W_M_tonight : List Nat := [147000, 148000]
theorem M_tonight_fr {x1 : Int} {x2 : Int} {g : AG} : KpG W_M_tonight g Prod.snd (M_tonight x1 x2 g) := by
  unfold M_tonight
  repeat' (first
    | exact KpG.none
    | exact KpG.ret rfl
    | refine KpG.ite (fun _ => ?_) (fun _ => ?_)
    | refine KpG.up rfl (fun _ => ?_)
    | refine KpG.fill rfl (fun _ => ?_)
    | refine KpG.copy rfl (fun _ => ?_)
    | refine KpG.call (W1 := W_M_tonight_b) (M_tonight_b_fr) (by decide +kernel) (fun _ => ?_)
    | exact KpG.tail (W1 := W_M_tonight_b) (M_tonight_b_fr) (by decide +kernel)
    | refine KpG.bind (ρ := fun r : AG => r) ?_ (fun _ => ?_)
    | refine KpG.bind (ρ := fun r : Int × AG => r.2) ?_ (fun _ => ?_)
    | refine KpG.bind (ρ := fun r : Int × Int × AG => r.2.2) ?_ (fun _ => ?_)
    | refine KpG.bind (ρ := fun r : Int × Int × Int × AG => r.2.2.2) ?_ (fun _ => ?_)
    | refine KpG.int (fun _ => ?_))
def W_M_queue_b : List Nat := [117060, 158000, 159000]
theorem M_queue_b_fr {x1 : Int} {x2 : Int} {g : AG} : KpG W_M_queue_b g Prod.snd (M_queue_b x1 x2 g) := by
  unfold M_queue_b
  repeat' (first
    | exact KpG.none
    | exact KpG.ret rfl
    | refine KpG.ite (fun _ => ?_) (fun _ => ?_)
    | refine KpG.up rfl (fun _ => ?_)
    | refine KpG.fill rfl (fun _ => ?_)
    | refine KpG.copy rfl (fun _ => ?_)
    | refine KpG.bind (ρ := fun r : AG => r) ?_ (fun _ => ?_)
    | refine KpG.bind (ρ := fun r : Int × AG => r.2) ?_ (fun _ => ?_)
    | refine KpG.bind (ρ := fun r : Int × Int × AG => r.2.2) ?_ (fun _ => ?_)
    | refine KpG.bind (ρ := fun r : Int × Int × Int × AG => r.2.2.2) ?_ (fun _ => ?_)
    | refine KpG.int (fun _ => ?_))
def W_M_queue : List Nat := [117060, 158000, 159000]
theorem M_queue_fr {x1 : Int} {x2 : Int} {g : AG} : KpG W_M_queue g Prod.snd (M_queue x1 x2 g) := by
  unfold M_queue
  repeat' (first
    | exact KpG.none
    | exact KpG.ret rfl
    | refine KpG.ite (fun _ => ?_) (fun _ => ?_)
    | refine KpG.up rfl (fun _ => ?_)
    | refine KpG.fill rfl (fun _ => ?_)
    | refine KpG.copy rfl (fun _ => ?_)
    | refine KpG.call (W1 := W_M_queue_b) (M_queue_b_fr) (by decide +kernel) (fun _ => ?_)
    | exact KpG.tail (W1 := W_M_queue_b) (M_queue_b_fr) (by decide +kernel)
    | refine KpG.bind (ρ := fun r : AG => r) ?_ (fun _ => ?_)
    | refine KpG.bind (ρ := fun r : Int × AG => r.2) ?_ (fun _ => ?_)
    | refine KpG.bind (ρ := fun r : Int × Int × AG => r.2.2) ?_ (fun _ => ?_)
    | refine KpG.bind (ρ := fun r : Int × Int × Int × AG => r.2.2.2) ?_ (fun _ => ?_)
    | refine KpG.int (fun _ => ?_))
def W_M_orders_b : List Nat := [117065, 160000, 161000]
set_option synthInstance.maxHeartbeats 2000000 in
theorem M_orders_b_fr {rec : Int → Int → AG → Option (Int × AG)} {x1 : Int} {x2 : Int} {tag : Nat} {x3 : Int} {x4 : Int} {g : AG} (hrec : ∀ (a0 a1 : Int) (g : AG), KpG [117065, 160000, 161000] g Prod.snd (rec a0 a1 g)) : KpG W_M_orders_b g Prod.snd (M_orders_b rec x1 x2 tag x3 x4 g) := by
  refine M_orders_b.partial_correctness rec x1 x2 (fun tag x3 x4 g r => Fr W_M_orders_b g r.2) ?_ tag x3 x4 g
  intro fb9 ih tag x3 x4 g
  show KpG W_M_orders_b g Prod.snd _
  repeat' (first
    | exact KpG.none
    | exact KpG.ret rfl
    | refine KpG.ite (fun _ => ?_) (fun _ => ?_)
    | refine KpG.up rfl (fun _ => ?_)
    | refine KpG.fill rfl (fun _ => ?_)
    | refine KpG.copy rfl (fun _ => ?_)
    | refine KpG.call (W1 := [117065, 160000, 161000]) (hrec _ _ _) (by decide +kernel) (fun _ => ?_)
    | exact KpG.tail (W1 := [117065, 160000, 161000]) (hrec _ _ _) (by decide +kernel)
    | exact ih _ _ _ _
    | refine KpG.bind (ρ := fun r : AG => r) ?_ (fun _ => ?_)
    | refine KpG.bind (ρ := fun r : Int × AG => r.2) ?_ (fun _ => ?_)
    | refine KpG.bind (ρ := fun r : Int × Int × AG => r.2.2) ?_ (fun _ => ?_)
    | refine KpG.bind (ρ := fun r : Int × Int × Int × AG => r.2.2.2) ?_ (fun _ => ?_)
    | refine KpG.int (fun _ => ?_))
def W_M_orders_s : List Nat := [117065, 160000, 161000]
theorem M_orders_s_fr {rec : Int → Int → AG → Option (Int × AG)} {x1 : Int} {x2 : Int} {g : AG} (hrec : ∀ (a0 a1 : Int) (g : AG), KpG [117065, 160000, 161000] g Prod.snd (rec a0 a1 g)) : KpG W_M_orders_s g Prod.snd (M_orders_s rec x1 x2 g) := by
  unfold M_orders_s
  repeat' (first
    | exact KpG.none
    | exact KpG.ret rfl
    | refine KpG.ite (fun _ => ?_) (fun _ => ?_)
    | refine KpG.up rfl (fun _ => ?_)
    | refine KpG.fill rfl (fun _ => ?_)
    | refine KpG.copy rfl (fun _ => ?_)
    | refine KpG.call (W1 := W_M_orders_b) (M_orders_b_fr hrec) (by decide +kernel) (fun _ => ?_)
    | exact KpG.tail (W1 := W_M_orders_b) (M_orders_b_fr hrec) (by decide +kernel)
    | refine KpG.call (W1 := [117065, 160000, 161000]) (hrec _ _ _) (by decide +kernel) (fun _ => ?_)
    | exact KpG.tail (W1 := [117065, 160000, 161000]) (hrec _ _ _) (by decide +kernel)
    | refine KpG.bind (ρ := fun r : AG => r) ?_ (fun _ => ?_)
    | refine KpG.bind (ρ := fun r : Int × AG => r.2) ?_ (fun _ => ?_)
    | refine KpG.bind (ρ := fun r : Int × Int × AG => r.2.2) ?_ (fun _ => ?_)
    | refine KpG.bind (ρ := fun r : Int × Int × Int × AG => r.2.2.2) ?_ (fun _ => ?_)
    | refine KpG.int (fun _ => ?_))
def W_M_orders : List Nat := [117065, 160000, 161000]
theorem M_orders_fr {n : Nat} {x1 x2 : Int} {g : AG} : KpG W_M_orders g Prod.snd (M_orders n x1 x2 g) := by
  induction n generalizing x1 x2 g with
  | zero => exact KpG.none
  | succ n ih => exact M_orders_s_fr (rec := M_orders n) (fun _ _ g => ih)
def W_M_asTheyCome_b : List Nat := [160000]
set_option synthInstance.maxHeartbeats 2000000 in
theorem M_asTheyCome_b_fr {x1 : Int} {g : AG} : KpG W_M_asTheyCome_b g Prod.snd (M_asTheyCome_b x1 g) := by
  refine M_asTheyCome_b.partial_correctness (fun x1 g r => Fr W_M_asTheyCome_b g r.2) ?_ x1 g
  intro fb9 ih x1 g
  show KpG W_M_asTheyCome_b g Prod.snd _
  repeat' (first
    | exact KpG.none
    | exact KpG.ret rfl
    | refine KpG.ite (fun _ => ?_) (fun _ => ?_)
    | refine KpG.up rfl (fun _ => ?_)
    | refine KpG.fill rfl (fun _ => ?_)
    | refine KpG.copy rfl (fun _ => ?_)
    | exact ih _ _
    | refine KpG.bind (ρ := fun r : AG => r) ?_ (fun _ => ?_)
    | refine KpG.bind (ρ := fun r : Int × AG => r.2) ?_ (fun _ => ?_)
    | refine KpG.bind (ρ := fun r : Int × Int × AG => r.2.2) ?_ (fun _ => ?_)
    | refine KpG.bind (ρ := fun r : Int × Int × Int × AG => r.2.2.2) ?_ (fun _ => ?_)
    | refine KpG.int (fun _ => ?_))
def W_M_asTheyCome : List Nat := [160000]
theorem M_asTheyCome_fr {g : AG} : KpG W_M_asTheyCome g Prod.snd (M_asTheyCome g) := by
  unfold M_asTheyCome
  repeat' (first
    | exact KpG.none
    | exact KpG.ret rfl
    | refine KpG.ite (fun _ => ?_) (fun _ => ?_)
    | refine KpG.up rfl (fun _ => ?_)
    | refine KpG.fill rfl (fun _ => ?_)
    | refine KpG.copy rfl (fun _ => ?_)
    | refine KpG.call (W1 := W_M_asTheyCome_b) (M_asTheyCome_b_fr) (by decide +kernel) (fun _ => ?_)
    | exact KpG.tail (W1 := W_M_asTheyCome_b) (M_asTheyCome_b_fr) (by decide +kernel)
    | refine KpG.bind (ρ := fun r : AG => r) ?_ (fun _ => ?_)
    | refine KpG.bind (ρ := fun r : Int × AG => r.2) ?_ (fun _ => ?_)
    | refine KpG.bind (ρ := fun r : Int × Int × AG => r.2.2) ?_ (fun _ => ?_)
    | refine KpG.bind (ρ := fun r : Int × Int × Int × AG => r.2.2.2) ?_ (fun _ => ?_)
    | refine KpG.int (fun _ => ?_))
def W_M_lock_b : List Nat := [117065, 160000, 161000]
set_option synthInstance.maxHeartbeats 2000000 in
theorem M_lock_b_fr {x1 : Int} {tag : Nat} {x2 : Int} {g : AG} : KpG W_M_lock_b g Prod.snd (M_lock_b x1 tag x2 g) := by
  refine M_lock_b.partial_correctness x1 (fun tag x2 g r => Fr W_M_lock_b g r.2) ?_ tag x2 g
  intro fb9 ih tag x2 g
  show KpG W_M_lock_b g Prod.snd _
  repeat' (first
    | exact KpG.none
    | exact KpG.ret rfl
    | refine KpG.ite (fun _ => ?_) (fun _ => ?_)
    | refine KpG.up rfl (fun _ => ?_)
    | refine KpG.fill rfl (fun _ => ?_)
    | refine KpG.copy rfl (fun _ => ?_)
    | refine KpG.call (W1 := W_M_orders) (M_orders_fr) (by decide +kernel) (fun _ => ?_)
    | exact KpG.tail (W1 := W_M_orders) (M_orders_fr) (by decide +kernel)
    | refine KpG.call (W1 := W_M_asTheyCome) (M_asTheyCome_fr) (by decide +kernel) (fun _ => ?_)
    | exact KpG.tail (W1 := W_M_asTheyCome) (M_asTheyCome_fr) (by decide +kernel)
    | exact ih _ _ _
    | refine KpG.bind (ρ := fun r : AG => r) ?_ (fun _ => ?_)
    | refine KpG.bind (ρ := fun r : Int × AG => r.2) ?_ (fun _ => ?_)
    | refine KpG.bind (ρ := fun r : Int × Int × AG => r.2.2) ?_ (fun _ => ?_)
    | refine KpG.bind (ρ := fun r : Int × Int × Int × AG => r.2.2.2) ?_ (fun _ => ?_)
    | refine KpG.int (fun _ => ?_))
def W_M_lock : List Nat := [117065, 160000, 161000]
theorem M_lock_fr {x1 : Int} {g : AG} : KpG W_M_lock g Prod.snd (M_lock x1 g) := by
  unfold M_lock
  repeat' (first
    | exact KpG.none
    | exact KpG.ret rfl
    | refine KpG.ite (fun _ => ?_) (fun _ => ?_)
    | refine KpG.up rfl (fun _ => ?_)
    | refine KpG.fill rfl (fun _ => ?_)
    | refine KpG.copy rfl (fun _ => ?_)
    | refine KpG.call (W1 := W_M_lock_b) (M_lock_b_fr) (by decide +kernel) (fun _ => ?_)
    | exact KpG.tail (W1 := W_M_lock_b) (M_lock_b_fr) (by decide +kernel)
    | refine KpG.bind (ρ := fun r : AG => r) ?_ (fun _ => ?_)
    | refine KpG.bind (ρ := fun r : Int × AG => r.2) ?_ (fun _ => ?_)
    | refine KpG.bind (ρ := fun r : Int × Int × AG => r.2.2) ?_ (fun _ => ?_)
    | refine KpG.bind (ρ := fun r : Int × Int × Int × AG => r.2.2.2) ?_ (fun _ => ?_)
    | refine KpG.int (fun _ => ?_))
def W_M_booking : List Nat := [117066, 162000, 163000, 164000, 165000]
theorem M_booking_fr {x1 : Int} {x2 : Int} {x3 : Int} {x4 : Int} {g : AG} : KpG W_M_booking g Prod.snd (M_booking x1 x2 x3 x4 g) := by
  unfold M_booking
  repeat' (first
    | exact KpG.none
    | exact KpG.ret rfl
    | refine KpG.ite (fun _ => ?_) (fun _ => ?_)
    | refine KpG.up rfl (fun _ => ?_)
    | refine KpG.fill rfl (fun _ => ?_)
    | refine KpG.copy rfl (fun _ => ?_)
    | refine KpG.bind (ρ := fun r : AG => r) ?_ (fun _ => ?_)
    | refine KpG.bind (ρ := fun r : Int × AG => r.2) ?_ (fun _ => ?_)
    | refine KpG.bind (ρ := fun r : Int × Int × AG => r.2.2) ?_ (fun _ => ?_)
    | refine KpG.bind (ρ := fun r : Int × Int × Int × AG => r.2.2.2) ?_ (fun _ => ?_)
    | refine KpG.int (fun _ => ?_))
def W_M_asks_b : List Nat := [171000, 172000]
set_option synthInstance.maxHeartbeats 2000000 in
theorem M_asks_b_fr {x1 : Int} {x2 : Int} {g : AG} : KpG W_M_asks_b g Prod.snd (M_asks_b x1 x2 g) := by
  refine M_asks_b.partial_correctness x1 (fun x2 g r => Fr W_M_asks_b g r.2) ?_ x2 g
  intro fb9 ih x2 g
  show KpG W_M_asks_b g Prod.snd _
  repeat' (first
    | exact KpG.none
    | exact KpG.ret rfl
    | refine KpG.ite (fun _ => ?_) (fun _ => ?_)
    | refine KpG.up rfl (fun _ => ?_)
    | refine KpG.fill rfl (fun _ => ?_)
    | refine KpG.copy rfl (fun _ => ?_)
    | exact ih _ _
    | refine KpG.bind (ρ := fun r : AG => r) ?_ (fun _ => ?_)
    | refine KpG.bind (ρ := fun r : Int × AG => r.2) ?_ (fun _ => ?_)
    | refine KpG.bind (ρ := fun r : Int × Int × AG => r.2.2) ?_ (fun _ => ?_)
    | refine KpG.bind (ρ := fun r : Int × Int × Int × AG => r.2.2.2) ?_ (fun _ => ?_)
    | refine KpG.int (fun _ => ?_))
def W_M_asks : List Nat := [171000, 172000]
theorem M_asks_fr {x1 : Int} {g : AG} : KpG W_M_asks g Prod.snd (M_asks x1 g) := by
  unfold M_asks
  repeat' (first
    | exact KpG.none
    | exact KpG.ret rfl
    | refine KpG.ite (fun _ => ?_) (fun _ => ?_)
    | refine KpG.up rfl (fun _ => ?_)
    | refine KpG.fill rfl (fun _ => ?_)
    | refine KpG.copy rfl (fun _ => ?_)
    | refine KpG.call (W1 := W_M_asks_b) (M_asks_b_fr) (by decide +kernel) (fun _ => ?_)
    | exact KpG.tail (W1 := W_M_asks_b) (M_asks_b_fr) (by decide +kernel)
    | refine KpG.bind (ρ := fun r : AG => r) ?_ (fun _ => ?_)
    | refine KpG.bind (ρ := fun r : Int × AG => r.2) ?_ (fun _ => ?_)
    | refine KpG.bind (ρ := fun r : Int × Int × AG => r.2.2) ?_ (fun _ => ?_)
    | refine KpG.bind (ρ := fun r : Int × Int × Int × AG => r.2.2.2) ?_ (fun _ => ?_)
    | refine KpG.int (fun _ => ?_))
def W_M_sorts_b : List Nat := [166000]
set_option synthInstance.maxHeartbeats 2000000 in
theorem M_sorts_b_fr {tag : Nat} {x1 : Int} {x2 : Int} {g : AG} : KpG W_M_sorts_b g Prod.snd (M_sorts_b tag x1 x2 g) := by
  refine M_sorts_b.partial_correctness (fun tag x1 x2 g r => Fr W_M_sorts_b g r.2) ?_ tag x1 x2 g
  intro fb9 ih tag x1 x2 g
  show KpG W_M_sorts_b g Prod.snd _
  repeat' (first
    | exact KpG.none
    | exact KpG.ret rfl
    | refine KpG.ite (fun _ => ?_) (fun _ => ?_)
    | refine KpG.up rfl (fun _ => ?_)
    | refine KpG.fill rfl (fun _ => ?_)
    | refine KpG.copy rfl (fun _ => ?_)
    | exact ih _ _ _ _
    | refine KpG.bind (ρ := fun r : AG => r) ?_ (fun _ => ?_)
    | refine KpG.bind (ρ := fun r : Int × AG => r.2) ?_ (fun _ => ?_)
    | refine KpG.bind (ρ := fun r : Int × Int × AG => r.2.2) ?_ (fun _ => ?_)
    | refine KpG.bind (ρ := fun r : Int × Int × Int × AG => r.2.2.2) ?_ (fun _ => ?_)
    | refine KpG.int (fun _ => ?_))
def W_M_sorts : List Nat := [166000]
theorem M_sorts_fr {g : AG} : KpG W_M_sorts g Prod.snd (M_sorts g) := by
  unfold M_sorts
  repeat' (first
    | exact KpG.none
    | exact KpG.ret rfl
    | refine KpG.ite (fun _ => ?_) (fun _ => ?_)
    | refine KpG.up rfl (fun _ => ?_)
    | refine KpG.fill rfl (fun _ => ?_)
    | refine KpG.copy rfl (fun _ => ?_)
    | refine KpG.call (W1 := W_M_sorts_b) (M_sorts_b_fr) (by decide +kernel) (fun _ => ?_)
    | exact KpG.tail (W1 := W_M_sorts_b) (M_sorts_b_fr) (by decide +kernel)
    | refine KpG.bind (ρ := fun r : AG => r) ?_ (fun _ => ?_)
    | refine KpG.bind (ρ := fun r : Int × AG => r.2) ?_ (fun _ => ?_)
    | refine KpG.bind (ρ := fun r : Int × Int × AG => r.2.2) ?_ (fun _ => ?_)
    | refine KpG.bind (ρ := fun r : Int × Int × Int × AG => r.2.2.2) ?_ (fun _ => ?_)
    | refine KpG.int (fun _ => ?_))
def W_M_gives_b : List Nat := [117067, 117068, 167000, 168000, 169000, 170000]
set_option synthInstance.maxHeartbeats 2000000 in
theorem M_gives_b_fr {rec : Int → Int → Int → AG → Option (Int × AG)} {x1 : Int} {x2 : Int} {x3 : Int} {tag : Nat} {x4 : Int} {x5 : Int} {g : AG} (hrec : ∀ (a0 a1 a2 : Int) (g : AG), KpG [117067, 117068, 167000, 168000, 169000, 170000] g Prod.snd (rec a0 a1 a2 g)) : KpG W_M_gives_b g Prod.snd (M_gives_b rec x1 x2 x3 tag x4 x5 g) := by
  refine M_gives_b.partial_correctness rec x1 x2 x3 (fun tag x4 x5 g r => Fr W_M_gives_b g r.2) ?_ tag x4 x5 g
  intro fb9 ih tag x4 x5 g
  show KpG W_M_gives_b g Prod.snd _
  repeat' (first
    | exact KpG.none
    | exact KpG.ret rfl
    | refine KpG.ite (fun _ => ?_) (fun _ => ?_)
    | refine KpG.up rfl (fun _ => ?_)
    | refine KpG.fill rfl (fun _ => ?_)
    | refine KpG.copy rfl (fun _ => ?_)
    | refine KpG.call (W1 := [117067, 117068, 167000, 168000, 169000, 170000]) (hrec _ _ _ _) (by decide +kernel) (fun _ => ?_)
    | exact KpG.tail (W1 := [117067, 117068, 167000, 168000, 169000, 170000]) (hrec _ _ _ _) (by decide +kernel)
    | exact ih _ _ _ _
    | refine KpG.bind (ρ := fun r : AG => r) ?_ (fun _ => ?_)
    | refine KpG.bind (ρ := fun r : Int × AG => r.2) ?_ (fun _ => ?_)
    | refine KpG.bind (ρ := fun r : Int × Int × AG => r.2.2) ?_ (fun _ => ?_)
    | refine KpG.bind (ρ := fun r : Int × Int × Int × AG => r.2.2.2) ?_ (fun _ => ?_)
    | refine KpG.int (fun _ => ?_))
def W_M_gives_s : List Nat := [117067, 117068, 167000, 168000, 169000, 170000]
theorem M_gives_s_fr {rec : Int → Int → Int → AG → Option (Int × AG)} {x1 : Int} {x2 : Int} {x3 : Int} {g : AG} (hrec : ∀ (a0 a1 a2 : Int) (g : AG), KpG [117067, 117068, 167000, 168000, 169000, 170000] g Prod.snd (rec a0 a1 a2 g)) : KpG W_M_gives_s g Prod.snd (M_gives_s rec x1 x2 x3 g) := by
  unfold M_gives_s
  repeat' (first
    | exact KpG.none
    | exact KpG.ret rfl
    | refine KpG.ite (fun _ => ?_) (fun _ => ?_)
    | refine KpG.up rfl (fun _ => ?_)
    | refine KpG.fill rfl (fun _ => ?_)
    | refine KpG.copy rfl (fun _ => ?_)
    | refine KpG.call (W1 := W_M_gives_b) (M_gives_b_fr hrec) (by decide +kernel) (fun _ => ?_)
    | exact KpG.tail (W1 := W_M_gives_b) (M_gives_b_fr hrec) (by decide +kernel)
    | refine KpG.call (W1 := [117067, 117068, 167000, 168000, 169000, 170000]) (hrec _ _ _ _) (by decide +kernel) (fun _ => ?_)
    | exact KpG.tail (W1 := [117067, 117068, 167000, 168000, 169000, 170000]) (hrec _ _ _ _) (by decide +kernel)
    | refine KpG.bind (ρ := fun r : AG => r) ?_ (fun _ => ?_)
    | refine KpG.bind (ρ := fun r : Int × AG => r.2) ?_ (fun _ => ?_)
    | refine KpG.bind (ρ := fun r : Int × Int × AG => r.2.2) ?_ (fun _ => ?_)
    | refine KpG.bind (ρ := fun r : Int × Int × Int × AG => r.2.2.2) ?_ (fun _ => ?_)
    | refine KpG.int (fun _ => ?_))
def W_M_gives : List Nat := [117067, 117068, 167000, 168000, 169000, 170000]
theorem M_gives_fr {n : Nat} {x1 x2 x3 : Int} {g : AG} : KpG W_M_gives g Prod.snd (M_gives n x1 x2 x3 g) := by
  induction n generalizing x1 x2 x3 g with
  | zero => exact KpG.none
  | succ n ih => exact M_gives_s_fr (rec := M_gives n) (fun _ _ _ g => ih)
def W_M_givesBest_b : List Nat := [117067, 117068, 167000, 168000, 169000, 170000]
set_option synthInstance.maxHeartbeats 2000000 in
theorem M_givesBest_b_fr {x1 : Int} {x2 : Int} {g : AG} : KpG W_M_givesBest_b g Prod.snd (M_givesBest_b x1 x2 g) := by
  refine M_givesBest_b.partial_correctness x1 (fun x2 g r => Fr W_M_givesBest_b g r.2) ?_ x2 g
  intro fb9 ih x2 g
  show KpG W_M_givesBest_b g Prod.snd _
  repeat' (first
    | exact KpG.none
    | exact KpG.ret rfl
    | refine KpG.ite (fun _ => ?_) (fun _ => ?_)
    | refine KpG.up rfl (fun _ => ?_)
    | refine KpG.fill rfl (fun _ => ?_)
    | refine KpG.copy rfl (fun _ => ?_)
    | refine KpG.call (W1 := W_M_gives) (M_gives_fr) (by decide +kernel) (fun _ => ?_)
    | exact KpG.tail (W1 := W_M_gives) (M_gives_fr) (by decide +kernel)
    | exact ih _ _
    | refine KpG.bind (ρ := fun r : AG => r) ?_ (fun _ => ?_)
    | refine KpG.bind (ρ := fun r : Int × AG => r.2) ?_ (fun _ => ?_)
    | refine KpG.bind (ρ := fun r : Int × Int × AG => r.2.2) ?_ (fun _ => ?_)
    | refine KpG.bind (ρ := fun r : Int × Int × Int × AG => r.2.2.2) ?_ (fun _ => ?_)
    | refine KpG.int (fun _ => ?_))
def W_M_givesBest : List Nat := [117067, 117068, 166000, 167000, 168000, 169000, 170000]
theorem M_givesBest_fr {x1 : Int} {g : AG} : KpG W_M_givesBest g Prod.snd (M_givesBest x1 g) := by
  unfold M_givesBest
  repeat' (first
    | exact KpG.none
    | exact KpG.ret rfl
    | refine KpG.ite (fun _ => ?_) (fun _ => ?_)
    | refine KpG.up rfl (fun _ => ?_)
    | refine KpG.fill rfl (fun _ => ?_)
    | refine KpG.copy rfl (fun _ => ?_)
    | refine KpG.call (W1 := W_M_sorts) (M_sorts_fr) (by decide +kernel) (fun _ => ?_)
    | exact KpG.tail (W1 := W_M_sorts) (M_sorts_fr) (by decide +kernel)
    | refine KpG.call (W1 := W_M_givesBest_b) (M_givesBest_b_fr) (by decide +kernel) (fun _ => ?_)
    | exact KpG.tail (W1 := W_M_givesBest_b) (M_givesBest_b_fr) (by decide +kernel)
    | refine KpG.bind (ρ := fun r : AG => r) ?_ (fun _ => ?_)
    | refine KpG.bind (ρ := fun r : Int × AG => r.2) ?_ (fun _ => ?_)
    | refine KpG.bind (ρ := fun r : Int × Int × AG => r.2.2) ?_ (fun _ => ?_)
    | refine KpG.bind (ρ := fun r : Int × Int × Int × AG => r.2.2.2) ?_ (fun _ => ?_)
    | refine KpG.int (fun _ => ?_))
def W_M_given_b : List Nat := [117067, 117068, 166000, 167000, 168000, 169000, 170000, 171000, 172000]
theorem M_given_b_fr {x1 : Int} {x2 : Int} {g : AG} : KpG W_M_given_b g Prod.snd (M_given_b x1 x2 g) := by
  unfold M_given_b
  repeat' (first
    | exact KpG.none
    | exact KpG.ret rfl
    | refine KpG.ite (fun _ => ?_) (fun _ => ?_)
    | refine KpG.up rfl (fun _ => ?_)
    | refine KpG.fill rfl (fun _ => ?_)
    | refine KpG.copy rfl (fun _ => ?_)
    | refine KpG.call (W1 := W_M_asks) (M_asks_fr) (by decide +kernel) (fun _ => ?_)
    | exact KpG.tail (W1 := W_M_asks) (M_asks_fr) (by decide +kernel)
    | refine KpG.call (W1 := W_M_givesBest) (M_givesBest_fr) (by decide +kernel) (fun _ => ?_)
    | exact KpG.tail (W1 := W_M_givesBest) (M_givesBest_fr) (by decide +kernel)
    | refine KpG.bind (ρ := fun r : AG => r) ?_ (fun _ => ?_)
    | refine KpG.bind (ρ := fun r : Int × AG => r.2) ?_ (fun _ => ?_)
    | refine KpG.bind (ρ := fun r : Int × Int × AG => r.2.2) ?_ (fun _ => ?_)
    | refine KpG.bind (ρ := fun r : Int × Int × Int × AG => r.2.2.2) ?_ (fun _ => ?_)
    | refine KpG.int (fun _ => ?_))
def W_M_given : List Nat := [117067, 117068, 166000, 167000, 168000, 169000, 170000, 171000, 172000]
theorem M_given_fr {x1 : Int} {x2 : Int} {g : AG} : KpG W_M_given g Prod.snd (M_given x1 x2 g) := by
  unfold M_given
  repeat' (first
    | exact KpG.none
    | exact KpG.ret rfl
    | refine KpG.ite (fun _ => ?_) (fun _ => ?_)
    | refine KpG.up rfl (fun _ => ?_)
    | refine KpG.fill rfl (fun _ => ?_)
    | refine KpG.copy rfl (fun _ => ?_)
    | refine KpG.call (W1 := W_M_given_b) (M_given_b_fr) (by decide +kernel) (fun _ => ?_)
    | exact KpG.tail (W1 := W_M_given_b) (M_given_b_fr) (by decide +kernel)
    | refine KpG.bind (ρ := fun r : AG => r) ?_ (fun _ => ?_)
    | refine KpG.bind (ρ := fun r : Int × AG => r.2) ?_ (fun _ => ?_)
    | refine KpG.bind (ρ := fun r : Int × Int × AG => r.2.2) ?_ (fun _ => ?_)
    | refine KpG.bind (ρ := fun r : Int × Int × Int × AG => r.2.2.2) ?_ (fun _ => ?_)
    | refine KpG.int (fun _ => ?_))
def W_M_more : List Nat := [117067, 117068, 166000, 167000, 168000, 169000, 170000, 171000, 172000]
theorem M_more_fr {x1 : Int} {x2 : Int} {x3 : Int} {g : AG} : KpG W_M_more g Prod.snd (M_more x1 x2 x3 g) := by
  unfold M_more
  repeat' (first
    | exact KpG.none
    | exact KpG.ret rfl
    | refine KpG.ite (fun _ => ?_) (fun _ => ?_)
    | refine KpG.up rfl (fun _ => ?_)
    | refine KpG.fill rfl (fun _ => ?_)
    | refine KpG.copy rfl (fun _ => ?_)
    | refine KpG.call (W1 := W_M_asks) (M_asks_fr) (by decide +kernel) (fun _ => ?_)
    | exact KpG.tail (W1 := W_M_asks) (M_asks_fr) (by decide +kernel)
    | refine KpG.call (W1 := W_M_givesBest) (M_givesBest_fr) (by decide +kernel) (fun _ => ?_)
    | exact KpG.tail (W1 := W_M_givesBest) (M_givesBest_fr) (by decide +kernel)
    | refine KpG.bind (ρ := fun r : AG => r) ?_ (fun _ => ?_)
    | refine KpG.bind (ρ := fun r : Int × AG => r.2) ?_ (fun _ => ?_)
    | refine KpG.bind (ρ := fun r : Int × Int × AG => r.2.2) ?_ (fun _ => ?_)
    | refine KpG.bind (ρ := fun r : Int × Int × Int × AG => r.2.2.2) ?_ (fun _ => ?_)
    | refine KpG.int (fun _ => ?_))
def W_M_gas_b : List Nat := [173000, 174000]
set_option synthInstance.maxHeartbeats 2000000 in
theorem M_gas_b_fr {x1 : Int} {x2 : Int} {x3 : Int} {tag : Nat} {x4 : Int} {x5 : Int} {g : AG} : KpG W_M_gas_b g Prod.snd (M_gas_b x1 x2 x3 tag x4 x5 g) := by
  refine M_gas_b.partial_correctness x1 x2 x3 (fun tag x4 x5 g r => Fr W_M_gas_b g r.2) ?_ tag x4 x5 g
  intro fb9 ih tag x4 x5 g
  show KpG W_M_gas_b g Prod.snd _
  repeat' (first
    | exact KpG.none
    | exact KpG.ret rfl
    | refine KpG.ite (fun _ => ?_) (fun _ => ?_)
    | refine KpG.up rfl (fun _ => ?_)
    | refine KpG.fill rfl (fun _ => ?_)
    | refine KpG.copy rfl (fun _ => ?_)
    | exact ih _ _ _ _
    | refine KpG.bind (ρ := fun r : AG => r) ?_ (fun _ => ?_)
    | refine KpG.bind (ρ := fun r : Int × AG => r.2) ?_ (fun _ => ?_)
    | refine KpG.bind (ρ := fun r : Int × Int × AG => r.2.2) ?_ (fun _ => ?_)
    | refine KpG.bind (ρ := fun r : Int × Int × Int × AG => r.2.2.2) ?_ (fun _ => ?_)
    | refine KpG.int (fun _ => ?_))
def W_M_gas : List Nat := [173000, 174000]
theorem M_gas_fr {x1 : Int} {x2 : Int} {x3 : Int} {g : AG} : KpG W_M_gas g Prod.snd (M_gas x1 x2 x3 g) := by
  unfold M_gas
  repeat' (first
    | exact KpG.none
    | exact KpG.ret rfl
    | refine KpG.ite (fun _ => ?_) (fun _ => ?_)
    | refine KpG.up rfl (fun _ => ?_)
    | refine KpG.fill rfl (fun _ => ?_)
    | refine KpG.copy rfl (fun _ => ?_)
    | refine KpG.call (W1 := W_M_gas_b) (M_gas_b_fr) (by decide +kernel) (fun _ => ?_)
    | exact KpG.tail (W1 := W_M_gas_b) (M_gas_b_fr) (by decide +kernel)
    | refine KpG.bind (ρ := fun r : AG => r) ?_ (fun _ => ?_)
    | refine KpG.bind (ρ := fun r : Int × AG => r.2) ?_ (fun _ => ?_)
    | refine KpG.bind (ρ := fun r : Int × Int × AG => r.2.2) ?_ (fun _ => ?_)
    | refine KpG.bind (ρ := fun r : Int × Int × Int × AG => r.2.2.2) ?_ (fun _ => ?_)
    | refine KpG.int (fun _ => ?_))
def W_M_docksOn_b : List Nat := [117086, 117087, 176000, 177000]
set_option synthInstance.maxHeartbeats 2000000 in
theorem M_docksOn_b_fr {rec : Int → Int → Int → Int → Int → AG → Option (Int × AG)} {x1 : Int} {x2 : Int} {x3 : Int} {x4 : Int} {x5 : Int} {tag : Nat} {x6 : Int} {g : AG} (hrec : ∀ (a0 a1 a2 a3 a4 : Int) (g : AG), KpG [117086, 117087, 176000, 177000] g Prod.snd (rec a0 a1 a2 a3 a4 g)) : KpG W_M_docksOn_b g Prod.snd (M_docksOn_b rec x1 x2 x3 x4 x5 tag x6 g) := by
  refine M_docksOn_b.partial_correctness rec x1 x2 x3 x4 x5 (fun tag x6 g r => Fr W_M_docksOn_b g r.2) ?_ tag x6 g
  intro fb9 ih tag x6 g
  show KpG W_M_docksOn_b g Prod.snd _
  repeat' (first
    | exact KpG.none
    | exact KpG.ret rfl
    | refine KpG.ite (fun _ => ?_) (fun _ => ?_)
    | refine KpG.up rfl (fun _ => ?_)
    | refine KpG.fill rfl (fun _ => ?_)
    | refine KpG.copy rfl (fun _ => ?_)
    | refine KpG.call (W1 := [117086, 117087, 176000, 177000]) (hrec _ _ _ _ _ _) (by decide +kernel) (fun _ => ?_)
    | exact KpG.tail (W1 := [117086, 117087, 176000, 177000]) (hrec _ _ _ _ _ _) (by decide +kernel)
    | exact ih _ _ _
    | refine KpG.bind (ρ := fun r : AG => r) ?_ (fun _ => ?_)
    | refine KpG.bind (ρ := fun r : Int × AG => r.2) ?_ (fun _ => ?_)
    | refine KpG.bind (ρ := fun r : Int × Int × AG => r.2.2) ?_ (fun _ => ?_)
    | refine KpG.bind (ρ := fun r : Int × Int × Int × AG => r.2.2.2) ?_ (fun _ => ?_)
    | refine KpG.int (fun _ => ?_))
def W_M_docksOn_s : List Nat := [117086, 117087, 176000, 177000]
theorem M_docksOn_s_fr {rec : Int → Int → Int → Int → Int → AG → Option (Int × AG)} {x1 : Int} {x2 : Int} {x3 : Int} {x4 : Int} {x5 : Int} {g : AG} (hrec : ∀ (a0 a1 a2 a3 a4 : Int) (g : AG), KpG [117086, 117087, 176000, 177000] g Prod.snd (rec a0 a1 a2 a3 a4 g)) : KpG W_M_docksOn_s g Prod.snd (M_docksOn_s rec x1 x2 x3 x4 x5 g) := by
  unfold M_docksOn_s
  repeat' (first
    | exact KpG.none
    | exact KpG.ret rfl
    | refine KpG.ite (fun _ => ?_) (fun _ => ?_)
    | refine KpG.up rfl (fun _ => ?_)
    | refine KpG.fill rfl (fun _ => ?_)
    | refine KpG.copy rfl (fun _ => ?_)
    | refine KpG.call (W1 := W_M_docksOn_b) (M_docksOn_b_fr hrec) (by decide +kernel) (fun _ => ?_)
    | exact KpG.tail (W1 := W_M_docksOn_b) (M_docksOn_b_fr hrec) (by decide +kernel)
    | refine KpG.call (W1 := [117086, 117087, 176000, 177000]) (hrec _ _ _ _ _ _) (by decide +kernel) (fun _ => ?_)
    | exact KpG.tail (W1 := [117086, 117087, 176000, 177000]) (hrec _ _ _ _ _ _) (by decide +kernel)
    | refine KpG.bind (ρ := fun r : AG => r) ?_ (fun _ => ?_)
    | refine KpG.bind (ρ := fun r : Int × AG => r.2) ?_ (fun _ => ?_)
    | refine KpG.bind (ρ := fun r : Int × Int × AG => r.2.2) ?_ (fun _ => ?_)
    | refine KpG.bind (ρ := fun r : Int × Int × Int × AG => r.2.2.2) ?_ (fun _ => ?_)
    | refine KpG.int (fun _ => ?_))
def W_M_docksOn : List Nat := [117086, 117087, 176000, 177000]
theorem M_docksOn_fr {n : Nat} {x1 x2 x3 x4 x5 : Int} {g : AG} : KpG W_M_docksOn g Prod.snd (M_docksOn n x1 x2 x3 x4 x5 g) := by
  induction n generalizing x1 x2 x3 x4 x5 g with
  | zero => exact KpG.none
  | succ n ih => exact M_docksOn_s_fr (rec := M_docksOn n) (fun _ _ _ _ _ g => ih)
def W_M_dock_b : List Nat := [117085, 117086, 117087, 175000, 176000, 177000]
set_option synthInstance.maxHeartbeats 2000000 in
theorem M_dock_b_fr {x1 : Int} {x2 : Int} {g : AG} : KpG W_M_dock_b g Prod.snd (M_dock_b x1 x2 g) := by
  refine M_dock_b.partial_correctness x1 (fun x2 g r => Fr W_M_dock_b g r.2) ?_ x2 g
  intro fb9 ih x2 g
  show KpG W_M_dock_b g Prod.snd _
  repeat' (first
    | exact KpG.none
    | exact KpG.ret rfl
    | refine KpG.ite (fun _ => ?_) (fun _ => ?_)
    | refine KpG.up rfl (fun _ => ?_)
    | refine KpG.fill rfl (fun _ => ?_)
    | refine KpG.copy rfl (fun _ => ?_)
    | refine KpG.call (W1 := W_M_docksOn) (M_docksOn_fr) (by decide +kernel) (fun _ => ?_)
    | exact KpG.tail (W1 := W_M_docksOn) (M_docksOn_fr) (by decide +kernel)
    | exact ih _ _
    | refine KpG.bind (ρ := fun r : AG => r) ?_ (fun _ => ?_)
    | refine KpG.bind (ρ := fun r : Int × AG => r.2) ?_ (fun _ => ?_)
    | refine KpG.bind (ρ := fun r : Int × Int × AG => r.2.2) ?_ (fun _ => ?_)
    | refine KpG.bind (ρ := fun r : Int × Int × Int × AG => r.2.2.2) ?_ (fun _ => ?_)
    | refine KpG.int (fun _ => ?_))
def W_M_dock : List Nat := [117085, 117086, 117087, 175000, 176000, 177000]
theorem M_dock_fr {x1 : Int} {g : AG} : KpG W_M_dock g Prod.snd (M_dock x1 g) := by
  unfold M_dock
  repeat' (first
    | exact KpG.none
    | exact KpG.ret rfl
    | refine KpG.ite (fun _ => ?_) (fun _ => ?_)
    | refine KpG.up rfl (fun _ => ?_)
    | refine KpG.fill rfl (fun _ => ?_)
    | refine KpG.copy rfl (fun _ => ?_)
    | refine KpG.call (W1 := W_M_dock_b) (M_dock_b_fr) (by decide +kernel) (fun _ => ?_)
    | exact KpG.tail (W1 := W_M_dock_b) (M_dock_b_fr) (by decide +kernel)
    | refine KpG.bind (ρ := fun r : AG => r) ?_ (fun _ => ?_)
    | refine KpG.bind (ρ := fun r : Int × AG => r.2) ?_ (fun _ => ?_)
    | refine KpG.bind (ρ := fun r : Int × Int × AG => r.2.2) ?_ (fun _ => ?_)
    | refine KpG.bind (ρ := fun r : Int × Int × Int × AG => r.2.2.2) ?_ (fun _ => ?_)
    | refine KpG.int (fun _ => ?_))
def W_M_job : List Nat := [117088, 178000]
theorem M_job_fr {x1 : Int} {g : AG} : KpG W_M_job g Prod.snd (M_job x1 g) := by
  unfold M_job
  repeat' (first
    | exact KpG.none
    | exact KpG.ret rfl
    | refine KpG.ite (fun _ => ?_) (fun _ => ?_)
    | refine KpG.up rfl (fun _ => ?_)
    | refine KpG.fill rfl (fun _ => ?_)
    | refine KpG.copy rfl (fun _ => ?_)
    | refine KpG.bind (ρ := fun r : AG => r) ?_ (fun _ => ?_)
    | refine KpG.bind (ρ := fun r : Int × AG => r.2) ?_ (fun _ => ?_)
    | refine KpG.bind (ρ := fun r : Int × Int × AG => r.2.2) ?_ (fun _ => ?_)
    | refine KpG.bind (ρ := fun r : Int × Int × Int × AG => r.2.2.2) ?_ (fun _ => ?_)
    | refine KpG.int (fun _ => ?_))
def W_M_worked_b : List Nat := [117091, 179000]
set_option synthInstance.maxHeartbeats 2000000 in
theorem M_worked_b_fr {x1 : Int} {tag : Nat} {x2 : Int} {x3 : Int} {x4 : Int} {g : AG} : KpG W_M_worked_b g Prod.snd (M_worked_b x1 tag x2 x3 x4 g) := by
  refine M_worked_b.partial_correctness x1 (fun tag x2 x3 x4 g r => Fr W_M_worked_b g r.2) ?_ tag x2 x3 x4 g
  intro fb9 ih tag x2 x3 x4 g
  show KpG W_M_worked_b g Prod.snd _
  repeat' (first
    | exact KpG.none
    | exact KpG.ret rfl
    | refine KpG.ite (fun _ => ?_) (fun _ => ?_)
    | refine KpG.up rfl (fun _ => ?_)
    | refine KpG.fill rfl (fun _ => ?_)
    | refine KpG.copy rfl (fun _ => ?_)
    | exact ih _ _ _ _ _
    | refine KpG.bind (ρ := fun r : AG => r) ?_ (fun _ => ?_)
    | refine KpG.bind (ρ := fun r : Int × AG => r.2) ?_ (fun _ => ?_)
    | refine KpG.bind (ρ := fun r : Int × Int × AG => r.2.2) ?_ (fun _ => ?_)
    | refine KpG.bind (ρ := fun r : Int × Int × Int × AG => r.2.2.2) ?_ (fun _ => ?_)
    | refine KpG.int (fun _ => ?_))
def W_M_worked : List Nat := [117091, 179000]
theorem M_worked_fr {x1 : Int} {g : AG} : KpG W_M_worked g Prod.snd (M_worked x1 g) := by
  unfold M_worked
  repeat' (first
    | exact KpG.none
    | exact KpG.ret rfl
    | refine KpG.ite (fun _ => ?_) (fun _ => ?_)
    | refine KpG.up rfl (fun _ => ?_)
    | refine KpG.fill rfl (fun _ => ?_)
    | refine KpG.copy rfl (fun _ => ?_)
    | refine KpG.call (W1 := W_M_worked_b) (M_worked_b_fr) (by decide +kernel) (fun _ => ?_)
    | exact KpG.tail (W1 := W_M_worked_b) (M_worked_b_fr) (by decide +kernel)
    | refine KpG.bind (ρ := fun r : AG => r) ?_ (fun _ => ?_)
    | refine KpG.bind (ρ := fun r : Int × AG => r.2) ?_ (fun _ => ?_)
    | refine KpG.bind (ρ := fun r : Int × Int × AG => r.2.2) ?_ (fun _ => ?_)
    | refine KpG.bind (ρ := fun r : Int × Int × Int × AG => r.2.2.2) ?_ (fun _ => ?_)
    | refine KpG.int (fun _ => ?_))
def W_M_turned_b : List Nat := [117091, 179000]
set_option synthInstance.maxHeartbeats 2000000 in
theorem M_turned_b_fr {x1 : Int} {x2 : Int} {tag : Nat} {p : Int × Int × Int × Int × Int × Int} {g : AG} : KpG W_M_turned_b g Prod.snd (M_turned_b x1 x2 tag p g) := by
  refine M_turned_b.partial_correctness x1 x2 (fun tag p g r => Fr W_M_turned_b g r.2) ?_ tag p g
  intro fb9 ih tag p g
  show KpG W_M_turned_b g Prod.snd _
  repeat' (first
    | exact KpG.none
    | exact KpG.ret rfl
    | refine KpG.ite (fun _ => ?_) (fun _ => ?_)
    | refine KpG.up rfl (fun _ => ?_)
    | refine KpG.fill rfl (fun _ => ?_)
    | refine KpG.copy rfl (fun _ => ?_)
    | refine KpG.call (W1 := W_M_worked) (M_worked_fr) (by decide +kernel) (fun _ => ?_)
    | exact KpG.tail (W1 := W_M_worked) (M_worked_fr) (by decide +kernel)
    | exact ih _ _ _
    | refine KpG.bind (ρ := fun r : AG => r) ?_ (fun _ => ?_)
    | refine KpG.bind (ρ := fun r : Int × AG => r.2) ?_ (fun _ => ?_)
    | refine KpG.bind (ρ := fun r : Int × Int × AG => r.2.2) ?_ (fun _ => ?_)
    | refine KpG.bind (ρ := fun r : Int × Int × Int × AG => r.2.2.2) ?_ (fun _ => ?_)
    | refine KpG.int (fun _ => ?_))
def W_M_turned : List Nat := [117091, 179000]
theorem M_turned_fr {x1 : Int} {x2 : Int} {g : AG} : KpG W_M_turned g Prod.snd (M_turned x1 x2 g) := by
  unfold M_turned
  repeat' (first
    | exact KpG.none
    | exact KpG.ret rfl
    | refine KpG.ite (fun _ => ?_) (fun _ => ?_)
    | refine KpG.up rfl (fun _ => ?_)
    | refine KpG.fill rfl (fun _ => ?_)
    | refine KpG.copy rfl (fun _ => ?_)
    | refine KpG.call (W1 := W_M_turned_b) (M_turned_b_fr) (by decide +kernel) (fun _ => ?_)
    | exact KpG.tail (W1 := W_M_turned_b) (M_turned_b_fr) (by decide +kernel)
    | refine KpG.bind (ρ := fun r : AG => r) ?_ (fun _ => ?_)
    | refine KpG.bind (ρ := fun r : Int × AG => r.2) ?_ (fun _ => ?_)
    | refine KpG.bind (ρ := fun r : Int × Int × AG => r.2.2) ?_ (fun _ => ?_)
    | refine KpG.bind (ρ := fun r : Int × Int × Int × AG => r.2.2.2) ?_ (fun _ => ?_)
    | refine KpG.int (fun _ => ?_))
def W_M_weight : List Nat := [180000]
theorem M_weight_fr {x1 : Int} {x2 : Int} {g : AG} : KpG W_M_weight g Prod.snd (M_weight x1 x2 g) := by
  unfold M_weight
  repeat' (first
    | exact KpG.none
    | exact KpG.ret rfl
    | refine KpG.ite (fun _ => ?_) (fun _ => ?_)
    | refine KpG.up rfl (fun _ => ?_)
    | refine KpG.fill rfl (fun _ => ?_)
    | refine KpG.copy rfl (fun _ => ?_)
    | refine KpG.bind (ρ := fun r : AG => r) ?_ (fun _ => ?_)
    | refine KpG.bind (ρ := fun r : Int × AG => r.2) ?_ (fun _ => ?_)
    | refine KpG.bind (ρ := fun r : Int × Int × AG => r.2.2) ?_ (fun _ => ?_)
    | refine KpG.bind (ρ := fun r : Int × Int × Int × AG => r.2.2.2) ?_ (fun _ => ?_)
    | refine KpG.int (fun _ => ?_))
def W_M_call_b : List Nat := [117093, 181000, 182000, 183000]
theorem M_call_b_fr {x1 : Int} {x2 : Int} {x3 : Int} {g : AG} : KpG W_M_call_b g Prod.snd (M_call_b x1 x2 x3 g) := by
  unfold M_call_b
  repeat' (first
    | exact KpG.none
    | exact KpG.ret rfl
    | refine KpG.ite (fun _ => ?_) (fun _ => ?_)
    | refine KpG.up rfl (fun _ => ?_)
    | refine KpG.fill rfl (fun _ => ?_)
    | refine KpG.copy rfl (fun _ => ?_)
    | refine KpG.bind (ρ := fun r : AG => r) ?_ (fun _ => ?_)
    | refine KpG.bind (ρ := fun r : Int × AG => r.2) ?_ (fun _ => ?_)
    | refine KpG.bind (ρ := fun r : Int × Int × AG => r.2.2) ?_ (fun _ => ?_)
    | refine KpG.bind (ρ := fun r : Int × Int × Int × AG => r.2.2.2) ?_ (fun _ => ?_)
    | refine KpG.int (fun _ => ?_))
def W_M_call : List Nat := [117093, 181000, 182000, 183000]
theorem M_call_fr {x1 : Int} {x2 : Int} {x3 : Int} {g : AG} : KpG W_M_call g Prod.snd (M_call x1 x2 x3 g) := by
  unfold M_call
  repeat' (first
    | exact KpG.none
    | exact KpG.ret rfl
    | refine KpG.ite (fun _ => ?_) (fun _ => ?_)
    | refine KpG.up rfl (fun _ => ?_)
    | refine KpG.fill rfl (fun _ => ?_)
    | refine KpG.copy rfl (fun _ => ?_)
    | refine KpG.call (W1 := W_M_call_b) (M_call_b_fr) (by decide +kernel) (fun _ => ?_)
    | exact KpG.tail (W1 := W_M_call_b) (M_call_b_fr) (by decide +kernel)
    | refine KpG.bind (ρ := fun r : AG => r) ?_ (fun _ => ?_)
    | refine KpG.bind (ρ := fun r : Int × AG => r.2) ?_ (fun _ => ?_)
    | refine KpG.bind (ρ := fun r : Int × Int × AG => r.2.2) ?_ (fun _ => ?_)
    | refine KpG.bind (ρ := fun r : Int × Int × Int × AG => r.2.2.2) ?_ (fun _ => ?_)
    | refine KpG.int (fun _ => ?_))
def W_M_taken_b : List Nat := [184000, 185000]
set_option synthInstance.maxHeartbeats 2000000 in
theorem M_taken_b_fr {x1 : Int} {x2 : Int} {x3 : Int} {tag : Nat} {x4 : Int} {x5 : Int} {x6 : Int} {x7 : Int} {g : AG} : KpG W_M_taken_b g Prod.snd (M_taken_b x1 x2 x3 tag x4 x5 x6 x7 g) := by
  refine M_taken_b.partial_correctness x1 x2 x3 (fun tag x4 x5 x6 x7 g r => Fr W_M_taken_b g r.2) ?_ tag x4 x5 x6 x7 g
  intro fb9 ih tag x4 x5 x6 x7 g
  show KpG W_M_taken_b g Prod.snd _
  repeat' (first
    | exact KpG.none
    | exact KpG.ret rfl
    | refine KpG.ite (fun _ => ?_) (fun _ => ?_)
    | refine KpG.up rfl (fun _ => ?_)
    | refine KpG.fill rfl (fun _ => ?_)
    | refine KpG.copy rfl (fun _ => ?_)
    | exact ih _ _ _ _ _ _
    | refine KpG.bind (ρ := fun r : AG => r) ?_ (fun _ => ?_)
    | refine KpG.bind (ρ := fun r : Int × AG => r.2) ?_ (fun _ => ?_)
    | refine KpG.bind (ρ := fun r : Int × Int × AG => r.2.2) ?_ (fun _ => ?_)
    | refine KpG.bind (ρ := fun r : Int × Int × Int × AG => r.2.2.2) ?_ (fun _ => ?_)
    | refine KpG.int (fun _ => ?_))
def W_M_taken : List Nat := [184000, 185000]
theorem M_taken_fr {x1 : Int} {x2 : Int} {x3 : Int} {g : AG} : KpG W_M_taken g Prod.snd (M_taken x1 x2 x3 g) := by
  unfold M_taken
  repeat' (first
    | exact KpG.none
    | exact KpG.ret rfl
    | refine KpG.ite (fun _ => ?_) (fun _ => ?_)
    | refine KpG.up rfl (fun _ => ?_)
    | refine KpG.fill rfl (fun _ => ?_)
    | refine KpG.copy rfl (fun _ => ?_)
    | refine KpG.call (W1 := W_M_taken_b) (M_taken_b_fr) (by decide +kernel) (fun _ => ?_)
    | exact KpG.tail (W1 := W_M_taken_b) (M_taken_b_fr) (by decide +kernel)
    | refine KpG.bind (ρ := fun r : AG => r) ?_ (fun _ => ?_)
    | refine KpG.bind (ρ := fun r : Int × AG => r.2) ?_ (fun _ => ?_)
    | refine KpG.bind (ρ := fun r : Int × Int × AG => r.2.2) ?_ (fun _ => ?_)
    | refine KpG.bind (ρ := fun r : Int × Int × Int × AG => r.2.2.2) ?_ (fun _ => ?_)
    | refine KpG.int (fun _ => ?_))
def W_M_starts_b : List Nat := [186000]
set_option synthInstance.maxHeartbeats 2000000 in
theorem M_starts_b_fr {x1 : Int} {g : AG} : KpG W_M_starts_b g Prod.snd (M_starts_b x1 g) := by
  refine M_starts_b.partial_correctness (fun x1 g r => Fr W_M_starts_b g r.2) ?_ x1 g
  intro fb9 ih x1 g
  show KpG W_M_starts_b g Prod.snd _
  repeat' (first
    | exact KpG.none
    | exact KpG.ret rfl
    | refine KpG.ite (fun _ => ?_) (fun _ => ?_)
    | refine KpG.up rfl (fun _ => ?_)
    | refine KpG.fill rfl (fun _ => ?_)
    | refine KpG.copy rfl (fun _ => ?_)
    | exact ih _ _
    | refine KpG.bind (ρ := fun r : AG => r) ?_ (fun _ => ?_)
    | refine KpG.bind (ρ := fun r : Int × AG => r.2) ?_ (fun _ => ?_)
    | refine KpG.bind (ρ := fun r : Int × Int × AG => r.2.2) ?_ (fun _ => ?_)
    | refine KpG.bind (ρ := fun r : Int × Int × Int × AG => r.2.2.2) ?_ (fun _ => ?_)
    | refine KpG.int (fun _ => ?_))
def W_M_starts : List Nat := [186000]
theorem M_starts_fr {g : AG} : KpG W_M_starts g Prod.snd (M_starts g) := by
  unfold M_starts
  repeat' (first
    | exact KpG.none
    | exact KpG.ret rfl
    | refine KpG.ite (fun _ => ?_) (fun _ => ?_)
    | refine KpG.up rfl (fun _ => ?_)
    | refine KpG.fill rfl (fun _ => ?_)
    | refine KpG.copy rfl (fun _ => ?_)
    | refine KpG.call (W1 := W_M_starts_b) (M_starts_b_fr) (by decide +kernel) (fun _ => ?_)
    | exact KpG.tail (W1 := W_M_starts_b) (M_starts_b_fr) (by decide +kernel)
    | refine KpG.bind (ρ := fun r : AG => r) ?_ (fun _ => ?_)
    | refine KpG.bind (ρ := fun r : Int × AG => r.2) ?_ (fun _ => ?_)
    | refine KpG.bind (ρ := fun r : Int × Int × AG => r.2.2) ?_ (fun _ => ?_)
    | refine KpG.bind (ρ := fun r : Int × Int × Int × AG => r.2.2.2) ?_ (fun _ => ?_)
    | refine KpG.int (fun _ => ?_))
def W_M_falls : List Nat := [187000]
theorem M_falls_fr {x1 : Int} {x2 : Int} {x3 : Int} {g : AG} : KpG W_M_falls g Prod.snd (M_falls x1 x2 x3 g) := by
  unfold M_falls
  repeat' (first
    | exact KpG.none
    | exact KpG.ret rfl
    | refine KpG.ite (fun _ => ?_) (fun _ => ?_)
    | refine KpG.up rfl (fun _ => ?_)
    | refine KpG.fill rfl (fun _ => ?_)
    | refine KpG.copy rfl (fun _ => ?_)
    | refine KpG.bind (ρ := fun r : AG => r) ?_ (fun _ => ?_)
    | refine KpG.bind (ρ := fun r : Int × AG => r.2) ?_ (fun _ => ?_)
    | refine KpG.bind (ρ := fun r : Int × Int × AG => r.2.2) ?_ (fun _ => ?_)
    | refine KpG.bind (ρ := fun r : Int × Int × Int × AG => r.2.2.2) ?_ (fun _ => ?_)
    | refine KpG.int (fun _ => ?_))
def W_M_aDay_b : List Nat := [186000, 187000]
set_option synthInstance.maxHeartbeats 2000000 in
theorem M_aDay_b_fr {x1 : Int} {x2 : Int} {x3 : Int} {x4 : Int} {tag : Nat} {x5 : Int} {g : AG} : KpG W_M_aDay_b g Prod.snd (M_aDay_b x1 x2 x3 x4 tag x5 g) := by
  refine M_aDay_b.partial_correctness x1 x2 x3 x4 (fun tag x5 g r => Fr W_M_aDay_b g r.2) ?_ tag x5 g
  intro fb9 ih tag x5 g
  show KpG W_M_aDay_b g Prod.snd _
  repeat' (first
    | exact KpG.none
    | exact KpG.ret rfl
    | refine KpG.ite (fun _ => ?_) (fun _ => ?_)
    | refine KpG.up rfl (fun _ => ?_)
    | refine KpG.fill rfl (fun _ => ?_)
    | refine KpG.copy rfl (fun _ => ?_)
    | refine KpG.call (W1 := W_M_falls) (M_falls_fr) (by decide +kernel) (fun _ => ?_)
    | exact KpG.tail (W1 := W_M_falls) (M_falls_fr) (by decide +kernel)
    | exact ih _ _ _
    | refine KpG.bind (ρ := fun r : AG => r) ?_ (fun _ => ?_)
    | refine KpG.bind (ρ := fun r : Int × AG => r.2) ?_ (fun _ => ?_)
    | refine KpG.bind (ρ := fun r : Int × Int × AG => r.2.2) ?_ (fun _ => ?_)
    | refine KpG.bind (ρ := fun r : Int × Int × Int × AG => r.2.2.2) ?_ (fun _ => ?_)
    | refine KpG.int (fun _ => ?_))
def W_M_aDay : List Nat := [186000, 187000]
theorem M_aDay_fr {x1 : Int} {x2 : Int} {x3 : Int} {x4 : Int} {g : AG} : KpG W_M_aDay g Prod.snd (M_aDay x1 x2 x3 x4 g) := by
  unfold M_aDay
  repeat' (first
    | exact KpG.none
    | exact KpG.ret rfl
    | refine KpG.ite (fun _ => ?_) (fun _ => ?_)
    | refine KpG.up rfl (fun _ => ?_)
    | refine KpG.fill rfl (fun _ => ?_)
    | refine KpG.copy rfl (fun _ => ?_)
    | refine KpG.call (W1 := W_M_aDay_b) (M_aDay_b_fr) (by decide +kernel) (fun _ => ?_)
    | exact KpG.tail (W1 := W_M_aDay_b) (M_aDay_b_fr) (by decide +kernel)
    | refine KpG.bind (ρ := fun r : AG => r) ?_ (fun _ => ?_)
    | refine KpG.bind (ρ := fun r : Int × AG => r.2) ?_ (fun _ => ?_)
    | refine KpG.bind (ρ := fun r : Int × Int × AG => r.2.2) ?_ (fun _ => ?_)
    | refine KpG.bind (ρ := fun r : Int × Int × Int × AG => r.2.2.2) ?_ (fun _ => ?_)
    | refine KpG.int (fun _ => ?_))
def W_M_left_b : List Nat := [186000, 187000]
set_option synthInstance.maxHeartbeats 2000000 in
theorem M_left_b_fr {x1 : Int} {x2 : Int} {x3 : Int} {x4 : Int} {x5 : Int} {x6 : Int} {g : AG} : KpG W_M_left_b g Prod.snd (M_left_b x1 x2 x3 x4 x5 x6 g) := by
  refine M_left_b.partial_correctness x1 x2 x3 x4 x5 (fun x6 g r => Fr W_M_left_b g r.2) ?_ x6 g
  intro fb9 ih x6 g
  show KpG W_M_left_b g Prod.snd _
  repeat' (first
    | exact KpG.none
    | exact KpG.ret rfl
    | refine KpG.ite (fun _ => ?_) (fun _ => ?_)
    | refine KpG.up rfl (fun _ => ?_)
    | refine KpG.fill rfl (fun _ => ?_)
    | refine KpG.copy rfl (fun _ => ?_)
    | refine KpG.call (W1 := W_M_aDay) (M_aDay_fr) (by decide +kernel) (fun _ => ?_)
    | exact KpG.tail (W1 := W_M_aDay) (M_aDay_fr) (by decide +kernel)
    | exact ih _ _
    | refine KpG.bind (ρ := fun r : AG => r) ?_ (fun _ => ?_)
    | refine KpG.bind (ρ := fun r : Int × AG => r.2) ?_ (fun _ => ?_)
    | refine KpG.bind (ρ := fun r : Int × Int × AG => r.2.2) ?_ (fun _ => ?_)
    | refine KpG.bind (ρ := fun r : Int × Int × Int × AG => r.2.2.2) ?_ (fun _ => ?_)
    | refine KpG.int (fun _ => ?_))
def W_M_left : List Nat := [186000, 187000]
theorem M_left_fr {x1 : Int} {x2 : Int} {x3 : Int} {x4 : Int} {x5 : Int} {g : AG} : KpG W_M_left g Prod.snd (M_left x1 x2 x3 x4 x5 g) := by
  unfold M_left
  repeat' (first
    | exact KpG.none
    | exact KpG.ret rfl
    | refine KpG.ite (fun _ => ?_) (fun _ => ?_)
    | refine KpG.up rfl (fun _ => ?_)
    | refine KpG.fill rfl (fun _ => ?_)
    | refine KpG.copy rfl (fun _ => ?_)
    | refine KpG.call (W1 := W_M_starts) (M_starts_fr) (by decide +kernel) (fun _ => ?_)
    | exact KpG.tail (W1 := W_M_starts) (M_starts_fr) (by decide +kernel)
    | refine KpG.call (W1 := W_M_left_b) (M_left_b_fr) (by decide +kernel) (fun _ => ?_)
    | exact KpG.tail (W1 := W_M_left_b) (M_left_b_fr) (by decide +kernel)
    | refine KpG.bind (ρ := fun r : AG => r) ?_ (fun _ => ?_)
    | refine KpG.bind (ρ := fun r : Int × AG => r.2) ?_ (fun _ => ?_)
    | refine KpG.bind (ρ := fun r : Int × Int × AG => r.2.2) ?_ (fun _ => ?_)
    | refine KpG.bind (ρ := fun r : Int × Int × Int × AG => r.2.2.2) ?_ (fun _ => ?_)
    | refine KpG.int (fun _ => ?_))
def W_M_shuts_b : List Nat := [186000, 187000]
set_option synthInstance.maxHeartbeats 2000000 in
theorem M_shuts_b_fr {x1 : Int} {x2 : Int} {x3 : Int} {x4 : Int} {x5 : Int} {g : AG} : KpG W_M_shuts_b g Prod.snd (M_shuts_b x1 x2 x3 x4 x5 g) := by
  refine M_shuts_b.partial_correctness x1 x2 x3 x4 (fun x5 g r => Fr W_M_shuts_b g r.2) ?_ x5 g
  intro fb9 ih x5 g
  show KpG W_M_shuts_b g Prod.snd _
  repeat' (first
    | exact KpG.none
    | exact KpG.ret rfl
    | refine KpG.ite (fun _ => ?_) (fun _ => ?_)
    | refine KpG.up rfl (fun _ => ?_)
    | refine KpG.fill rfl (fun _ => ?_)
    | refine KpG.copy rfl (fun _ => ?_)
    | refine KpG.call (W1 := W_M_aDay) (M_aDay_fr) (by decide +kernel) (fun _ => ?_)
    | exact KpG.tail (W1 := W_M_aDay) (M_aDay_fr) (by decide +kernel)
    | exact ih _ _
    | refine KpG.bind (ρ := fun r : AG => r) ?_ (fun _ => ?_)
    | refine KpG.bind (ρ := fun r : Int × AG => r.2) ?_ (fun _ => ?_)
    | refine KpG.bind (ρ := fun r : Int × Int × AG => r.2.2) ?_ (fun _ => ?_)
    | refine KpG.bind (ρ := fun r : Int × Int × Int × AG => r.2.2.2) ?_ (fun _ => ?_)
    | refine KpG.int (fun _ => ?_))
def W_M_shuts : List Nat := [186000, 187000]
theorem M_shuts_fr {x1 : Int} {x2 : Int} {x3 : Int} {x4 : Int} {g : AG} : KpG W_M_shuts g Prod.snd (M_shuts x1 x2 x3 x4 g) := by
  unfold M_shuts
  repeat' (first
    | exact KpG.none
    | exact KpG.ret rfl
    | refine KpG.ite (fun _ => ?_) (fun _ => ?_)
    | refine KpG.up rfl (fun _ => ?_)
    | refine KpG.fill rfl (fun _ => ?_)
    | refine KpG.copy rfl (fun _ => ?_)
    | refine KpG.call (W1 := W_M_starts) (M_starts_fr) (by decide +kernel) (fun _ => ?_)
    | exact KpG.tail (W1 := W_M_starts) (M_starts_fr) (by decide +kernel)
    | refine KpG.call (W1 := W_M_shuts_b) (M_shuts_b_fr) (by decide +kernel) (fun _ => ?_)
    | exact KpG.tail (W1 := W_M_shuts_b) (M_shuts_b_fr) (by decide +kernel)
    | refine KpG.bind (ρ := fun r : AG => r) ?_ (fun _ => ?_)
    | refine KpG.bind (ρ := fun r : Int × AG => r.2) ?_ (fun _ => ?_)
    | refine KpG.bind (ρ := fun r : Int × Int × AG => r.2.2) ?_ (fun _ => ?_)
    | refine KpG.bind (ρ := fun r : Int × Int × Int × AG => r.2.2.2) ?_ (fun _ => ?_)
    | refine KpG.int (fun _ => ?_))
def W_M_held : List Nat := [147000, 148000]
theorem M_held_fr {x1 : Int} {x2 : Int} {x3 : Int} {x4 : Int} {g : AG} : KpG W_M_held g Prod.snd (M_held x1 x2 x3 x4 g) := by
  unfold M_held
  repeat' (first
    | exact KpG.none
    | exact KpG.ret rfl
    | refine KpG.ite (fun _ => ?_) (fun _ => ?_)
    | refine KpG.up rfl (fun _ => ?_)
    | refine KpG.fill rfl (fun _ => ?_)
    | refine KpG.copy rfl (fun _ => ?_)
    | refine KpG.call (W1 := W_M_forgets) (M_forgets_fr) (by decide +kernel) (fun _ => ?_)
    | exact KpG.tail (W1 := W_M_forgets) (M_forgets_fr) (by decide +kernel)
    | refine KpG.call (W1 := W_M_serves) (M_serves_fr) (by decide +kernel) (fun _ => ?_)
    | exact KpG.tail (W1 := W_M_serves) (M_serves_fr) (by decide +kernel)
    | refine KpG.call (W1 := W_M_comesTo) (M_comesTo_fr) (by decide +kernel) (fun _ => ?_)
    | exact KpG.tail (W1 := W_M_comesTo) (M_comesTo_fr) (by decide +kernel)
    | refine KpG.bind (ρ := fun r : AG => r) ?_ (fun _ => ?_)
    | refine KpG.bind (ρ := fun r : Int × AG => r.2) ?_ (fun _ => ?_)
    | refine KpG.bind (ρ := fun r : Int × Int × AG => r.2.2) ?_ (fun _ => ?_)
    | refine KpG.bind (ρ := fun r : Int × Int × Int × AG => r.2.2.2) ?_ (fun _ => ?_)
    | refine KpG.int (fun _ => ?_))
def W_X_stretch : List Nat := [13000, 14000, 15000]
theorem X_stretch_fr {x1 : Int} {x2 : Int} {x3 : Int} {x4 : Int} {g : AG} : KpG W_X_stretch g Prod.snd (X_stretch x1 x2 x3 x4 g) := by
  unfold X_stretch
  repeat' (first
    | exact KpG.none
    | exact KpG.ret rfl
    | refine KpG.ite (fun _ => ?_) (fun _ => ?_)
    | refine KpG.up rfl (fun _ => ?_)
    | refine KpG.fill rfl (fun _ => ?_)
    | refine KpG.copy rfl (fun _ => ?_)
    | refine KpG.bind (ρ := fun r : AG => r) ?_ (fun _ => ?_)
    | refine KpG.bind (ρ := fun r : Int × AG => r.2) ?_ (fun _ => ?_)
    | refine KpG.bind (ρ := fun r : Int × Int × AG => r.2.2) ?_ (fun _ => ?_)
    | refine KpG.bind (ρ := fun r : Int × Int × Int × AG => r.2.2.2) ?_ (fun _ => ?_)
    | refine KpG.int (fun _ => ?_))
def W_Rules_askDay : List Nat := [27000]
theorem Rules_askDay_fr {x1 : Int} {x2 : Int} {g : AG} : KpG W_Rules_askDay g Prod.snd (Rules_askDay x1 x2 g) := by
  unfold Rules_askDay
  repeat' (first
    | exact KpG.none
    | exact KpG.ret rfl
    | refine KpG.ite (fun _ => ?_) (fun _ => ?_)
    | refine KpG.up rfl (fun _ => ?_)
    | refine KpG.fill rfl (fun _ => ?_)
    | refine KpG.copy rfl (fun _ => ?_)
    | refine KpG.bind (ρ := fun r : AG => r) ?_ (fun _ => ?_)
    | refine KpG.bind (ρ := fun r : Int × AG => r.2) ?_ (fun _ => ?_)
    | refine KpG.bind (ρ := fun r : Int × Int × AG => r.2.2) ?_ (fun _ => ?_)
    | refine KpG.bind (ρ := fun r : Int × Int × Int × AG => r.2.2.2) ?_ (fun _ => ?_)
    | refine KpG.int (fun _ => ?_))
def W_Rules_run_b : List Nat := [28000]
set_option synthInstance.maxHeartbeats 2000000 in
theorem Rules_run_b_fr {x2 : Int} {tag : Nat} {x3 : Int} {x4 : Int} {x5 : Int} {g : AG} : KpG W_Rules_run_b g Prod.snd (Rules_run_b x2 tag x3 x4 x5 g) := by
  refine Rules_run_b.partial_correctness x2 (fun tag x3 x4 x5 g r => Fr W_Rules_run_b g r.2) ?_ tag x3 x4 x5 g
  intro fb9 ih tag x3 x4 x5 g
  show KpG W_Rules_run_b g Prod.snd _
  repeat' (first
    | exact KpG.none
    | exact KpG.ret rfl
    | refine KpG.ite (fun _ => ?_) (fun _ => ?_)
    | refine KpG.up rfl (fun _ => ?_)
    | refine KpG.fill rfl (fun _ => ?_)
    | refine KpG.copy rfl (fun _ => ?_)
    | exact ih _ _ _ _ _
    | refine KpG.bind (ρ := fun r : AG => r) ?_ (fun _ => ?_)
    | refine KpG.bind (ρ := fun r : Int × AG => r.2) ?_ (fun _ => ?_)
    | refine KpG.bind (ρ := fun r : Int × Int × AG => r.2.2) ?_ (fun _ => ?_)
    | refine KpG.bind (ρ := fun r : Int × Int × Int × AG => r.2.2.2) ?_ (fun _ => ?_)
    | refine KpG.int (fun _ => ?_))
def W_Rules_run : List Nat := [28000]
theorem Rules_run_fr {x1 : Int} {x2 : Int} {g : AG} : KpG W_Rules_run g Prod.snd (Rules_run x1 x2 g) := by
  unfold Rules_run
  repeat' (first
    | exact KpG.none
    | exact KpG.ret rfl
    | refine KpG.ite (fun _ => ?_) (fun _ => ?_)
    | refine KpG.up rfl (fun _ => ?_)
    | refine KpG.fill rfl (fun _ => ?_)
    | refine KpG.copy rfl (fun _ => ?_)
    | refine KpG.call (W1 := W_Rules_run_b) (Rules_run_b_fr) (by decide +kernel) (fun _ => ?_)
    | exact KpG.tail (W1 := W_Rules_run_b) (Rules_run_b_fr) (by decide +kernel)
    | refine KpG.bind (ρ := fun r : AG => r) ?_ (fun _ => ?_)
    | refine KpG.bind (ρ := fun r : Int × AG => r.2) ?_ (fun _ => ?_)
    | refine KpG.bind (ρ := fun r : Int × Int × AG => r.2.2) ?_ (fun _ => ?_)
    | refine KpG.bind (ρ := fun r : Int × Int × Int × AG => r.2.2.2) ?_ (fun _ => ?_)
    | refine KpG.int (fun _ => ?_))
def W_Rules_serving_b : List Nat := [28000]
set_option synthInstance.maxHeartbeats 2000000 in
theorem Rules_serving_b_fr {x1 : Int} {tag : Nat} {x2 : Int} {g : AG} : KpG W_Rules_serving_b g Prod.snd (Rules_serving_b x1 tag x2 g) := by
  refine Rules_serving_b.partial_correctness x1 (fun tag x2 g r => Fr W_Rules_serving_b g r.2) ?_ tag x2 g
  intro fb9 ih tag x2 g
  show KpG W_Rules_serving_b g Prod.snd _
  repeat' (first
    | exact KpG.none
    | exact KpG.ret rfl
    | refine KpG.ite (fun _ => ?_) (fun _ => ?_)
    | refine KpG.up rfl (fun _ => ?_)
    | refine KpG.fill rfl (fun _ => ?_)
    | refine KpG.copy rfl (fun _ => ?_)
    | refine KpG.call (W1 := W_Rules_run) (Rules_run_fr) (by decide +kernel) (fun _ => ?_)
    | exact KpG.tail (W1 := W_Rules_run) (Rules_run_fr) (by decide +kernel)
    | exact ih _ _ _
    | refine KpG.bind (ρ := fun r : AG => r) ?_ (fun _ => ?_)
    | refine KpG.bind (ρ := fun r : Int × AG => r.2) ?_ (fun _ => ?_)
    | refine KpG.bind (ρ := fun r : Int × Int × AG => r.2.2) ?_ (fun _ => ?_)
    | refine KpG.bind (ρ := fun r : Int × Int × Int × AG => r.2.2.2) ?_ (fun _ => ?_)
    | refine KpG.int (fun _ => ?_))
def W_Rules_serving : List Nat := [28000]
theorem Rules_serving_fr {x1 : Int} {g : AG} : KpG W_Rules_serving g Prod.snd (Rules_serving x1 g) := by
  unfold Rules_serving
  repeat' (first
    | exact KpG.none
    | exact KpG.ret rfl
    | refine KpG.ite (fun _ => ?_) (fun _ => ?_)
    | refine KpG.up rfl (fun _ => ?_)
    | refine KpG.fill rfl (fun _ => ?_)
    | refine KpG.copy rfl (fun _ => ?_)
    | refine KpG.call (W1 := W_Rules_serving_b) (Rules_serving_b_fr) (by decide +kernel) (fun _ => ?_)
    | exact KpG.tail (W1 := W_Rules_serving_b) (Rules_serving_b_fr) (by decide +kernel)
    | refine KpG.bind (ρ := fun r : AG => r) ?_ (fun _ => ?_)
    | refine KpG.bind (ρ := fun r : Int × AG => r.2) ?_ (fun _ => ?_)
    | refine KpG.bind (ρ := fun r : Int × Int × AG => r.2.2) ?_ (fun _ => ?_)
    | refine KpG.bind (ρ := fun r : Int × Int × Int × AG => r.2.2.2) ?_ (fun _ => ?_)
    | refine KpG.int (fun _ => ?_))
def W_Voyage_learnHours_b : List Nat := [27000, 28000]
set_option synthInstance.maxHeartbeats 2000000 in
theorem Voyage_learnHours_b_fr {x1 : Int} {g : AG} : KpG W_Voyage_learnHours_b g Prod.snd (Voyage_learnHours_b x1 g) := by
  refine Voyage_learnHours_b.partial_correctness (fun x1 g r => Fr W_Voyage_learnHours_b g r.2) ?_ x1 g
  intro fb9 ih x1 g
  show KpG W_Voyage_learnHours_b g Prod.snd _
  repeat' (first
    | exact KpG.none
    | exact KpG.ret rfl
    | refine KpG.ite (fun _ => ?_) (fun _ => ?_)
    | refine KpG.up rfl (fun _ => ?_)
    | refine KpG.fill rfl (fun _ => ?_)
    | refine KpG.copy rfl (fun _ => ?_)
    | refine KpG.call (W1 := W_Rules_askDay) (Rules_askDay_fr) (by decide +kernel) (fun _ => ?_)
    | exact KpG.tail (W1 := W_Rules_askDay) (Rules_askDay_fr) (by decide +kernel)
    | refine KpG.call (W1 := W_Rules_serving) (Rules_serving_fr) (by decide +kernel) (fun _ => ?_)
    | exact KpG.tail (W1 := W_Rules_serving) (Rules_serving_fr) (by decide +kernel)
    | exact ih _ _
    | refine KpG.bind (ρ := fun r : AG => r) ?_ (fun _ => ?_)
    | refine KpG.bind (ρ := fun r : Int × AG => r.2) ?_ (fun _ => ?_)
    | refine KpG.bind (ρ := fun r : Int × Int × AG => r.2.2) ?_ (fun _ => ?_)
    | refine KpG.bind (ρ := fun r : Int × Int × Int × AG => r.2.2.2) ?_ (fun _ => ?_)
    | refine KpG.int (fun _ => ?_))
def W_Voyage_learnHours : List Nat := [27000, 28000]
theorem Voyage_learnHours_fr {g : AG} : KpG W_Voyage_learnHours g Prod.snd (Voyage_learnHours g) := by
  unfold Voyage_learnHours
  repeat' (first
    | exact KpG.none
    | exact KpG.ret rfl
    | refine KpG.ite (fun _ => ?_) (fun _ => ?_)
    | refine KpG.up rfl (fun _ => ?_)
    | refine KpG.fill rfl (fun _ => ?_)
    | refine KpG.copy rfl (fun _ => ?_)
    | refine KpG.call (W1 := W_Voyage_learnHours_b) (Voyage_learnHours_b_fr) (by decide +kernel) (fun _ => ?_)
    | exact KpG.tail (W1 := W_Voyage_learnHours_b) (Voyage_learnHours_b_fr) (by decide +kernel)
    | refine KpG.bind (ρ := fun r : AG => r) ?_ (fun _ => ?_)
    | refine KpG.bind (ρ := fun r : Int × AG => r.2) ?_ (fun _ => ?_)
    | refine KpG.bind (ρ := fun r : Int × Int × AG => r.2.2) ?_ (fun _ => ?_)
    | refine KpG.bind (ρ := fun r : Int × Int × Int × AG => r.2.2.2) ?_ (fun _ => ?_)
    | refine KpG.int (fun _ => ?_))
def W_X_water : List Nat := [1006, 27000, 28000]
theorem X_water_fr {x1 : Int} {g : AG} : KpG W_X_water g Prod.snd (X_water x1 g) := by
  unfold X_water
  repeat' (first
    | exact KpG.none
    | exact KpG.ret rfl
    | refine KpG.ite (fun _ => ?_) (fun _ => ?_)
    | refine KpG.up rfl (fun _ => ?_)
    | refine KpG.fill rfl (fun _ => ?_)
    | refine KpG.copy rfl (fun _ => ?_)
    | refine KpG.call (W1 := W_Voyage_learnHours) (Voyage_learnHours_fr) (by decide +kernel) (fun _ => ?_)
    | exact KpG.tail (W1 := W_Voyage_learnHours) (Voyage_learnHours_fr) (by decide +kernel)
    | refine KpG.bind (ρ := fun r : AG => r) ?_ (fun _ => ?_)
    | refine KpG.bind (ρ := fun r : Int × AG => r.2) ?_ (fun _ => ?_)
    | refine KpG.bind (ρ := fun r : Int × Int × AG => r.2.2) ?_ (fun _ => ?_)
    | refine KpG.bind (ρ := fun r : Int × Int × Int × AG => r.2.2.2) ?_ (fun _ => ?_)
    | refine KpG.int (fun _ => ?_))
def W_Canal_stop_b : List Nat := [1005, 16000]
set_option synthInstance.maxHeartbeats 2000000 in
theorem Canal_stop_b_fr {x1 : Int} {x3 : Int} {x4 : Int} {g : AG} : KpG W_Canal_stop_b g Prod.snd (Canal_stop_b x1 x3 x4 g) := by
  refine Canal_stop_b.partial_correctness x1 x3 (fun x4 g r => Fr W_Canal_stop_b g r.2) ?_ x4 g
  intro fb9 ih x4 g
  show KpG W_Canal_stop_b g Prod.snd _
  repeat' (first
    | exact KpG.none
    | exact KpG.ret rfl
    | refine KpG.ite (fun _ => ?_) (fun _ => ?_)
    | refine KpG.up rfl (fun _ => ?_)
    | refine KpG.fill rfl (fun _ => ?_)
    | refine KpG.copy rfl (fun _ => ?_)
    | exact ih _ _
    | refine KpG.bind (ρ := fun r : AG => r) ?_ (fun _ => ?_)
    | refine KpG.bind (ρ := fun r : Int × AG => r.2) ?_ (fun _ => ?_)
    | refine KpG.bind (ρ := fun r : Int × Int × AG => r.2.2) ?_ (fun _ => ?_)
    | refine KpG.bind (ρ := fun r : Int × Int × Int × AG => r.2.2.2) ?_ (fun _ => ?_)
    | refine KpG.int (fun _ => ?_))
def W_Canal_stop : List Nat := [1005, 16000]
theorem Canal_stop_fr {x1 : Int} {x2 : Int} {x3 : Int} {g : AG} : KpG W_Canal_stop g Prod.snd (Canal_stop x1 x2 x3 g) := by
  unfold Canal_stop
  repeat' (first
    | exact KpG.none
    | exact KpG.ret rfl
    | refine KpG.ite (fun _ => ?_) (fun _ => ?_)
    | refine KpG.up rfl (fun _ => ?_)
    | refine KpG.fill rfl (fun _ => ?_)
    | refine KpG.copy rfl (fun _ => ?_)
    | refine KpG.call (W1 := W_Canal_stop_b) (Canal_stop_b_fr) (by decide +kernel) (fun _ => ?_)
    | exact KpG.tail (W1 := W_Canal_stop_b) (Canal_stop_b_fr) (by decide +kernel)
    | refine KpG.bind (ρ := fun r : AG => r) ?_ (fun _ => ?_)
    | refine KpG.bind (ρ := fun r : Int × AG => r.2) ?_ (fun _ => ?_)
    | refine KpG.bind (ρ := fun r : Int × Int × AG => r.2.2) ?_ (fun _ => ?_)
    | refine KpG.bind (ρ := fun r : Int × Int × Int × AG => r.2.2.2) ?_ (fun _ => ?_)
    | refine KpG.int (fun _ => ?_))
def W_Canal_reopen : List Nat := [1005, 16000]
theorem Canal_reopen_fr {g : AG} : KpG W_Canal_reopen g Prod.snd (Canal_reopen g) := by
  unfold Canal_reopen
  repeat' (first
    | exact KpG.none
    | exact KpG.ret rfl
    | refine KpG.ite (fun _ => ?_) (fun _ => ?_)
    | refine KpG.up rfl (fun _ => ?_)
    | refine KpG.fill rfl (fun _ => ?_)
    | refine KpG.copy rfl (fun _ => ?_)
    | refine KpG.bind (ρ := fun r : AG => r) ?_ (fun _ => ?_)
    | refine KpG.bind (ρ := fun r : Int × AG => r.2) ?_ (fun _ => ?_)
    | refine KpG.bind (ρ := fun r : Int × Int × AG => r.2.2) ?_ (fun _ => ?_)
    | refine KpG.bind (ρ := fun r : Int × Int × Int × AG => r.2.2.2) ?_ (fun _ => ?_)
    | refine KpG.int (fun _ => ?_))
def W_X_stoppage : List Nat := [1005, 16000]
theorem X_stoppage_fr {x1 : Int} {x2 : Int} {x3 : Int} {g : AG} : KpG W_X_stoppage g Prod.snd (X_stoppage x1 x2 x3 g) := by
  unfold X_stoppage
  repeat' (first
    | exact KpG.none
    | exact KpG.ret rfl
    | refine KpG.ite (fun _ => ?_) (fun _ => ?_)
    | refine KpG.up rfl (fun _ => ?_)
    | refine KpG.fill rfl (fun _ => ?_)
    | refine KpG.copy rfl (fun _ => ?_)
    | refine KpG.call (W1 := W_Canal_reopen) (Canal_reopen_fr) (by decide +kernel) (fun _ => ?_)
    | exact KpG.tail (W1 := W_Canal_reopen) (Canal_reopen_fr) (by decide +kernel)
    | refine KpG.call (W1 := W_Canal_stop) (Canal_stop_fr) (by decide +kernel) (fun _ => ?_)
    | exact KpG.tail (W1 := W_Canal_stop) (Canal_stop_fr) (by decide +kernel)
    | refine KpG.bind (ρ := fun r : AG => r) ?_ (fun _ => ?_)
    | refine KpG.bind (ρ := fun r : Int × AG => r.2) ?_ (fun _ => ?_)
    | refine KpG.bind (ρ := fun r : Int × Int × AG => r.2.2) ?_ (fun _ => ?_)
    | refine KpG.bind (ρ := fun r : Int × Int × Int × AG => r.2.2.2) ?_ (fun _ => ?_)
    | refine KpG.int (fun _ => ?_))
def W_Boats_add : List Nat := [6008, 48000, 49000, 50000, 51000]
theorem Boats_add_fr {x1 : Int} {x2 : Int} {x3 : Int} {x4 : Int} {g : AG} : KpG W_Boats_add g Prod.snd (Boats_add x1 x2 x3 x4 g) := by
  unfold Boats_add
  repeat' (first
    | exact KpG.none
    | exact KpG.ret rfl
    | refine KpG.ite (fun _ => ?_) (fun _ => ?_)
    | refine KpG.up rfl (fun _ => ?_)
    | refine KpG.fill rfl (fun _ => ?_)
    | refine KpG.copy rfl (fun _ => ?_)
    | refine KpG.bind (ρ := fun r : AG => r) ?_ (fun _ => ?_)
    | refine KpG.bind (ρ := fun r : Int × AG => r.2) ?_ (fun _ => ?_)
    | refine KpG.bind (ρ := fun r : Int × Int × AG => r.2.2) ?_ (fun _ => ?_)
    | refine KpG.bind (ρ := fun r : Int × Int × Int × AG => r.2.2.2) ?_ (fun _ => ?_)
    | refine KpG.int (fun _ => ?_))
def W_X_boat : List Nat := [6008, 48000, 49000, 50000, 51000]
theorem X_boat_fr {x1 : Int} {x2 : Int} {x3 : Int} {x4 : Int} {g : AG} : KpG W_X_boat g Prod.snd (X_boat x1 x2 x3 x4 g) := by
  unfold X_boat
  repeat' (first
    | exact KpG.none
    | exact KpG.ret rfl
    | refine KpG.ite (fun _ => ?_) (fun _ => ?_)
    | refine KpG.up rfl (fun _ => ?_)
    | refine KpG.fill rfl (fun _ => ?_)
    | refine KpG.copy rfl (fun _ => ?_)
    | refine KpG.call (W1 := W_Boats_add) (Boats_add_fr) (by decide +kernel) (fun _ => ?_)
    | exact KpG.tail (W1 := W_Boats_add) (Boats_add_fr) (by decide +kernel)
    | refine KpG.bind (ρ := fun r : AG => r) ?_ (fun _ => ?_)
    | refine KpG.bind (ρ := fun r : Int × AG => r.2) ?_ (fun _ => ?_)
    | refine KpG.bind (ρ := fun r : Int × Int × AG => r.2.2) ?_ (fun _ => ?_)
    | refine KpG.bind (ρ := fun r : Int × Int × Int × AG => r.2.2.2) ?_ (fun _ => ?_)
    | refine KpG.int (fun _ => ?_))
def W_Parser_put_b : List Nat := [4003, 41000]
set_option synthInstance.maxHeartbeats 2000000 in
theorem Parser_put_b_fr {x1 : Int} {x2 : Int} {g : AG} : KpG W_Parser_put_b g Prod.snd (Parser_put_b x1 x2 g) := by
  refine Parser_put_b.partial_correctness x1 (fun x2 g r => Fr W_Parser_put_b g r.2) ?_ x2 g
  intro fb9 ih x2 g
  show KpG W_Parser_put_b g Prod.snd _
  repeat' (first
    | exact KpG.none
    | exact KpG.ret rfl
    | refine KpG.ite (fun _ => ?_) (fun _ => ?_)
    | refine KpG.up rfl (fun _ => ?_)
    | refine KpG.fill rfl (fun _ => ?_)
    | refine KpG.copy rfl (fun _ => ?_)
    | exact ih _ _
    | refine KpG.bind (ρ := fun r : AG => r) ?_ (fun _ => ?_)
    | refine KpG.bind (ρ := fun r : Int × AG => r.2) ?_ (fun _ => ?_)
    | refine KpG.bind (ρ := fun r : Int × Int × AG => r.2.2) ?_ (fun _ => ?_)
    | refine KpG.bind (ρ := fun r : Int × Int × Int × AG => r.2.2.2) ?_ (fun _ => ?_)
    | refine KpG.int (fun _ => ?_))
def W_Parser_put : List Nat := [4003, 41000]
theorem Parser_put_fr {x1 : Int} {g : AG} : KpG W_Parser_put g Prod.snd (Parser_put x1 g) := by
  unfold Parser_put
  repeat' (first
    | exact KpG.none
    | exact KpG.ret rfl
    | refine KpG.ite (fun _ => ?_) (fun _ => ?_)
    | refine KpG.up rfl (fun _ => ?_)
    | refine KpG.fill rfl (fun _ => ?_)
    | refine KpG.copy rfl (fun _ => ?_)
    | refine KpG.call (W1 := W_Parser_put_b) (Parser_put_b_fr) (by decide +kernel) (fun _ => ?_)
    | exact KpG.tail (W1 := W_Parser_put_b) (Parser_put_b_fr) (by decide +kernel)
    | refine KpG.bind (ρ := fun r : AG => r) ?_ (fun _ => ?_)
    | refine KpG.bind (ρ := fun r : Int × AG => r.2) ?_ (fun _ => ?_)
    | refine KpG.bind (ρ := fun r : Int × Int × AG => r.2.2) ?_ (fun _ => ?_)
    | refine KpG.bind (ρ := fun r : Int × Int × Int × AG => r.2.2.2) ?_ (fun _ => ?_)
    | refine KpG.int (fun _ => ?_))
def W_X_feed : List Nat := [4003, 41000]
theorem X_feed_fr {x1 : Int} {x2 : Int} {x3 : Int} {x4 : Int} {x5 : Int} {g : AG} : KpG W_X_feed g Prod.snd (X_feed x1 x2 x3 x4 x5 g) := by
  unfold X_feed
  repeat' (first
    | exact KpG.none
    | exact KpG.ret rfl
    | refine KpG.ite (fun _ => ?_) (fun _ => ?_)
    | refine KpG.up rfl (fun _ => ?_)
    | refine KpG.fill rfl (fun _ => ?_)
    | refine KpG.copy rfl (fun _ => ?_)
    | refine KpG.call (W1 := W_Parser_put) (Parser_put_fr) (by decide +kernel) (fun _ => ?_)
    | exact KpG.tail (W1 := W_Parser_put) (Parser_put_fr) (by decide +kernel)
    | refine KpG.bind (ρ := fun r : AG => r) ?_ (fun _ => ?_)
    | refine KpG.bind (ρ := fun r : Int × AG => r.2) ?_ (fun _ => ?_)
    | refine KpG.bind (ρ := fun r : Int × Int × AG => r.2.2) ?_ (fun _ => ?_)
    | refine KpG.bind (ρ := fun r : Int × Int × Int × AG => r.2.2.2) ?_ (fun _ => ?_)
    | refine KpG.int (fun _ => ?_))
def W_X_end : List Nat := [4003]
theorem X_end_fr {x1 : Int} {g : AG} : KpG W_X_end g Prod.snd (X_end x1 g) := by
  unfold X_end
  repeat' (first
    | exact KpG.none
    | exact KpG.ret rfl
    | refine KpG.ite (fun _ => ?_) (fun _ => ?_)
    | refine KpG.up rfl (fun _ => ?_)
    | refine KpG.fill rfl (fun _ => ?_)
    | refine KpG.copy rfl (fun _ => ?_)
    | refine KpG.bind (ρ := fun r : AG => r) ?_ (fun _ => ?_)
    | refine KpG.bind (ρ := fun r : Int × AG => r.2) ?_ (fun _ => ?_)
    | refine KpG.bind (ρ := fun r : Int × Int × AG => r.2.2) ?_ (fun _ => ?_)
    | refine KpG.bind (ρ := fun r : Int × Int × Int × AG => r.2.2.2) ?_ (fun _ => ?_)
    | refine KpG.int (fun _ => ?_))
def W_Rules_clear : List Nat := [3003, 3004, 3011, 37000, 38000]
theorem Rules_clear_fr {g : AG} : KpG W_Rules_clear g Prod.snd (Rules_clear g) := by
  unfold Rules_clear
  repeat' (first
    | exact KpG.none
    | exact KpG.ret rfl
    | refine KpG.ite (fun _ => ?_) (fun _ => ?_)
    | refine KpG.up rfl (fun _ => ?_)
    | refine KpG.fill rfl (fun _ => ?_)
    | refine KpG.copy rfl (fun _ => ?_)
    | refine KpG.bind (ρ := fun r : AG => r) ?_ (fun _ => ?_)
    | refine KpG.bind (ρ := fun r : Int × AG => r.2) ?_ (fun _ => ?_)
    | refine KpG.bind (ρ := fun r : Int × Int × AG => r.2.2) ?_ (fun _ => ?_)
    | refine KpG.bind (ρ := fun r : Int × Int × Int × AG => r.2.2.2) ?_ (fun _ => ?_)
    | refine KpG.int (fun _ => ?_))
def W_Parser_add : List Nat := [4006, 42000, 43000]
theorem Parser_add_fr {x1 : Int} {x2 : Int} {g : AG} : KpG W_Parser_add g Prod.snd (Parser_add x1 x2 g) := by
  unfold Parser_add
  repeat' (first
    | exact KpG.none
    | exact KpG.ret rfl
    | refine KpG.ite (fun _ => ?_) (fun _ => ?_)
    | refine KpG.up rfl (fun _ => ?_)
    | refine KpG.fill rfl (fun _ => ?_)
    | refine KpG.copy rfl (fun _ => ?_)
    | refine KpG.bind (ρ := fun r : AG => r) ?_ (fun _ => ?_)
    | refine KpG.bind (ρ := fun r : Int × AG => r.2) ?_ (fun _ => ?_)
    | refine KpG.bind (ρ := fun r : Int × Int × AG => r.2.2) ?_ (fun _ => ?_)
    | refine KpG.bind (ρ := fun r : Int × Int × Int × AG => r.2.2.2) ?_ (fun _ => ?_)
    | refine KpG.int (fun _ => ?_))
def W_Parser_scan_b : List Nat := [4006, 42000, 43000]
set_option synthInstance.maxHeartbeats 2000000 in
theorem Parser_scan_b_fr {tag : Nat} {x1 : Int} {x2 : Int} {g : AG} : KpG W_Parser_scan_b g Prod.snd (Parser_scan_b tag x1 x2 g) := by
  refine Parser_scan_b.partial_correctness (fun tag x1 x2 g r => Fr W_Parser_scan_b g r.2) ?_ tag x1 x2 g
  intro fb9 ih tag x1 x2 g
  show KpG W_Parser_scan_b g Prod.snd _
  repeat' (first
    | exact KpG.none
    | exact KpG.ret rfl
    | refine KpG.ite (fun _ => ?_) (fun _ => ?_)
    | refine KpG.up rfl (fun _ => ?_)
    | refine KpG.fill rfl (fun _ => ?_)
    | refine KpG.copy rfl (fun _ => ?_)
    | refine KpG.call (W1 := W_Parser_add) (Parser_add_fr) (by decide +kernel) (fun _ => ?_)
    | exact KpG.tail (W1 := W_Parser_add) (Parser_add_fr) (by decide +kernel)
    | exact ih _ _ _ _
    | refine KpG.bind (ρ := fun r : AG => r) ?_ (fun _ => ?_)
    | refine KpG.bind (ρ := fun r : Int × AG => r.2) ?_ (fun _ => ?_)
    | refine KpG.bind (ρ := fun r : Int × Int × AG => r.2.2) ?_ (fun _ => ?_)
    | refine KpG.bind (ρ := fun r : Int × Int × Int × AG => r.2.2.2) ?_ (fun _ => ?_)
    | refine KpG.int (fun _ => ?_))
def W_Parser_scan : List Nat := [4006, 42000, 43000]
theorem Parser_scan_fr {g : AG} : KpG W_Parser_scan g Prod.snd (Parser_scan g) := by
  unfold Parser_scan
  repeat' (first
    | exact KpG.none
    | exact KpG.ret rfl
    | refine KpG.ite (fun _ => ?_) (fun _ => ?_)
    | refine KpG.up rfl (fun _ => ?_)
    | refine KpG.fill rfl (fun _ => ?_)
    | refine KpG.copy rfl (fun _ => ?_)
    | refine KpG.call (W1 := W_Parser_scan_b) (Parser_scan_b_fr) (by decide +kernel) (fun _ => ?_)
    | exact KpG.tail (W1 := W_Parser_scan_b) (Parser_scan_b_fr) (by decide +kernel)
    | refine KpG.bind (ρ := fun r : AG => r) ?_ (fun _ => ?_)
    | refine KpG.bind (ρ := fun r : Int × AG => r.2) ?_ (fun _ => ?_)
    | refine KpG.bind (ρ := fun r : Int × Int × AG => r.2.2) ?_ (fun _ => ?_)
    | refine KpG.bind (ρ := fun r : Int × Int × Int × AG => r.2.2.2) ?_ (fun _ => ?_)
    | refine KpG.int (fun _ => ?_))
def W_Parser_goOn : List Nat := [4007]
theorem Parser_goOn_fr {g : AG} : KpG W_Parser_goOn g Prod.snd (Parser_goOn g) := by
  unfold Parser_goOn
  repeat' (first
    | exact KpG.none
    | exact KpG.ret rfl
    | refine KpG.ite (fun _ => ?_) (fun _ => ?_)
    | refine KpG.up rfl (fun _ => ?_)
    | refine KpG.fill rfl (fun _ => ?_)
    | refine KpG.copy rfl (fun _ => ?_)
    | refine KpG.bind (ρ := fun r : AG => r) ?_ (fun _ => ?_)
    | refine KpG.bind (ρ := fun r : Int × AG => r.2) ?_ (fun _ => ?_)
    | refine KpG.bind (ρ := fun r : Int × Int × AG => r.2.2) ?_ (fun _ => ?_)
    | refine KpG.bind (ρ := fun r : Int × Int × Int × AG => r.2.2.2) ?_ (fun _ => ?_)
    | refine KpG.int (fun _ => ?_))
def W_Parser_fail : List Nat := [4008, 4009]
theorem Parser_fail_fr {x1 : Int} {g : AG} : KpG W_Parser_fail g Prod.snd (Parser_fail x1 g) := by
  unfold Parser_fail
  repeat' (first
    | exact KpG.none
    | exact KpG.ret rfl
    | refine KpG.ite (fun _ => ?_) (fun _ => ?_)
    | refine KpG.up rfl (fun _ => ?_)
    | refine KpG.fill rfl (fun _ => ?_)
    | refine KpG.copy rfl (fun _ => ?_)
    | refine KpG.bind (ρ := fun r : AG => r) ?_ (fun _ => ?_)
    | refine KpG.bind (ρ := fun r : Int × AG => r.2) ?_ (fun _ => ?_)
    | refine KpG.bind (ρ := fun r : Int × Int × AG => r.2.2) ?_ (fun _ => ?_)
    | refine KpG.bind (ρ := fun r : Int × Int × Int × AG => r.2.2.2) ?_ (fun _ => ?_)
    | refine KpG.int (fun _ => ?_))
def W_Rules_put : List Nat := [3003, 29000, 30000]
theorem Rules_put_fr {x1 : Int} {x2 : Int} {g : AG} : KpG W_Rules_put g Prod.snd (Rules_put x1 x2 g) := by
  unfold Rules_put
  repeat' (first
    | exact KpG.none
    | exact KpG.ret rfl
    | refine KpG.ite (fun _ => ?_) (fun _ => ?_)
    | refine KpG.up rfl (fun _ => ?_)
    | refine KpG.fill rfl (fun _ => ?_)
    | refine KpG.copy rfl (fun _ => ?_)
    | refine KpG.bind (ρ := fun r : AG => r) ?_ (fun _ => ?_)
    | refine KpG.bind (ρ := fun r : Int × AG => r.2) ?_ (fun _ => ?_)
    | refine KpG.bind (ρ := fun r : Int × Int × AG => r.2.2) ?_ (fun _ => ?_)
    | refine KpG.bind (ρ := fun r : Int × Int × Int × AG => r.2.2.2) ?_ (fun _ => ?_)
    | refine KpG.int (fun _ => ?_))
def W_Parser_readUnit_b : List Nat := [4007]
theorem Parser_readUnit_b_fr {g : AG} : KpG W_Parser_readUnit_b g Prod.snd (Parser_readUnit_b g) := by
  unfold Parser_readUnit_b
  repeat' (first
    | exact KpG.none
    | exact KpG.ret rfl
    | refine KpG.ite (fun _ => ?_) (fun _ => ?_)
    | refine KpG.up rfl (fun _ => ?_)
    | refine KpG.fill rfl (fun _ => ?_)
    | refine KpG.copy rfl (fun _ => ?_)
    | refine KpG.call (W1 := W_Parser_goOn) (Parser_goOn_fr) (by decide +kernel) (fun _ => ?_)
    | exact KpG.tail (W1 := W_Parser_goOn) (Parser_goOn_fr) (by decide +kernel)
    | refine KpG.bind (ρ := fun r : AG => r) ?_ (fun _ => ?_)
    | refine KpG.bind (ρ := fun r : Int × AG => r.2) ?_ (fun _ => ?_)
    | refine KpG.bind (ρ := fun r : Int × Int × AG => r.2.2) ?_ (fun _ => ?_)
    | refine KpG.bind (ρ := fun r : Int × Int × Int × AG => r.2.2.2) ?_ (fun _ => ?_)
    | refine KpG.int (fun _ => ?_))
def W_Parser_readUnit : List Nat := [3003, 4007, 4008, 4009, 29000, 30000]
theorem Parser_readUnit_fr {g : AG} : KpG W_Parser_readUnit g Prod.snd (Parser_readUnit g) := by
  unfold Parser_readUnit
  repeat' (first
    | exact KpG.none
    | exact KpG.ret rfl
    | refine KpG.ite (fun _ => ?_) (fun _ => ?_)
    | refine KpG.up rfl (fun _ => ?_)
    | refine KpG.fill rfl (fun _ => ?_)
    | refine KpG.copy rfl (fun _ => ?_)
    | refine KpG.call (W1 := W_Parser_fail) (Parser_fail_fr) (by decide +kernel) (fun _ => ?_)
    | exact KpG.tail (W1 := W_Parser_fail) (Parser_fail_fr) (by decide +kernel)
    | refine KpG.call (W1 := W_Rules_put) (Rules_put_fr) (by decide +kernel) (fun _ => ?_)
    | exact KpG.tail (W1 := W_Rules_put) (Rules_put_fr) (by decide +kernel)
    | refine KpG.call (W1 := W_Parser_readUnit_b) (Parser_readUnit_b_fr) (by decide +kernel) (fun _ => ?_)
    | exact KpG.tail (W1 := W_Parser_readUnit_b) (Parser_readUnit_b_fr) (by decide +kernel)
    | refine KpG.bind (ρ := fun r : AG => r) ?_ (fun _ => ?_)
    | refine KpG.bind (ρ := fun r : Int × AG => r.2) ?_ (fun _ => ?_)
    | refine KpG.bind (ρ := fun r : Int × Int × AG => r.2.2) ?_ (fun _ => ?_)
    | refine KpG.bind (ρ := fun r : Int × Int × Int × AG => r.2.2.2) ?_ (fun _ => ?_)
    | refine KpG.int (fun _ => ?_))
def W_Parser_readPart : List Nat := [3003, 4007, 4008, 4009, 29000, 30000]
theorem Parser_readPart_fr {g : AG} : KpG W_Parser_readPart g Prod.snd (Parser_readPart g) := by
  unfold Parser_readPart
  repeat' (first
    | exact KpG.none
    | exact KpG.ret rfl
    | refine KpG.ite (fun _ => ?_) (fun _ => ?_)
    | refine KpG.up rfl (fun _ => ?_)
    | refine KpG.fill rfl (fun _ => ?_)
    | refine KpG.copy rfl (fun _ => ?_)
    | refine KpG.call (W1 := W_Parser_fail) (Parser_fail_fr) (by decide +kernel) (fun _ => ?_)
    | exact KpG.tail (W1 := W_Parser_fail) (Parser_fail_fr) (by decide +kernel)
    | refine KpG.call (W1 := W_Rules_put) (Rules_put_fr) (by decide +kernel) (fun _ => ?_)
    | exact KpG.tail (W1 := W_Rules_put) (Rules_put_fr) (by decide +kernel)
    | refine KpG.call (W1 := W_Parser_goOn) (Parser_goOn_fr) (by decide +kernel) (fun _ => ?_)
    | exact KpG.tail (W1 := W_Parser_goOn) (Parser_goOn_fr) (by decide +kernel)
    | refine KpG.bind (ρ := fun r : AG => r) ?_ (fun _ => ?_)
    | refine KpG.bind (ρ := fun r : Int × AG => r.2) ?_ (fun _ => ?_)
    | refine KpG.bind (ρ := fun r : Int × Int × AG => r.2.2) ?_ (fun _ => ?_)
    | refine KpG.bind (ρ := fun r : Int × Int × Int × AG => r.2.2.2) ?_ (fun _ => ?_)
    | refine KpG.int (fun _ => ?_))
def W_Parser_readProduct_b : List Nat := [3003, 4007, 4008, 4009, 29000, 30000]
set_option synthInstance.maxHeartbeats 2000000 in
theorem Parser_readProduct_b_fr {tag : Nat} {x1 : Int} {g : AG} : KpG W_Parser_readProduct_b g Prod.snd (Parser_readProduct_b tag x1 g) := by
  refine Parser_readProduct_b.partial_correctness (fun tag x1 g r => Fr W_Parser_readProduct_b g r.2) ?_ tag x1 g
  intro fb9 ih tag x1 g
  show KpG W_Parser_readProduct_b g Prod.snd _
  repeat' (first
    | exact KpG.none
    | exact KpG.ret rfl
    | refine KpG.ite (fun _ => ?_) (fun _ => ?_)
    | refine KpG.up rfl (fun _ => ?_)
    | refine KpG.fill rfl (fun _ => ?_)
    | refine KpG.copy rfl (fun _ => ?_)
    | refine KpG.call (W1 := W_Parser_goOn) (Parser_goOn_fr) (by decide +kernel) (fun _ => ?_)
    | exact KpG.tail (W1 := W_Parser_goOn) (Parser_goOn_fr) (by decide +kernel)
    | refine KpG.call (W1 := W_Parser_readPart) (Parser_readPart_fr) (by decide +kernel) (fun _ => ?_)
    | exact KpG.tail (W1 := W_Parser_readPart) (Parser_readPart_fr) (by decide +kernel)
    | refine KpG.call (W1 := W_Parser_readUnit) (Parser_readUnit_fr) (by decide +kernel) (fun _ => ?_)
    | exact KpG.tail (W1 := W_Parser_readUnit) (Parser_readUnit_fr) (by decide +kernel)
    | refine KpG.call (W1 := W_Rules_put) (Rules_put_fr) (by decide +kernel) (fun _ => ?_)
    | exact KpG.tail (W1 := W_Rules_put) (Rules_put_fr) (by decide +kernel)
    | exact ih _ _ _
    | refine KpG.bind (ρ := fun r : AG => r) ?_ (fun _ => ?_)
    | refine KpG.bind (ρ := fun r : Int × AG => r.2) ?_ (fun _ => ?_)
    | refine KpG.bind (ρ := fun r : Int × Int × AG => r.2.2) ?_ (fun _ => ?_)
    | refine KpG.bind (ρ := fun r : Int × Int × Int × AG => r.2.2.2) ?_ (fun _ => ?_)
    | refine KpG.int (fun _ => ?_))
def W_Parser_readProduct : List Nat := [3003, 4007, 4008, 4009, 29000, 30000]
theorem Parser_readProduct_fr {g : AG} : KpG W_Parser_readProduct g Prod.snd (Parser_readProduct g) := by
  unfold Parser_readProduct
  repeat' (first
    | exact KpG.none
    | exact KpG.ret rfl
    | refine KpG.ite (fun _ => ?_) (fun _ => ?_)
    | refine KpG.up rfl (fun _ => ?_)
    | refine KpG.fill rfl (fun _ => ?_)
    | refine KpG.copy rfl (fun _ => ?_)
    | refine KpG.call (W1 := W_Parser_readUnit) (Parser_readUnit_fr) (by decide +kernel) (fun _ => ?_)
    | exact KpG.tail (W1 := W_Parser_readUnit) (Parser_readUnit_fr) (by decide +kernel)
    | refine KpG.call (W1 := W_Parser_readProduct_b) (Parser_readProduct_b_fr) (by decide +kernel) (fun _ => ?_)
    | exact KpG.tail (W1 := W_Parser_readProduct_b) (Parser_readProduct_b_fr) (by decide +kernel)
    | refine KpG.bind (ρ := fun r : AG => r) ?_ (fun _ => ?_)
    | refine KpG.bind (ρ := fun r : Int × AG => r.2) ?_ (fun _ => ?_)
    | refine KpG.bind (ρ := fun r : Int × Int × AG => r.2.2) ?_ (fun _ => ?_)
    | refine KpG.bind (ρ := fun r : Int × Int × Int × AG => r.2.2.2) ?_ (fun _ => ?_)
    | refine KpG.int (fun _ => ?_))
def W_Parser_readSum_b : List Nat := [3003, 4007, 4008, 4009, 29000, 30000]
set_option synthInstance.maxHeartbeats 2000000 in
theorem Parser_readSum_b_fr {tag : Nat} {x1 : Int} {g : AG} : KpG W_Parser_readSum_b g Prod.snd (Parser_readSum_b tag x1 g) := by
  refine Parser_readSum_b.partial_correctness (fun tag x1 g r => Fr W_Parser_readSum_b g r.2) ?_ tag x1 g
  intro fb9 ih tag x1 g
  show KpG W_Parser_readSum_b g Prod.snd _
  repeat' (first
    | exact KpG.none
    | exact KpG.ret rfl
    | refine KpG.ite (fun _ => ?_) (fun _ => ?_)
    | refine KpG.up rfl (fun _ => ?_)
    | refine KpG.fill rfl (fun _ => ?_)
    | refine KpG.copy rfl (fun _ => ?_)
    | refine KpG.call (W1 := W_Parser_goOn) (Parser_goOn_fr) (by decide +kernel) (fun _ => ?_)
    | exact KpG.tail (W1 := W_Parser_goOn) (Parser_goOn_fr) (by decide +kernel)
    | refine KpG.call (W1 := W_Parser_readProduct) (Parser_readProduct_fr) (by decide +kernel) (fun _ => ?_)
    | exact KpG.tail (W1 := W_Parser_readProduct) (Parser_readProduct_fr) (by decide +kernel)
    | refine KpG.call (W1 := W_Rules_put) (Rules_put_fr) (by decide +kernel) (fun _ => ?_)
    | exact KpG.tail (W1 := W_Rules_put) (Rules_put_fr) (by decide +kernel)
    | exact ih _ _ _
    | refine KpG.bind (ρ := fun r : AG => r) ?_ (fun _ => ?_)
    | refine KpG.bind (ρ := fun r : Int × AG => r.2) ?_ (fun _ => ?_)
    | refine KpG.bind (ρ := fun r : Int × Int × AG => r.2.2) ?_ (fun _ => ?_)
    | refine KpG.bind (ρ := fun r : Int × Int × Int × AG => r.2.2.2) ?_ (fun _ => ?_)
    | refine KpG.int (fun _ => ?_))
def W_Parser_readSum : List Nat := [3003, 4007, 4008, 4009, 29000, 30000]
theorem Parser_readSum_fr {g : AG} : KpG W_Parser_readSum g Prod.snd (Parser_readSum g) := by
  unfold Parser_readSum
  repeat' (first
    | exact KpG.none
    | exact KpG.ret rfl
    | refine KpG.ite (fun _ => ?_) (fun _ => ?_)
    | refine KpG.up rfl (fun _ => ?_)
    | refine KpG.fill rfl (fun _ => ?_)
    | refine KpG.copy rfl (fun _ => ?_)
    | refine KpG.call (W1 := W_Parser_readProduct) (Parser_readProduct_fr) (by decide +kernel) (fun _ => ?_)
    | exact KpG.tail (W1 := W_Parser_readProduct) (Parser_readProduct_fr) (by decide +kernel)
    | refine KpG.call (W1 := W_Parser_readSum_b) (Parser_readSum_b_fr) (by decide +kernel) (fun _ => ?_)
    | exact KpG.tail (W1 := W_Parser_readSum_b) (Parser_readSum_b_fr) (by decide +kernel)
    | refine KpG.bind (ρ := fun r : AG => r) ?_ (fun _ => ?_)
    | refine KpG.bind (ρ := fun r : Int × AG => r.2) ?_ (fun _ => ?_)
    | refine KpG.bind (ρ := fun r : Int × Int × AG => r.2.2) ?_ (fun _ => ?_)
    | refine KpG.bind (ρ := fun r : Int × Int × Int × AG => r.2.2.2) ?_ (fun _ => ?_)
    | refine KpG.int (fun _ => ?_))
def W_Parser_numberUpTo : List Nat := [4007, 4008, 4009]
theorem Parser_numberUpTo_fr {x1 : Int} {g : AG} : KpG W_Parser_numberUpTo g Prod.snd (Parser_numberUpTo x1 g) := by
  unfold Parser_numberUpTo
  repeat' (first
    | exact KpG.none
    | exact KpG.ret rfl
    | refine KpG.ite (fun _ => ?_) (fun _ => ?_)
    | refine KpG.up rfl (fun _ => ?_)
    | refine KpG.fill rfl (fun _ => ?_)
    | refine KpG.copy rfl (fun _ => ?_)
    | refine KpG.call (W1 := W_Parser_fail) (Parser_fail_fr) (by decide +kernel) (fun _ => ?_)
    | exact KpG.tail (W1 := W_Parser_fail) (Parser_fail_fr) (by decide +kernel)
    | refine KpG.call (W1 := W_Parser_goOn) (Parser_goOn_fr) (by decide +kernel) (fun _ => ?_)
    | exact KpG.tail (W1 := W_Parser_goOn) (Parser_goOn_fr) (by decide +kernel)
    | refine KpG.bind (ρ := fun r : AG => r) ?_ (fun _ => ?_)
    | refine KpG.bind (ρ := fun r : Int × AG => r.2) ?_ (fun _ => ?_)
    | refine KpG.bind (ρ := fun r : Int × Int × AG => r.2.2) ?_ (fun _ => ?_)
    | refine KpG.bind (ρ := fun r : Int × Int × Int × AG => r.2.2.2) ?_ (fun _ => ?_)
    | refine KpG.int (fun _ => ?_))
def W_Parser_readTunnel_b : List Nat := [4007, 4008, 4009]
theorem Parser_readTunnel_b_fr {x1 : Int} {g : AG} : KpG W_Parser_readTunnel_b g Prod.snd (Parser_readTunnel_b x1 g) := by
  unfold Parser_readTunnel_b
  repeat' (first
    | exact KpG.none
    | exact KpG.ret rfl
    | refine KpG.ite (fun _ => ?_) (fun _ => ?_)
    | refine KpG.up rfl (fun _ => ?_)
    | refine KpG.fill rfl (fun _ => ?_)
    | refine KpG.copy rfl (fun _ => ?_)
    | refine KpG.call (W1 := W_Parser_goOn) (Parser_goOn_fr) (by decide +kernel) (fun _ => ?_)
    | exact KpG.tail (W1 := W_Parser_goOn) (Parser_goOn_fr) (by decide +kernel)
    | refine KpG.call (W1 := W_Parser_numberUpTo) (Parser_numberUpTo_fr) (by decide +kernel) (fun _ => ?_)
    | exact KpG.tail (W1 := W_Parser_numberUpTo) (Parser_numberUpTo_fr) (by decide +kernel)
    | refine KpG.call (W1 := W_Parser_fail) (Parser_fail_fr) (by decide +kernel) (fun _ => ?_)
    | exact KpG.tail (W1 := W_Parser_fail) (Parser_fail_fr) (by decide +kernel)
    | refine KpG.bind (ρ := fun r : AG => r) ?_ (fun _ => ?_)
    | refine KpG.bind (ρ := fun r : Int × AG => r.2) ?_ (fun _ => ?_)
    | refine KpG.bind (ρ := fun r : Int × Int × AG => r.2.2) ?_ (fun _ => ?_)
    | refine KpG.bind (ρ := fun r : Int × Int × Int × AG => r.2.2.2) ?_ (fun _ => ?_)
    | refine KpG.int (fun _ => ?_))
def W_Parser_readTunnel : List Nat := [4007, 4008, 4009]
theorem Parser_readTunnel_fr {g : AG} : KpG W_Parser_readTunnel g Prod.snd (Parser_readTunnel g) := by
  unfold Parser_readTunnel
  repeat' (first
    | exact KpG.none
    | exact KpG.ret rfl
    | refine KpG.ite (fun _ => ?_) (fun _ => ?_)
    | refine KpG.up rfl (fun _ => ?_)
    | refine KpG.fill rfl (fun _ => ?_)
    | refine KpG.copy rfl (fun _ => ?_)
    | refine KpG.call (W1 := W_Parser_numberUpTo) (Parser_numberUpTo_fr) (by decide +kernel) (fun _ => ?_)
    | exact KpG.tail (W1 := W_Parser_numberUpTo) (Parser_numberUpTo_fr) (by decide +kernel)
    | refine KpG.call (W1 := W_Parser_fail) (Parser_fail_fr) (by decide +kernel) (fun _ => ?_)
    | exact KpG.tail (W1 := W_Parser_fail) (Parser_fail_fr) (by decide +kernel)
    | refine KpG.call (W1 := W_Parser_readTunnel_b) (Parser_readTunnel_b_fr) (by decide +kernel) (fun _ => ?_)
    | exact KpG.tail (W1 := W_Parser_readTunnel_b) (Parser_readTunnel_b_fr) (by decide +kernel)
    | refine KpG.bind (ρ := fun r : AG => r) ?_ (fun _ => ?_)
    | refine KpG.bind (ρ := fun r : Int × AG => r.2) ?_ (fun _ => ?_)
    | refine KpG.bind (ρ := fun r : Int × Int × AG => r.2.2) ?_ (fun _ => ?_)
    | refine KpG.bind (ρ := fun r : Int × Int × Int × AG => r.2.2.2) ?_ (fun _ => ?_)
    | refine KpG.int (fun _ => ?_))
def W_Parser_openOneMore : List Nat := [4007, 4008, 4009]
theorem Parser_openOneMore_fr {x1 : Int} {g : AG} : KpG W_Parser_openOneMore g Prod.snd (Parser_openOneMore x1 g) := by
  unfold Parser_openOneMore
  repeat' (first
    | exact KpG.none
    | exact KpG.ret rfl
    | refine KpG.ite (fun _ => ?_) (fun _ => ?_)
    | refine KpG.up rfl (fun _ => ?_)
    | refine KpG.fill rfl (fun _ => ?_)
    | refine KpG.copy rfl (fun _ => ?_)
    | refine KpG.call (W1 := W_Parser_goOn) (Parser_goOn_fr) (by decide +kernel) (fun _ => ?_)
    | exact KpG.tail (W1 := W_Parser_goOn) (Parser_goOn_fr) (by decide +kernel)
    | refine KpG.call (W1 := W_Parser_fail) (Parser_fail_fr) (by decide +kernel) (fun _ => ?_)
    | exact KpG.tail (W1 := W_Parser_fail) (Parser_fail_fr) (by decide +kernel)
    | refine KpG.bind (ρ := fun r : AG => r) ?_ (fun _ => ?_)
    | refine KpG.bind (ρ := fun r : Int × AG => r.2) ?_ (fun _ => ?_)
    | refine KpG.bind (ρ := fun r : Int × Int × AG => r.2.2) ?_ (fun _ => ?_)
    | refine KpG.bind (ρ := fun r : Int × Int × Int × AG => r.2.2.2) ?_ (fun _ => ?_)
    | refine KpG.int (fun _ => ?_))
def W_Parser_demandComparing : List Nat := [4007, 4008, 4009]
theorem Parser_demandComparing_fr {g : AG} : KpG W_Parser_demandComparing g Prod.snd (Parser_demandComparing g) := by
  unfold Parser_demandComparing
  repeat' (first
    | exact KpG.none
    | exact KpG.ret rfl
    | refine KpG.ite (fun _ => ?_) (fun _ => ?_)
    | refine KpG.up rfl (fun _ => ?_)
    | refine KpG.fill rfl (fun _ => ?_)
    | refine KpG.copy rfl (fun _ => ?_)
    | refine KpG.call (W1 := W_Parser_fail) (Parser_fail_fr) (by decide +kernel) (fun _ => ?_)
    | exact KpG.tail (W1 := W_Parser_fail) (Parser_fail_fr) (by decide +kernel)
    | refine KpG.call (W1 := W_Parser_goOn) (Parser_goOn_fr) (by decide +kernel) (fun _ => ?_)
    | exact KpG.tail (W1 := W_Parser_goOn) (Parser_goOn_fr) (by decide +kernel)
    | refine KpG.bind (ρ := fun r : AG => r) ?_ (fun _ => ?_)
    | refine KpG.bind (ρ := fun r : Int × AG => r.2) ?_ (fun _ => ?_)
    | refine KpG.bind (ρ := fun r : Int × Int × AG => r.2.2) ?_ (fun _ => ?_)
    | refine KpG.bind (ρ := fun r : Int × Int × Int × AG => r.2.2.2) ?_ (fun _ => ?_)
    | refine KpG.int (fun _ => ?_))
def W_Parser_demand : List Nat := [4007, 4008, 4009]
theorem Parser_demand_fr {x1 : Int} {g : AG} : KpG W_Parser_demand g Prod.snd (Parser_demand x1 g) := by
  unfold Parser_demand
  repeat' (first
    | exact KpG.none
    | exact KpG.ret rfl
    | refine KpG.ite (fun _ => ?_) (fun _ => ?_)
    | refine KpG.up rfl (fun _ => ?_)
    | refine KpG.fill rfl (fun _ => ?_)
    | refine KpG.copy rfl (fun _ => ?_)
    | refine KpG.call (W1 := W_Parser_fail) (Parser_fail_fr) (by decide +kernel) (fun _ => ?_)
    | exact KpG.tail (W1 := W_Parser_fail) (Parser_fail_fr) (by decide +kernel)
    | refine KpG.call (W1 := W_Parser_goOn) (Parser_goOn_fr) (by decide +kernel) (fun _ => ?_)
    | exact KpG.tail (W1 := W_Parser_goOn) (Parser_goOn_fr) (by decide +kernel)
    | refine KpG.bind (ρ := fun r : AG => r) ?_ (fun _ => ?_)
    | refine KpG.bind (ρ := fun r : Int × AG => r.2) ?_ (fun _ => ?_)
    | refine KpG.bind (ρ := fun r : Int × Int × AG => r.2.2) ?_ (fun _ => ?_)
    | refine KpG.bind (ρ := fun r : Int × Int × Int × AG => r.2.2.2) ?_ (fun _ => ?_)
    | refine KpG.int (fun _ => ?_))
def W_Parser_readOne_b : List Nat := [3003, 4007, 4008, 4009, 29000, 30000]
set_option synthInstance.maxHeartbeats 2000000 in
theorem Parser_readOne_b_fr {rec : Int → AG → Option (Int × AG)} {x1 : Int} {tag : Nat} {x2 : Int} {x3 : Int} {g : AG} (hrec : ∀ (a0 : Int) (g : AG), KpG [3003, 4007, 4008, 4009, 29000, 30000] g Prod.snd (rec a0 g)) : KpG W_Parser_readOne_b g Prod.snd (Parser_readOne_b rec x1 tag x2 x3 g) := by
  refine Parser_readOne_b.partial_correctness rec x1 (fun tag x2 x3 g r => Fr W_Parser_readOne_b g r.2) ?_ tag x2 x3 g
  intro fb9 ih tag x2 x3 g
  show KpG W_Parser_readOne_b g Prod.snd _
  repeat' (first
    | exact KpG.none
    | exact KpG.ret rfl
    | refine KpG.ite (fun _ => ?_) (fun _ => ?_)
    | refine KpG.up rfl (fun _ => ?_)
    | refine KpG.fill rfl (fun _ => ?_)
    | refine KpG.copy rfl (fun _ => ?_)
    | refine KpG.call (W1 := W_Parser_openOneMore) (Parser_openOneMore_fr) (by decide +kernel) (fun _ => ?_)
    | exact KpG.tail (W1 := W_Parser_openOneMore) (Parser_openOneMore_fr) (by decide +kernel)
    | refine KpG.call (W1 := W_Parser_readSum) (Parser_readSum_fr) (by decide +kernel) (fun _ => ?_)
    | exact KpG.tail (W1 := W_Parser_readSum) (Parser_readSum_fr) (by decide +kernel)
    | refine KpG.call (W1 := W_Parser_demandComparing) (Parser_demandComparing_fr) (by decide +kernel) (fun _ => ?_)
    | exact KpG.tail (W1 := W_Parser_demandComparing) (Parser_demandComparing_fr) (by decide +kernel)
    | refine KpG.call (W1 := W_Rules_put) (Rules_put_fr) (by decide +kernel) (fun _ => ?_)
    | exact KpG.tail (W1 := W_Rules_put) (Rules_put_fr) (by decide +kernel)
    | refine KpG.call (W1 := W_Parser_demand) (Parser_demand_fr) (by decide +kernel) (fun _ => ?_)
    | exact KpG.tail (W1 := W_Parser_demand) (Parser_demand_fr) (by decide +kernel)
    | refine KpG.call (W1 := [3003, 4007, 4008, 4009, 29000, 30000]) (hrec _ _) (by decide +kernel) (fun _ => ?_)
    | exact KpG.tail (W1 := [3003, 4007, 4008, 4009, 29000, 30000]) (hrec _ _) (by decide +kernel)
    | exact ih _ _ _ _
    | refine KpG.bind (ρ := fun r : AG => r) ?_ (fun _ => ?_)
    | refine KpG.bind (ρ := fun r : Int × AG => r.2) ?_ (fun _ => ?_)
    | refine KpG.bind (ρ := fun r : Int × Int × AG => r.2.2) ?_ (fun _ => ?_)
    | refine KpG.bind (ρ := fun r : Int × Int × Int × AG => r.2.2.2) ?_ (fun _ => ?_)
    | refine KpG.int (fun _ => ?_))
def W_Parser_readOne : List Nat := [3003, 4007, 4008, 4009, 29000, 30000]
theorem Parser_readOne_fr {rec : Int → AG → Option (Int × AG)} {x1 : Int} {g : AG} (hrec : ∀ (a0 : Int) (g : AG), KpG [3003, 4007, 4008, 4009, 29000, 30000] g Prod.snd (rec a0 g)) : KpG W_Parser_readOne g Prod.snd (Parser_readOne rec x1 g) := by
  unfold Parser_readOne
  repeat' (first
    | exact KpG.none
    | exact KpG.ret rfl
    | refine KpG.ite (fun _ => ?_) (fun _ => ?_)
    | refine KpG.up rfl (fun _ => ?_)
    | refine KpG.fill rfl (fun _ => ?_)
    | refine KpG.copy rfl (fun _ => ?_)
    | refine KpG.call (W1 := W_Parser_readOne_b) (Parser_readOne_b_fr hrec) (by decide +kernel) (fun _ => ?_)
    | exact KpG.tail (W1 := W_Parser_readOne_b) (Parser_readOne_b_fr hrec) (by decide +kernel)
    | refine KpG.call (W1 := [3003, 4007, 4008, 4009, 29000, 30000]) (hrec _ _) (by decide +kernel) (fun _ => ?_)
    | exact KpG.tail (W1 := [3003, 4007, 4008, 4009, 29000, 30000]) (hrec _ _) (by decide +kernel)
    | refine KpG.bind (ρ := fun r : AG => r) ?_ (fun _ => ?_)
    | refine KpG.bind (ρ := fun r : Int × AG => r.2) ?_ (fun _ => ?_)
    | refine KpG.bind (ρ := fun r : Int × Int × AG => r.2.2) ?_ (fun _ => ?_)
    | refine KpG.bind (ρ := fun r : Int × Int × Int × AG => r.2.2.2) ?_ (fun _ => ?_)
    | refine KpG.int (fun _ => ?_))
def W_Parser_readAll_b : List Nat := [3003, 4007, 4008, 4009, 29000, 30000]
set_option synthInstance.maxHeartbeats 2000000 in
theorem Parser_readAll_b_fr {rec : Int → AG → Option (Int × AG)} {x1 : Int} {x2 : Int} {g : AG} (hrec : ∀ (a0 : Int) (g : AG), KpG [3003, 4007, 4008, 4009, 29000, 30000] g Prod.snd (rec a0 g)) : KpG W_Parser_readAll_b g Prod.snd (Parser_readAll_b rec x1 x2 g) := by
  refine Parser_readAll_b.partial_correctness rec x1 (fun x2 g r => Fr W_Parser_readAll_b g r.2) ?_ x2 g
  intro fb9 ih x2 g
  show KpG W_Parser_readAll_b g Prod.snd _
  repeat' (first
    | exact KpG.none
    | exact KpG.ret rfl
    | refine KpG.ite (fun _ => ?_) (fun _ => ?_)
    | refine KpG.up rfl (fun _ => ?_)
    | refine KpG.fill rfl (fun _ => ?_)
    | refine KpG.copy rfl (fun _ => ?_)
    | refine KpG.call (W1 := W_Parser_goOn) (Parser_goOn_fr) (by decide +kernel) (fun _ => ?_)
    | exact KpG.tail (W1 := W_Parser_goOn) (Parser_goOn_fr) (by decide +kernel)
    | refine KpG.call (W1 := W_Parser_readOne) (Parser_readOne_fr hrec) (by decide +kernel) (fun _ => ?_)
    | exact KpG.tail (W1 := W_Parser_readOne) (Parser_readOne_fr hrec) (by decide +kernel)
    | refine KpG.call (W1 := W_Rules_put) (Rules_put_fr) (by decide +kernel) (fun _ => ?_)
    | exact KpG.tail (W1 := W_Rules_put) (Rules_put_fr) (by decide +kernel)
    | refine KpG.call (W1 := [3003, 4007, 4008, 4009, 29000, 30000]) (hrec _ _) (by decide +kernel) (fun _ => ?_)
    | exact KpG.tail (W1 := [3003, 4007, 4008, 4009, 29000, 30000]) (hrec _ _) (by decide +kernel)
    | exact ih _ _
    | refine KpG.bind (ρ := fun r : AG => r) ?_ (fun _ => ?_)
    | refine KpG.bind (ρ := fun r : Int × AG => r.2) ?_ (fun _ => ?_)
    | refine KpG.bind (ρ := fun r : Int × Int × AG => r.2.2) ?_ (fun _ => ?_)
    | refine KpG.bind (ρ := fun r : Int × Int × Int × AG => r.2.2.2) ?_ (fun _ => ?_)
    | refine KpG.int (fun _ => ?_))
def W_Parser_readAll : List Nat := [3003, 4007, 4008, 4009, 29000, 30000]
theorem Parser_readAll_fr {rec : Int → AG → Option (Int × AG)} {x1 : Int} {g : AG} (hrec : ∀ (a0 : Int) (g : AG), KpG [3003, 4007, 4008, 4009, 29000, 30000] g Prod.snd (rec a0 g)) : KpG W_Parser_readAll g Prod.snd (Parser_readAll rec x1 g) := by
  unfold Parser_readAll
  repeat' (first
    | exact KpG.none
    | exact KpG.ret rfl
    | refine KpG.ite (fun _ => ?_) (fun _ => ?_)
    | refine KpG.up rfl (fun _ => ?_)
    | refine KpG.fill rfl (fun _ => ?_)
    | refine KpG.copy rfl (fun _ => ?_)
    | refine KpG.call (W1 := W_Parser_readOne) (Parser_readOne_fr hrec) (by decide +kernel) (fun _ => ?_)
    | exact KpG.tail (W1 := W_Parser_readOne) (Parser_readOne_fr hrec) (by decide +kernel)
    | refine KpG.call (W1 := W_Parser_readAll_b) (Parser_readAll_b_fr hrec) (by decide +kernel) (fun _ => ?_)
    | exact KpG.tail (W1 := W_Parser_readAll_b) (Parser_readAll_b_fr hrec) (by decide +kernel)
    | refine KpG.call (W1 := [3003, 4007, 4008, 4009, 29000, 30000]) (hrec _ _) (by decide +kernel) (fun _ => ?_)
    | exact KpG.tail (W1 := [3003, 4007, 4008, 4009, 29000, 30000]) (hrec _ _) (by decide +kernel)
    | refine KpG.bind (ρ := fun r : AG => r) ?_ (fun _ => ?_)
    | refine KpG.bind (ρ := fun r : Int × AG => r.2) ?_ (fun _ => ?_)
    | refine KpG.bind (ρ := fun r : Int × Int × AG => r.2.2) ?_ (fun _ => ?_)
    | refine KpG.bind (ρ := fun r : Int × Int × Int × AG => r.2.2.2) ?_ (fun _ => ?_)
    | refine KpG.int (fun _ => ?_))
def W_Parser_readEither_b : List Nat := [3003, 4007, 4008, 4009, 29000, 30000]
set_option synthInstance.maxHeartbeats 2000000 in
theorem Parser_readEither_b_fr {rec : Int → AG → Option (Int × AG)} {x1 : Int} {x2 : Int} {g : AG} (hrec : ∀ (a0 : Int) (g : AG), KpG [3003, 4007, 4008, 4009, 29000, 30000] g Prod.snd (rec a0 g)) : KpG W_Parser_readEither_b g Prod.snd (Parser_readEither_b rec x1 x2 g) := by
  refine Parser_readEither_b.partial_correctness rec x1 (fun x2 g r => Fr W_Parser_readEither_b g r.2) ?_ x2 g
  intro fb9 ih x2 g
  show KpG W_Parser_readEither_b g Prod.snd _
  repeat' (first
    | exact KpG.none
    | exact KpG.ret rfl
    | refine KpG.ite (fun _ => ?_) (fun _ => ?_)
    | refine KpG.up rfl (fun _ => ?_)
    | refine KpG.fill rfl (fun _ => ?_)
    | refine KpG.copy rfl (fun _ => ?_)
    | refine KpG.call (W1 := W_Parser_goOn) (Parser_goOn_fr) (by decide +kernel) (fun _ => ?_)
    | exact KpG.tail (W1 := W_Parser_goOn) (Parser_goOn_fr) (by decide +kernel)
    | refine KpG.call (W1 := W_Parser_readAll) (Parser_readAll_fr hrec) (by decide +kernel) (fun _ => ?_)
    | exact KpG.tail (W1 := W_Parser_readAll) (Parser_readAll_fr hrec) (by decide +kernel)
    | refine KpG.call (W1 := W_Rules_put) (Rules_put_fr) (by decide +kernel) (fun _ => ?_)
    | exact KpG.tail (W1 := W_Rules_put) (Rules_put_fr) (by decide +kernel)
    | refine KpG.call (W1 := [3003, 4007, 4008, 4009, 29000, 30000]) (hrec _ _) (by decide +kernel) (fun _ => ?_)
    | exact KpG.tail (W1 := [3003, 4007, 4008, 4009, 29000, 30000]) (hrec _ _) (by decide +kernel)
    | exact ih _ _
    | refine KpG.bind (ρ := fun r : AG => r) ?_ (fun _ => ?_)
    | refine KpG.bind (ρ := fun r : Int × AG => r.2) ?_ (fun _ => ?_)
    | refine KpG.bind (ρ := fun r : Int × Int × AG => r.2.2) ?_ (fun _ => ?_)
    | refine KpG.bind (ρ := fun r : Int × Int × Int × AG => r.2.2.2) ?_ (fun _ => ?_)
    | refine KpG.int (fun _ => ?_))
def W_Parser_readEither_s : List Nat := [3003, 4007, 4008, 4009, 29000, 30000]
theorem Parser_readEither_s_fr {rec : Int → AG → Option (Int × AG)} {x1 : Int} {g : AG} (hrec : ∀ (a0 : Int) (g : AG), KpG [3003, 4007, 4008, 4009, 29000, 30000] g Prod.snd (rec a0 g)) : KpG W_Parser_readEither_s g Prod.snd (Parser_readEither_s rec x1 g) := by
  unfold Parser_readEither_s
  repeat' (first
    | exact KpG.none
    | exact KpG.ret rfl
    | refine KpG.ite (fun _ => ?_) (fun _ => ?_)
    | refine KpG.up rfl (fun _ => ?_)
    | refine KpG.fill rfl (fun _ => ?_)
    | refine KpG.copy rfl (fun _ => ?_)
    | refine KpG.call (W1 := W_Parser_readAll) (Parser_readAll_fr hrec) (by decide +kernel) (fun _ => ?_)
    | exact KpG.tail (W1 := W_Parser_readAll) (Parser_readAll_fr hrec) (by decide +kernel)
    | refine KpG.call (W1 := W_Parser_readEither_b) (Parser_readEither_b_fr hrec) (by decide +kernel) (fun _ => ?_)
    | exact KpG.tail (W1 := W_Parser_readEither_b) (Parser_readEither_b_fr hrec) (by decide +kernel)
    | refine KpG.call (W1 := [3003, 4007, 4008, 4009, 29000, 30000]) (hrec _ _) (by decide +kernel) (fun _ => ?_)
    | exact KpG.tail (W1 := [3003, 4007, 4008, 4009, 29000, 30000]) (hrec _ _) (by decide +kernel)
    | refine KpG.bind (ρ := fun r : AG => r) ?_ (fun _ => ?_)
    | refine KpG.bind (ρ := fun r : Int × AG => r.2) ?_ (fun _ => ?_)
    | refine KpG.bind (ρ := fun r : Int × Int × AG => r.2.2) ?_ (fun _ => ?_)
    | refine KpG.bind (ρ := fun r : Int × Int × Int × AG => r.2.2.2) ?_ (fun _ => ?_)
    | refine KpG.int (fun _ => ?_))
def W_Parser_readEither : List Nat := [3003, 4007, 4008, 4009, 29000, 30000]
theorem Parser_readEither_fr {n : Nat} {x1 : Int} {g : AG} : KpG W_Parser_readEither g Prod.snd (Parser_readEither n x1 g) := by
  induction n generalizing x1 g with
  | zero => exact KpG.none
  | succ n ih => exact Parser_readEither_s_fr (rec := Parser_readEither n) (fun _ g => ih)
def W_Parser_readLine : List Nat := [3003, 4007, 4008, 4009, 29000, 30000, 32000]
theorem Parser_readLine_fr {g : AG} : KpG W_Parser_readLine g Prod.snd (Parser_readLine g) := by
  unfold Parser_readLine
  repeat' (first
    | exact KpG.none
    | exact KpG.ret rfl
    | refine KpG.ite (fun _ => ?_) (fun _ => ?_)
    | refine KpG.up rfl (fun _ => ?_)
    | refine KpG.fill rfl (fun _ => ?_)
    | refine KpG.copy rfl (fun _ => ?_)
    | refine KpG.call (W1 := W_Parser_fail) (Parser_fail_fr) (by decide +kernel) (fun _ => ?_)
    | exact KpG.tail (W1 := W_Parser_fail) (Parser_fail_fr) (by decide +kernel)
    | refine KpG.call (W1 := W_Parser_goOn) (Parser_goOn_fr) (by decide +kernel) (fun _ => ?_)
    | exact KpG.tail (W1 := W_Parser_goOn) (Parser_goOn_fr) (by decide +kernel)
    | refine KpG.call (W1 := W_Parser_readTunnel) (Parser_readTunnel_fr) (by decide +kernel) (fun _ => ?_)
    | exact KpG.tail (W1 := W_Parser_readTunnel) (Parser_readTunnel_fr) (by decide +kernel)
    | refine KpG.call (W1 := W_Parser_numberUpTo) (Parser_numberUpTo_fr) (by decide +kernel) (fun _ => ?_)
    | exact KpG.tail (W1 := W_Parser_numberUpTo) (Parser_numberUpTo_fr) (by decide +kernel)
    | refine KpG.call (W1 := W_Parser_readSum) (Parser_readSum_fr) (by decide +kernel) (fun _ => ?_)
    | exact KpG.tail (W1 := W_Parser_readSum) (Parser_readSum_fr) (by decide +kernel)
    | refine KpG.call (W1 := W_Parser_readEither) (Parser_readEither_fr) (by decide +kernel) (fun _ => ?_)
    | exact KpG.tail (W1 := W_Parser_readEither) (Parser_readEither_fr) (by decide +kernel)
    | refine KpG.call (W1 := W_Parser_demand) (Parser_demand_fr) (by decide +kernel) (fun _ => ?_)
    | exact KpG.tail (W1 := W_Parser_demand) (Parser_demand_fr) (by decide +kernel)
    | refine KpG.bind (ρ := fun r : AG => r) ?_ (fun _ => ?_)
    | refine KpG.bind (ρ := fun r : Int × AG => r.2) ?_ (fun _ => ?_)
    | refine KpG.bind (ρ := fun r : Int × Int × AG => r.2.2) ?_ (fun _ => ?_)
    | refine KpG.bind (ρ := fun r : Int × Int × Int × AG => r.2.2.2) ?_ (fun _ => ?_)
    | refine KpG.int (fun _ => ?_))
def W_Parser_read_b : List Nat := [3003, 4003, 4007, 4008, 4009, 29000, 30000, 32000]
set_option synthInstance.maxHeartbeats 2000000 in
theorem Parser_read_b_fr {tag : Nat} {x1 : Int} {g : AG} : KpG W_Parser_read_b g Prod.snd (Parser_read_b tag x1 g) := by
  refine Parser_read_b.partial_correctness (fun tag x1 g r => Fr W_Parser_read_b g r.2) ?_ tag x1 g
  intro fb9 ih tag x1 g
  show KpG W_Parser_read_b g Prod.snd _
  repeat' (first
    | exact KpG.none
    | exact KpG.ret rfl
    | refine KpG.ite (fun _ => ?_) (fun _ => ?_)
    | refine KpG.up rfl (fun _ => ?_)
    | refine KpG.fill rfl (fun _ => ?_)
    | refine KpG.copy rfl (fun _ => ?_)
    | refine KpG.call (W1 := W_Parser_readLine) (Parser_readLine_fr) (by decide +kernel) (fun _ => ?_)
    | exact KpG.tail (W1 := W_Parser_readLine) (Parser_readLine_fr) (by decide +kernel)
    | exact ih _ _ _
    | refine KpG.bind (ρ := fun r : AG => r) ?_ (fun _ => ?_)
    | refine KpG.bind (ρ := fun r : Int × AG => r.2) ?_ (fun _ => ?_)
    | refine KpG.bind (ρ := fun r : Int × Int × AG => r.2.2) ?_ (fun _ => ?_)
    | refine KpG.bind (ρ := fun r : Int × Int × Int × AG => r.2.2.2) ?_ (fun _ => ?_)
    | refine KpG.int (fun _ => ?_))
def W_Parser_read : List Nat := [3003, 3004, 3011, 4003, 4006, 4007, 4008, 4009, 29000, 30000, 32000, 37000, 38000, 42000, 43000]
theorem Parser_read_fr {g : AG} : KpG W_Parser_read g Prod.snd (Parser_read g) := by
  unfold Parser_read
  repeat' (first
    | exact KpG.none
    | exact KpG.ret rfl
    | refine KpG.ite (fun _ => ?_) (fun _ => ?_)
    | refine KpG.up rfl (fun _ => ?_)
    | refine KpG.fill rfl (fun _ => ?_)
    | refine KpG.copy rfl (fun _ => ?_)
    | refine KpG.call (W1 := W_Rules_clear) (Rules_clear_fr) (by decide +kernel) (fun _ => ?_)
    | exact KpG.tail (W1 := W_Rules_clear) (Rules_clear_fr) (by decide +kernel)
    | refine KpG.call (W1 := W_Parser_scan) (Parser_scan_fr) (by decide +kernel) (fun _ => ?_)
    | exact KpG.tail (W1 := W_Parser_scan) (Parser_scan_fr) (by decide +kernel)
    | refine KpG.call (W1 := W_Parser_read_b) (Parser_read_b_fr) (by decide +kernel) (fun _ => ?_)
    | exact KpG.tail (W1 := W_Parser_read_b) (Parser_read_b_fr) (by decide +kernel)
    | refine KpG.bind (ρ := fun r : AG => r) ?_ (fun _ => ?_)
    | refine KpG.bind (ρ := fun r : Int × AG => r.2) ?_ (fun _ => ?_)
    | refine KpG.bind (ρ := fun r : Int × Int × AG => r.2.2) ?_ (fun _ => ?_)
    | refine KpG.bind (ρ := fun r : Int × Int × Int × AG => r.2.2.2) ?_ (fun _ => ?_)
    | refine KpG.int (fun _ => ?_))
def W_Rules_takeOver : List Nat := [2003, 2004, 2011, 17000, 18000, 19000, 20000, 21000, 22000, 23000, 24000, 25000, 26000]
theorem Rules_takeOver_fr {g : AG} : KpG W_Rules_takeOver g Prod.snd (Rules_takeOver g) := by
  unfold Rules_takeOver
  repeat' (first
    | exact KpG.none
    | exact KpG.ret rfl
    | refine KpG.ite (fun _ => ?_) (fun _ => ?_)
    | refine KpG.up rfl (fun _ => ?_)
    | refine KpG.fill rfl (fun _ => ?_)
    | refine KpG.copy rfl (fun _ => ?_)
    | refine KpG.bind (ρ := fun r : AG => r) ?_ (fun _ => ?_)
    | refine KpG.bind (ρ := fun r : Int × AG => r.2) ?_ (fun _ => ?_)
    | refine KpG.bind (ρ := fun r : Int × Int × AG => r.2.2) ?_ (fun _ => ?_)
    | refine KpG.bind (ρ := fun r : Int × Int × Int × AG => r.2.2.2) ?_ (fun _ => ?_)
    | refine KpG.int (fun _ => ?_))
def W_X_rules : List Nat := [2003, 2004, 2011, 3003, 3004, 3011, 4003, 4006, 4007, 4008, 4009, 17000, 18000, 19000, 20000, 21000, 22000, 23000, 24000, 25000, 26000, 27000, 28000, 29000, 30000, 32000, 37000, 38000, 42000, 43000]
theorem X_rules_fr {g : AG} : KpG W_X_rules g Prod.snd (X_rules g) := by
  unfold X_rules
  repeat' (first
    | exact KpG.none
    | exact KpG.ret rfl
    | refine KpG.ite (fun _ => ?_) (fun _ => ?_)
    | refine KpG.up rfl (fun _ => ?_)
    | refine KpG.fill rfl (fun _ => ?_)
    | refine KpG.copy rfl (fun _ => ?_)
    | refine KpG.call (W1 := W_Parser_read) (Parser_read_fr) (by decide +kernel) (fun _ => ?_)
    | exact KpG.tail (W1 := W_Parser_read) (Parser_read_fr) (by decide +kernel)
    | refine KpG.call (W1 := W_Rules_takeOver) (Rules_takeOver_fr) (by decide +kernel) (fun _ => ?_)
    | exact KpG.tail (W1 := W_Rules_takeOver) (Rules_takeOver_fr) (by decide +kernel)
    | refine KpG.call (W1 := W_Voyage_learnHours) (Voyage_learnHours_fr) (by decide +kernel) (fun _ => ?_)
    | exact KpG.tail (W1 := W_Voyage_learnHours) (Voyage_learnHours_fr) (by decide +kernel)
    | refine KpG.bind (ρ := fun r : AG => r) ?_ (fun _ => ?_)
    | refine KpG.bind (ρ := fun r : Int × AG => r.2) ?_ (fun _ => ?_)
    | refine KpG.bind (ρ := fun r : Int × Int × AG => r.2.2) ?_ (fun _ => ?_)
    | refine KpG.bind (ρ := fun r : Int × Int × Int × AG => r.2.2.2) ?_ (fun _ => ?_)
    | refine KpG.int (fun _ => ?_))
def W_Voyage_setOut : List Nat := [5007, 5008, 47000]
theorem Voyage_setOut_fr {x1 : Int} {x2 : Int} {g : AG} : KpG W_Voyage_setOut g Prod.snd (Voyage_setOut x1 x2 g) := by
  unfold Voyage_setOut
  repeat' (first
    | exact KpG.none
    | exact KpG.ret rfl
    | refine KpG.ite (fun _ => ?_) (fun _ => ?_)
    | refine KpG.up rfl (fun _ => ?_)
    | refine KpG.fill rfl (fun _ => ?_)
    | refine KpG.copy rfl (fun _ => ?_)
    | refine KpG.bind (ρ := fun r : AG => r) ?_ (fun _ => ?_)
    | refine KpG.bind (ρ := fun r : Int × AG => r.2) ?_ (fun _ => ?_)
    | refine KpG.bind (ρ := fun r : Int × Int × AG => r.2.2) ?_ (fun _ => ?_)
    | refine KpG.bind (ρ := fun r : Int × Int × Int × AG => r.2.2.2) ?_ (fun _ => ?_)
    | refine KpG.int (fun _ => ?_))
def W_Voyage_step : List Nat := [47000]
theorem Voyage_step_fr {x1 : Int} {x2 : Int} {x3 : Int} {x4 : Int} {g : AG} : KpG W_Voyage_step g Prod.snd (Voyage_step x1 x2 x3 x4 g) := by
  unfold Voyage_step
  repeat' (first
    | exact KpG.none
    | exact KpG.ret rfl
    | refine KpG.ite (fun _ => ?_) (fun _ => ?_)
    | refine KpG.up rfl (fun _ => ?_)
    | refine KpG.fill rfl (fun _ => ?_)
    | refine KpG.copy rfl (fun _ => ?_)
    | refine KpG.bind (ρ := fun r : AG => r) ?_ (fun _ => ?_)
    | refine KpG.bind (ρ := fun r : Int × AG => r.2) ?_ (fun _ => ?_)
    | refine KpG.bind (ρ := fun r : Int × Int × AG => r.2.2) ?_ (fun _ => ?_)
    | refine KpG.bind (ρ := fun r : Int × Int × Int × AG => r.2.2.2) ?_ (fun _ => ?_)
    | refine KpG.int (fun _ => ?_))
def W_Voyage_pass_b : List Nat := [47000]
set_option synthInstance.maxHeartbeats 2000000 in
theorem Voyage_pass_b_fr {x1 : Int} {x4 : Int} {tag : Nat} {x5 : Int} {x6 : Int} {g : AG} : KpG W_Voyage_pass_b g Prod.snd (Voyage_pass_b x1 x4 tag x5 x6 g) := by
  refine Voyage_pass_b.partial_correctness x1 x4 (fun tag x5 x6 g r => Fr W_Voyage_pass_b g r.2) ?_ tag x5 x6 g
  intro fb9 ih tag x5 x6 g
  show KpG W_Voyage_pass_b g Prod.snd _
  repeat' (first
    | exact KpG.none
    | exact KpG.ret rfl
    | refine KpG.ite (fun _ => ?_) (fun _ => ?_)
    | refine KpG.up rfl (fun _ => ?_)
    | refine KpG.fill rfl (fun _ => ?_)
    | refine KpG.copy rfl (fun _ => ?_)
    | refine KpG.call (W1 := W_Voyage_step) (Voyage_step_fr) (by decide +kernel) (fun _ => ?_)
    | exact KpG.tail (W1 := W_Voyage_step) (Voyage_step_fr) (by decide +kernel)
    | exact ih _ _ _ _
    | refine KpG.bind (ρ := fun r : AG => r) ?_ (fun _ => ?_)
    | refine KpG.bind (ρ := fun r : Int × AG => r.2) ?_ (fun _ => ?_)
    | refine KpG.bind (ρ := fun r : Int × Int × AG => r.2.2) ?_ (fun _ => ?_)
    | refine KpG.bind (ρ := fun r : Int × Int × Int × AG => r.2.2.2) ?_ (fun _ => ?_)
    | refine KpG.int (fun _ => ?_))
def W_Voyage_pass : List Nat := [47000]
theorem Voyage_pass_fr {x1 : Int} {x2 : Int} {x3 : Int} {g : AG} : KpG W_Voyage_pass g Prod.snd (Voyage_pass x1 x2 x3 g) := by
  unfold Voyage_pass
  repeat' (first
    | exact KpG.none
    | exact KpG.ret rfl
    | refine KpG.ite (fun _ => ?_) (fun _ => ?_)
    | refine KpG.up rfl (fun _ => ?_)
    | refine KpG.fill rfl (fun _ => ?_)
    | refine KpG.copy rfl (fun _ => ?_)
    | refine KpG.call (W1 := W_Voyage_pass_b) (Voyage_pass_b_fr) (by decide +kernel) (fun _ => ?_)
    | exact KpG.tail (W1 := W_Voyage_pass_b) (Voyage_pass_b_fr) (by decide +kernel)
    | refine KpG.call (W1 := W_Voyage_step) (Voyage_step_fr) (by decide +kernel) (fun _ => ?_)
    | exact KpG.tail (W1 := W_Voyage_step) (Voyage_step_fr) (by decide +kernel)
    | refine KpG.bind (ρ := fun r : AG => r) ?_ (fun _ => ?_)
    | refine KpG.bind (ρ := fun r : Int × AG => r.2) ?_ (fun _ => ?_)
    | refine KpG.bind (ρ := fun r : Int × Int × AG => r.2.2) ?_ (fun _ => ?_)
    | refine KpG.bind (ρ := fun r : Int × Int × Int × AG => r.2.2.2) ?_ (fun _ => ?_)
    | refine KpG.int (fun _ => ?_))
def W_Voyage_comesTo_b : List Nat := [47000]
set_option synthInstance.maxHeartbeats 2000000 in
theorem Voyage_comesTo_b_fr {x2 : Int} {x3 : Int} {tag : Nat} {x6 : Int} {x7 : Int} {g : AG} : KpG W_Voyage_comesTo_b g Prod.snd (Voyage_comesTo_b x2 x3 tag x6 x7 g) := by
  refine Voyage_comesTo_b.partial_correctness x2 x3 (fun tag x6 x7 g r => Fr W_Voyage_comesTo_b g r.2) ?_ tag x6 x7 g
  intro fb9 ih tag x6 x7 g
  show KpG W_Voyage_comesTo_b g Prod.snd _
  repeat' (first
    | exact KpG.none
    | exact KpG.ret rfl
    | refine KpG.ite (fun _ => ?_) (fun _ => ?_)
    | refine KpG.up rfl (fun _ => ?_)
    | refine KpG.fill rfl (fun _ => ?_)
    | refine KpG.copy rfl (fun _ => ?_)
    | refine KpG.call (W1 := W_Voyage_pass) (Voyage_pass_fr) (by decide +kernel) (fun _ => ?_)
    | exact KpG.tail (W1 := W_Voyage_pass) (Voyage_pass_fr) (by decide +kernel)
    | exact ih _ _ _ _
    | refine KpG.bind (ρ := fun r : AG => r) ?_ (fun _ => ?_)
    | refine KpG.bind (ρ := fun r : Int × AG => r.2) ?_ (fun _ => ?_)
    | refine KpG.bind (ρ := fun r : Int × Int × AG => r.2.2) ?_ (fun _ => ?_)
    | refine KpG.bind (ρ := fun r : Int × Int × Int × AG => r.2.2.2) ?_ (fun _ => ?_)
    | refine KpG.int (fun _ => ?_))
def W_Voyage_comesTo : List Nat := [5007, 5008, 47000]
theorem Voyage_comesTo_fr {x1 : Int} {x2 : Int} {x3 : Int} {x4 : Int} {x5 : Int} {g : AG} : KpG W_Voyage_comesTo g Prod.snd (Voyage_comesTo x1 x2 x3 x4 x5 g) := by
  unfold Voyage_comesTo
  repeat' (first
    | exact KpG.none
    | exact KpG.ret rfl
    | refine KpG.ite (fun _ => ?_) (fun _ => ?_)
    | refine KpG.up rfl (fun _ => ?_)
    | refine KpG.fill rfl (fun _ => ?_)
    | refine KpG.copy rfl (fun _ => ?_)
    | refine KpG.call (W1 := W_Voyage_setOut) (Voyage_setOut_fr) (by decide +kernel) (fun _ => ?_)
    | exact KpG.tail (W1 := W_Voyage_setOut) (Voyage_setOut_fr) (by decide +kernel)
    | refine KpG.call (W1 := W_Voyage_comesTo_b) (Voyage_comesTo_b_fr) (by decide +kernel) (fun _ => ?_)
    | exact KpG.tail (W1 := W_Voyage_comesTo_b) (Voyage_comesTo_b_fr) (by decide +kernel)
    | refine KpG.bind (ρ := fun r : AG => r) ?_ (fun _ => ?_)
    | refine KpG.bind (ρ := fun r : Int × AG => r.2) ?_ (fun _ => ?_)
    | refine KpG.bind (ρ := fun r : Int × Int × AG => r.2.2) ?_ (fun _ => ?_)
    | refine KpG.bind (ρ := fun r : Int × Int × Int × AG => r.2.2.2) ?_ (fun _ => ?_)
    | refine KpG.int (fun _ => ?_))
def W_X_comes : List Nat := [5007, 5008, 47000]
theorem X_comes_fr {x1 : Int} {x2 : Int} {x3 : Int} {x4 : Int} {g : AG} : KpG W_X_comes g Prod.snd (X_comes x1 x2 x3 x4 g) := by
  unfold X_comes
  repeat' (first
    | exact KpG.none
    | exact KpG.ret rfl
    | refine KpG.ite (fun _ => ?_) (fun _ => ?_)
    | refine KpG.up rfl (fun _ => ?_)
    | refine KpG.fill rfl (fun _ => ?_)
    | refine KpG.copy rfl (fun _ => ?_)
    | refine KpG.call (W1 := W_Voyage_comesTo) (Voyage_comesTo_fr) (by decide +kernel) (fun _ => ?_)
    | exact KpG.tail (W1 := W_Voyage_comesTo) (Voyage_comesTo_fr) (by decide +kernel)
    | refine KpG.bind (ρ := fun r : AG => r) ?_ (fun _ => ?_)
    | refine KpG.bind (ρ := fun r : Int × AG => r.2) ?_ (fun _ => ?_)
    | refine KpG.bind (ρ := fun r : Int × Int × AG => r.2.2) ?_ (fun _ => ?_)
    | refine KpG.bind (ρ := fun r : Int × Int × Int × AG => r.2.2.2) ?_ (fun _ => ?_)
    | refine KpG.int (fun _ => ?_))
def W_Voyage_reach_b : List Nat := [47000]
set_option synthInstance.maxHeartbeats 2000000 in
theorem Voyage_reach_b_fr {x2 : Int} {tag : Nat} {x4 : Int} {g : AG} : KpG W_Voyage_reach_b g Prod.snd (Voyage_reach_b x2 tag x4 g) := by
  refine Voyage_reach_b.partial_correctness x2 (fun tag x4 g r => Fr W_Voyage_reach_b g r.2) ?_ tag x4 g
  intro fb9 ih tag x4 g
  show KpG W_Voyage_reach_b g Prod.snd _
  repeat' (first
    | exact KpG.none
    | exact KpG.ret rfl
    | refine KpG.ite (fun _ => ?_) (fun _ => ?_)
    | refine KpG.up rfl (fun _ => ?_)
    | refine KpG.fill rfl (fun _ => ?_)
    | refine KpG.copy rfl (fun _ => ?_)
    | refine KpG.call (W1 := W_Voyage_pass) (Voyage_pass_fr) (by decide +kernel) (fun _ => ?_)
    | exact KpG.tail (W1 := W_Voyage_pass) (Voyage_pass_fr) (by decide +kernel)
    | exact ih _ _ _
    | refine KpG.bind (ρ := fun r : AG => r) ?_ (fun _ => ?_)
    | refine KpG.bind (ρ := fun r : Int × AG => r.2) ?_ (fun _ => ?_)
    | refine KpG.bind (ρ := fun r : Int × Int × AG => r.2.2) ?_ (fun _ => ?_)
    | refine KpG.bind (ρ := fun r : Int × Int × Int × AG => r.2.2.2) ?_ (fun _ => ?_)
    | refine KpG.int (fun _ => ?_))
def W_Voyage_reach : List Nat := [5007, 5008, 47000]
theorem Voyage_reach_fr {x1 : Int} {x2 : Int} {x3 : Int} {g : AG} : KpG W_Voyage_reach g Prod.snd (Voyage_reach x1 x2 x3 g) := by
  unfold Voyage_reach
  repeat' (first
    | exact KpG.none
    | exact KpG.ret rfl
    | refine KpG.ite (fun _ => ?_) (fun _ => ?_)
    | refine KpG.up rfl (fun _ => ?_)
    | refine KpG.fill rfl (fun _ => ?_)
    | refine KpG.copy rfl (fun _ => ?_)
    | refine KpG.call (W1 := W_Voyage_setOut) (Voyage_setOut_fr) (by decide +kernel) (fun _ => ?_)
    | exact KpG.tail (W1 := W_Voyage_setOut) (Voyage_setOut_fr) (by decide +kernel)
    | refine KpG.call (W1 := W_Voyage_reach_b) (Voyage_reach_b_fr) (by decide +kernel) (fun _ => ?_)
    | exact KpG.tail (W1 := W_Voyage_reach_b) (Voyage_reach_b_fr) (by decide +kernel)
    | refine KpG.bind (ρ := fun r : AG => r) ?_ (fun _ => ?_)
    | refine KpG.bind (ρ := fun r : Int × AG => r.2) ?_ (fun _ => ?_)
    | refine KpG.bind (ρ := fun r : Int × Int × AG => r.2.2) ?_ (fun _ => ?_)
    | refine KpG.bind (ρ := fun r : Int × Int × Int × AG => r.2.2.2) ?_ (fun _ => ?_)
    | refine KpG.int (fun _ => ?_))
def W_X_maybe : List Nat := [5007, 5008, 47000]
theorem X_maybe_fr {x1 : Int} {x2 : Int} {x3 : Int} {x4 : Int} {g : AG} : KpG W_X_maybe g Prod.snd (X_maybe x1 x2 x3 x4 g) := by
  unfold X_maybe
  repeat' (first
    | exact KpG.none
    | exact KpG.ret rfl
    | refine KpG.ite (fun _ => ?_) (fun _ => ?_)
    | refine KpG.up rfl (fun _ => ?_)
    | refine KpG.fill rfl (fun _ => ?_)
    | refine KpG.copy rfl (fun _ => ?_)
    | refine KpG.call (W1 := W_Voyage_reach) (Voyage_reach_fr) (by decide +kernel) (fun _ => ?_)
    | exact KpG.tail (W1 := W_Voyage_reach) (Voyage_reach_fr) (by decide +kernel)
    | refine KpG.bind (ρ := fun r : AG => r) ?_ (fun _ => ?_)
    | refine KpG.bind (ρ := fun r : Int × AG => r.2) ?_ (fun _ => ?_)
    | refine KpG.bind (ρ := fun r : Int × Int × AG => r.2.2) ?_ (fun _ => ?_)
    | refine KpG.bind (ρ := fun r : Int × Int × Int × AG => r.2.2.2) ?_ (fun _ => ?_)
    | refine KpG.int (fun _ => ?_))
def W_Rules_valueOf : List Nat := [28000]
theorem Rules_valueOf_fr {x1 : Int} {g : AG} : KpG W_Rules_valueOf g Prod.snd (Rules_valueOf x1 g) := by
  unfold Rules_valueOf
  repeat' (first
    | exact KpG.none
    | exact KpG.ret rfl
    | refine KpG.ite (fun _ => ?_) (fun _ => ?_)
    | refine KpG.up rfl (fun _ => ?_)
    | refine KpG.fill rfl (fun _ => ?_)
    | refine KpG.copy rfl (fun _ => ?_)
    | refine KpG.call (W1 := W_Rules_run) (Rules_run_fr) (by decide +kernel) (fun _ => ?_)
    | exact KpG.tail (W1 := W_Rules_run) (Rules_run_fr) (by decide +kernel)
    | refine KpG.bind (ρ := fun r : AG => r) ?_ (fun _ => ?_)
    | refine KpG.bind (ρ := fun r : Int × AG => r.2) ?_ (fun _ => ?_)
    | refine KpG.bind (ρ := fun r : Int × Int × AG => r.2.2) ?_ (fun _ => ?_)
    | refine KpG.bind (ρ := fun r : Int × Int × Int × AG => r.2.2.2) ?_ (fun _ => ?_)
    | refine KpG.int (fun _ => ?_))
def W_Boats_harmOfLock : List Nat := [27000, 28000]
theorem Boats_harmOfLock_fr {x1 : Int} {x2 : Int} {g : AG} : KpG W_Boats_harmOfLock g Prod.snd (Boats_harmOfLock x1 x2 g) := by
  unfold Boats_harmOfLock
  repeat' (first
    | exact KpG.none
    | exact KpG.ret rfl
    | refine KpG.ite (fun _ => ?_) (fun _ => ?_)
    | refine KpG.up rfl (fun _ => ?_)
    | refine KpG.fill rfl (fun _ => ?_)
    | refine KpG.copy rfl (fun _ => ?_)
    | refine KpG.call (W1 := W_Rules_askDay) (Rules_askDay_fr) (by decide +kernel) (fun _ => ?_)
    | exact KpG.tail (W1 := W_Rules_askDay) (Rules_askDay_fr) (by decide +kernel)
    | refine KpG.call (W1 := W_Rules_serving) (Rules_serving_fr) (by decide +kernel) (fun _ => ?_)
    | exact KpG.tail (W1 := W_Rules_serving) (Rules_serving_fr) (by decide +kernel)
    | refine KpG.call (W1 := W_Rules_valueOf) (Rules_valueOf_fr) (by decide +kernel) (fun _ => ?_)
    | exact KpG.tail (W1 := W_Rules_valueOf) (Rules_valueOf_fr) (by decide +kernel)
    | refine KpG.bind (ρ := fun r : AG => r) ?_ (fun _ => ?_)
    | refine KpG.bind (ρ := fun r : Int × AG => r.2) ?_ (fun _ => ?_)
    | refine KpG.bind (ρ := fun r : Int × Int × AG => r.2.2) ?_ (fun _ => ?_)
    | refine KpG.bind (ρ := fun r : Int × Int × Int × AG => r.2.2.2) ?_ (fun _ => ?_)
    | refine KpG.int (fun _ => ?_))
def W_Boats_harmOfLatestWay_b : List Nat := [27000, 28000]
set_option synthInstance.maxHeartbeats 2000000 in
theorem Boats_harmOfLatestWay_b_fr {x1 : Int} {x2 : Int} {x3 : Int} {g : AG} : KpG W_Boats_harmOfLatestWay_b g Prod.snd (Boats_harmOfLatestWay_b x1 x2 x3 g) := by
  refine Boats_harmOfLatestWay_b.partial_correctness x1 (fun x2 x3 g r => Fr W_Boats_harmOfLatestWay_b g r.2) ?_ x2 x3 g
  intro fb9 ih x2 x3 g
  show KpG W_Boats_harmOfLatestWay_b g Prod.snd _
  repeat' (first
    | exact KpG.none
    | exact KpG.ret rfl
    | refine KpG.ite (fun _ => ?_) (fun _ => ?_)
    | refine KpG.up rfl (fun _ => ?_)
    | refine KpG.fill rfl (fun _ => ?_)
    | refine KpG.copy rfl (fun _ => ?_)
    | refine KpG.call (W1 := W_Boats_harmOfLock) (Boats_harmOfLock_fr) (by decide +kernel) (fun _ => ?_)
    | exact KpG.tail (W1 := W_Boats_harmOfLock) (Boats_harmOfLock_fr) (by decide +kernel)
    | exact ih _ _ _
    | refine KpG.bind (ρ := fun r : AG => r) ?_ (fun _ => ?_)
    | refine KpG.bind (ρ := fun r : Int × AG => r.2) ?_ (fun _ => ?_)
    | refine KpG.bind (ρ := fun r : Int × Int × AG => r.2.2) ?_ (fun _ => ?_)
    | refine KpG.bind (ρ := fun r : Int × Int × Int × AG => r.2.2.2) ?_ (fun _ => ?_)
    | refine KpG.int (fun _ => ?_))
def W_Boats_harmOfLatestWay : List Nat := [27000, 28000]
theorem Boats_harmOfLatestWay_fr {x1 : Int} {g : AG} : KpG W_Boats_harmOfLatestWay g Prod.snd (Boats_harmOfLatestWay x1 g) := by
  unfold Boats_harmOfLatestWay
  repeat' (first
    | exact KpG.none
    | exact KpG.ret rfl
    | refine KpG.ite (fun _ => ?_) (fun _ => ?_)
    | refine KpG.up rfl (fun _ => ?_)
    | refine KpG.fill rfl (fun _ => ?_)
    | refine KpG.copy rfl (fun _ => ?_)
    | refine KpG.call (W1 := W_Boats_harmOfLatestWay_b) (Boats_harmOfLatestWay_b_fr) (by decide +kernel) (fun _ => ?_)
    | exact KpG.tail (W1 := W_Boats_harmOfLatestWay_b) (Boats_harmOfLatestWay_b_fr) (by decide +kernel)
    | refine KpG.bind (ρ := fun r : AG => r) ?_ (fun _ => ?_)
    | refine KpG.bind (ρ := fun r : Int × AG => r.2) ?_ (fun _ => ?_)
    | refine KpG.bind (ρ := fun r : Int × Int × AG => r.2.2) ?_ (fun _ => ?_)
    | refine KpG.bind (ρ := fun r : Int × Int × Int × AG => r.2.2.2) ?_ (fun _ => ?_)
    | refine KpG.int (fun _ => ?_))
def W_X_harm : List Nat := [5007, 5008, 27000, 28000, 47000]
theorem X_harm_fr {x1 : Int} {x2 : Int} {x3 : Int} {x4 : Int} {g : AG} : KpG W_X_harm g Prod.snd (X_harm x1 x2 x3 x4 g) := by
  unfold X_harm
  repeat' (first
    | exact KpG.none
    | exact KpG.ret rfl
    | refine KpG.ite (fun _ => ?_) (fun _ => ?_)
    | refine KpG.up rfl (fun _ => ?_)
    | refine KpG.fill rfl (fun _ => ?_)
    | refine KpG.copy rfl (fun _ => ?_)
    | refine KpG.call (W1 := W_Voyage_comesTo) (Voyage_comesTo_fr) (by decide +kernel) (fun _ => ?_)
    | exact KpG.tail (W1 := W_Voyage_comesTo) (Voyage_comesTo_fr) (by decide +kernel)
    | refine KpG.call (W1 := W_Boats_harmOfLatestWay) (Boats_harmOfLatestWay_fr) (by decide +kernel) (fun _ => ?_)
    | exact KpG.tail (W1 := W_Boats_harmOfLatestWay) (Boats_harmOfLatestWay_fr) (by decide +kernel)
    | refine KpG.bind (ρ := fun r : AG => r) ?_ (fun _ => ?_)
    | refine KpG.bind (ρ := fun r : Int × AG => r.2) ?_ (fun _ => ?_)
    | refine KpG.bind (ρ := fun r : Int × Int × AG => r.2.2) ?_ (fun _ => ?_)
    | refine KpG.bind (ρ := fun r : Int × Int × Int × AG => r.2.2.2) ?_ (fun _ => ?_)
    | refine KpG.int (fun _ => ?_))
def W_Trips_lateBy : List Nat := [5007, 5008, 47000]
theorem Trips_lateBy_fr {x1 : Int} {x2 : Int} {g : AG} : KpG W_Trips_lateBy g Prod.snd (Trips_lateBy x1 x2 g) := by
  unfold Trips_lateBy
  repeat' (first
    | exact KpG.none
    | exact KpG.ret rfl
    | refine KpG.ite (fun _ => ?_) (fun _ => ?_)
    | refine KpG.up rfl (fun _ => ?_)
    | refine KpG.fill rfl (fun _ => ?_)
    | refine KpG.copy rfl (fun _ => ?_)
    | refine KpG.call (W1 := W_Voyage_comesTo) (Voyage_comesTo_fr) (by decide +kernel) (fun _ => ?_)
    | exact KpG.tail (W1 := W_Voyage_comesTo) (Voyage_comesTo_fr) (by decide +kernel)
    | refine KpG.bind (ρ := fun r : AG => r) ?_ (fun _ => ?_)
    | refine KpG.bind (ρ := fun r : Int × AG => r.2) ?_ (fun _ => ?_)
    | refine KpG.bind (ρ := fun r : Int × Int × AG => r.2.2) ?_ (fun _ => ?_)
    | refine KpG.bind (ρ := fun r : Int × Int × Int × AG => r.2.2.2) ?_ (fun _ => ?_)
    | refine KpG.int (fun _ => ?_))
def W_Rules_askWeek : List Nat := [27000]
theorem Rules_askWeek_fr {x1 : Int} {g : AG} : KpG W_Rules_askWeek g Prod.snd (Rules_askWeek x1 g) := by
  unfold Rules_askWeek
  repeat' (first
    | exact KpG.none
    | exact KpG.ret rfl
    | refine KpG.ite (fun _ => ?_) (fun _ => ?_)
    | refine KpG.up rfl (fun _ => ?_)
    | refine KpG.fill rfl (fun _ => ?_)
    | refine KpG.copy rfl (fun _ => ?_)
    | refine KpG.bind (ρ := fun r : AG => r) ?_ (fun _ => ?_)
    | refine KpG.bind (ρ := fun r : Int × AG => r.2) ?_ (fun _ => ?_)
    | refine KpG.bind (ρ := fun r : Int × Int × AG => r.2.2) ?_ (fun _ => ?_)
    | refine KpG.bind (ρ := fun r : Int × Int × Int × AG => r.2.2.2) ?_ (fun _ => ?_)
    | refine KpG.int (fun _ => ?_))
def W_Boats_priceLine : List Nat := [27000, 28000]
theorem Boats_priceLine_fr {x1 : Int} {x2 : Int} {x3 : Int} {g : AG} : KpG W_Boats_priceLine g Prod.snd (Boats_priceLine x1 x2 x3 g) := by
  unfold Boats_priceLine
  repeat' (first
    | exact KpG.none
    | exact KpG.ret rfl
    | refine KpG.ite (fun _ => ?_) (fun _ => ?_)
    | refine KpG.up rfl (fun _ => ?_)
    | refine KpG.fill rfl (fun _ => ?_)
    | refine KpG.copy rfl (fun _ => ?_)
    | refine KpG.call (W1 := W_Rules_askWeek) (Rules_askWeek_fr) (by decide +kernel) (fun _ => ?_)
    | exact KpG.tail (W1 := W_Rules_askWeek) (Rules_askWeek_fr) (by decide +kernel)
    | refine KpG.call (W1 := W_Rules_serving) (Rules_serving_fr) (by decide +kernel) (fun _ => ?_)
    | exact KpG.tail (W1 := W_Rules_serving) (Rules_serving_fr) (by decide +kernel)
    | refine KpG.bind (ρ := fun r : AG => r) ?_ (fun _ => ?_)
    | refine KpG.bind (ρ := fun r : Int × AG => r.2) ?_ (fun _ => ?_)
    | refine KpG.bind (ρ := fun r : Int × Int × AG => r.2.2) ?_ (fun _ => ?_)
    | refine KpG.bind (ρ := fun r : Int × Int × Int × AG => r.2.2.2) ?_ (fun _ => ?_)
    | refine KpG.int (fun _ => ?_))
def W_Trips_refund : List Nat := [5007, 5008, 27000, 28000, 47000]
theorem Trips_refund_fr {x1 : Int} {g : AG} : KpG W_Trips_refund g Prod.snd (Trips_refund x1 g) := by
  unfold Trips_refund
  repeat' (first
    | exact KpG.none
    | exact KpG.ret rfl
    | refine KpG.ite (fun _ => ?_) (fun _ => ?_)
    | refine KpG.up rfl (fun _ => ?_)
    | refine KpG.fill rfl (fun _ => ?_)
    | refine KpG.copy rfl (fun _ => ?_)
    | refine KpG.call (W1 := W_Trips_lateBy) (Trips_lateBy_fr) (by decide +kernel) (fun _ => ?_)
    | exact KpG.tail (W1 := W_Trips_lateBy) (Trips_lateBy_fr) (by decide +kernel)
    | refine KpG.call (W1 := W_Boats_priceLine) (Boats_priceLine_fr) (by decide +kernel) (fun _ => ?_)
    | exact KpG.tail (W1 := W_Boats_priceLine) (Boats_priceLine_fr) (by decide +kernel)
    | refine KpG.call (W1 := W_Rules_valueOf) (Rules_valueOf_fr) (by decide +kernel) (fun _ => ?_)
    | exact KpG.tail (W1 := W_Rules_valueOf) (Rules_valueOf_fr) (by decide +kernel)
    | refine KpG.bind (ρ := fun r : AG => r) ?_ (fun _ => ?_)
    | refine KpG.bind (ρ := fun r : Int × AG => r.2) ?_ (fun _ => ?_)
    | refine KpG.bind (ρ := fun r : Int × Int × AG => r.2.2) ?_ (fun _ => ?_)
    | refine KpG.bind (ρ := fun r : Int × Int × Int × AG => r.2.2.2) ?_ (fun _ => ?_)
    | refine KpG.int (fun _ => ?_))
def W_Trips_isBackInTime : List Nat := [5007, 5008, 47000]
theorem Trips_isBackInTime_fr {x1 : Int} {x2 : Int} {g : AG} : KpG W_Trips_isBackInTime g Prod.snd (Trips_isBackInTime x1 x2 g) := by
  unfold Trips_isBackInTime
  repeat' (first
    | exact KpG.none
    | exact KpG.ret rfl
    | refine KpG.ite (fun _ => ?_) (fun _ => ?_)
    | refine KpG.up rfl (fun _ => ?_)
    | refine KpG.fill rfl (fun _ => ?_)
    | refine KpG.copy rfl (fun _ => ?_)
    | refine KpG.call (W1 := W_Voyage_comesTo) (Voyage_comesTo_fr) (by decide +kernel) (fun _ => ?_)
    | exact KpG.tail (W1 := W_Voyage_comesTo) (Voyage_comesTo_fr) (by decide +kernel)
    | refine KpG.bind (ρ := fun r : AG => r) ?_ (fun _ => ?_)
    | refine KpG.bind (ρ := fun r : Int × AG => r.2) ?_ (fun _ => ?_)
    | refine KpG.bind (ρ := fun r : Int × Int × AG => r.2.2) ?_ (fun _ => ?_)
    | refine KpG.bind (ρ := fun r : Int × Int × Int × AG => r.2.2.2) ?_ (fun _ => ?_)
    | refine KpG.int (fun _ => ?_))
def W_Trips_turningBack_b : List Nat := [5007, 5008, 47000]
set_option synthInstance.maxHeartbeats 2000000 in
theorem Trips_turningBack_b_fr {x1 : Int} {x3 : Int} {x4 : Int} {x2 : Int} {x5 : Int} {g : AG} : KpG W_Trips_turningBack_b g Prod.snd (Trips_turningBack_b x1 x3 x4 x2 x5 g) := by
  refine Trips_turningBack_b.partial_correctness x1 x3 x4 (fun x2 x5 g r => Fr W_Trips_turningBack_b g r.2) ?_ x2 x5 g
  intro fb9 ih x2 x5 g
  show KpG W_Trips_turningBack_b g Prod.snd _
  repeat' (first
    | exact KpG.none
    | exact KpG.ret rfl
    | refine KpG.ite (fun _ => ?_) (fun _ => ?_)
    | refine KpG.up rfl (fun _ => ?_)
    | refine KpG.fill rfl (fun _ => ?_)
    | refine KpG.copy rfl (fun _ => ?_)
    | refine KpG.call (W1 := W_Trips_isBackInTime) (Trips_isBackInTime_fr) (by decide +kernel) (fun _ => ?_)
    | exact KpG.tail (W1 := W_Trips_isBackInTime) (Trips_isBackInTime_fr) (by decide +kernel)
    | exact ih _ _ _
    | refine KpG.bind (ρ := fun r : AG => r) ?_ (fun _ => ?_)
    | refine KpG.bind (ρ := fun r : Int × AG => r.2) ?_ (fun _ => ?_)
    | refine KpG.bind (ρ := fun r : Int × Int × AG => r.2.2) ?_ (fun _ => ?_)
    | refine KpG.bind (ρ := fun r : Int × Int × Int × AG => r.2.2.2) ?_ (fun _ => ?_)
    | refine KpG.int (fun _ => ?_))
def W_Trips_turningBack : List Nat := [5007, 5008, 47000]
theorem Trips_turningBack_fr {x1 : Int} {g : AG} : KpG W_Trips_turningBack g Prod.snd (Trips_turningBack x1 g) := by
  unfold Trips_turningBack
  repeat' (first
    | exact KpG.none
    | exact KpG.ret rfl
    | refine KpG.ite (fun _ => ?_) (fun _ => ?_)
    | refine KpG.up rfl (fun _ => ?_)
    | refine KpG.fill rfl (fun _ => ?_)
    | refine KpG.copy rfl (fun _ => ?_)
    | refine KpG.call (W1 := W_Trips_turningBack_b) (Trips_turningBack_b_fr) (by decide +kernel) (fun _ => ?_)
    | exact KpG.tail (W1 := W_Trips_turningBack_b) (Trips_turningBack_b_fr) (by decide +kernel)
    | refine KpG.bind (ρ := fun r : AG => r) ?_ (fun _ => ?_)
    | refine KpG.bind (ρ := fun r : Int × AG => r.2) ?_ (fun _ => ?_)
    | refine KpG.bind (ρ := fun r : Int × Int × AG => r.2.2) ?_ (fun _ => ?_)
    | refine KpG.bind (ρ := fun r : Int × Int × Int × AG => r.2.2.2) ?_ (fun _ => ?_)
    | refine KpG.int (fun _ => ?_))
def W_X_back : List Nat := [5007, 5008, 27000, 28000, 47000]
theorem X_back_fr {x1 : Int} {x2 : Int} {g : AG} : KpG W_X_back g Prod.snd (X_back x1 x2 g) := by
  unfold X_back
  repeat' (first
    | exact KpG.none
    | exact KpG.ret rfl
    | refine KpG.ite (fun _ => ?_) (fun _ => ?_)
    | refine KpG.up rfl (fun _ => ?_)
    | refine KpG.fill rfl (fun _ => ?_)
    | refine KpG.copy rfl (fun _ => ?_)
    | refine KpG.call (W1 := W_Trips_turningBack) (Trips_turningBack_fr) (by decide +kernel) (fun _ => ?_)
    | exact KpG.tail (W1 := W_Trips_turningBack) (Trips_turningBack_fr) (by decide +kernel)
    | refine KpG.call (W1 := W_Trips_refund) (Trips_refund_fr) (by decide +kernel) (fun _ => ?_)
    | exact KpG.tail (W1 := W_Trips_refund) (Trips_refund_fr) (by decide +kernel)
    | refine KpG.bind (ρ := fun r : AG => r) ?_ (fun _ => ?_)
    | refine KpG.bind (ρ := fun r : Int × AG => r.2) ?_ (fun _ => ?_)
    | refine KpG.bind (ρ := fun r : Int × Int × AG => r.2.2) ?_ (fun _ => ?_)
    | refine KpG.bind (ρ := fun r : Int × Int × Int × AG => r.2.2.2) ?_ (fun _ => ?_)
    | refine KpG.int (fun _ => ?_))
def W_X_rung_b : List Nat := [5007, 5008, 47000]
set_option synthInstance.maxHeartbeats 2000000 in
theorem X_rung_b_fr {x1 : Int} {x2 : Int} {g : AG} : KpG W_X_rung_b g Prod.snd (X_rung_b x1 x2 g) := by
  refine X_rung_b.partial_correctness (fun x1 x2 g r => Fr W_X_rung_b g r.2) ?_ x1 x2 g
  intro fb9 ih x1 x2 g
  show KpG W_X_rung_b g Prod.snd _
  repeat' (first
    | exact KpG.none
    | exact KpG.ret rfl
    | refine KpG.ite (fun _ => ?_) (fun _ => ?_)
    | refine KpG.up rfl (fun _ => ?_)
    | refine KpG.fill rfl (fun _ => ?_)
    | refine KpG.copy rfl (fun _ => ?_)
    | refine KpG.call (W1 := W_Trips_lateBy) (Trips_lateBy_fr) (by decide +kernel) (fun _ => ?_)
    | exact KpG.tail (W1 := W_Trips_lateBy) (Trips_lateBy_fr) (by decide +kernel)
    | exact ih _ _ _
    | refine KpG.bind (ρ := fun r : AG => r) ?_ (fun _ => ?_)
    | refine KpG.bind (ρ := fun r : Int × AG => r.2) ?_ (fun _ => ?_)
    | refine KpG.bind (ρ := fun r : Int × Int × AG => r.2.2) ?_ (fun _ => ?_)
    | refine KpG.bind (ρ := fun r : Int × Int × Int × AG => r.2.2.2) ?_ (fun _ => ?_)
    | refine KpG.int (fun _ => ?_))
def W_X_rung : List Nat := [5007, 5008, 47000]
theorem X_rung_fr {g : AG} : KpG W_X_rung g Prod.snd (X_rung g) := by
  unfold X_rung
  repeat' (first
    | exact KpG.none
    | exact KpG.ret rfl
    | refine KpG.ite (fun _ => ?_) (fun _ => ?_)
    | refine KpG.up rfl (fun _ => ?_)
    | refine KpG.fill rfl (fun _ => ?_)
    | refine KpG.copy rfl (fun _ => ?_)
    | refine KpG.call (W1 := W_X_rung_b) (X_rung_b_fr) (by decide +kernel) (fun _ => ?_)
    | exact KpG.tail (W1 := W_X_rung_b) (X_rung_b_fr) (by decide +kernel)
    | refine KpG.bind (ρ := fun r : AG => r) ?_ (fun _ => ?_)
    | refine KpG.bind (ρ := fun r : Int × AG => r.2) ?_ (fun _ => ?_)
    | refine KpG.bind (ρ := fun r : Int × Int × AG => r.2.2) ?_ (fun _ => ?_)
    | refine KpG.bind (ρ := fun r : Int × Int × Int × AG => r.2.2.2) ?_ (fun _ => ?_)
    | refine KpG.int (fun _ => ?_))
def W_Canal_setPump : List Nat := [1007]
theorem Canal_setPump_fr {x1 : Int} {x2 : Int} {g : AG} : KpG W_Canal_setPump g Prod.snd (Canal_setPump x1 x2 g) := by
  unfold Canal_setPump
  repeat' (first
    | exact KpG.none
    | exact KpG.ret rfl
    | refine KpG.ite (fun _ => ?_) (fun _ => ?_)
    | refine KpG.up rfl (fun _ => ?_)
    | refine KpG.fill rfl (fun _ => ?_)
    | refine KpG.copy rfl (fun _ => ?_)
    | refine KpG.bind (ρ := fun r : AG => r) ?_ (fun _ => ?_)
    | refine KpG.bind (ρ := fun r : Int × AG => r.2) ?_ (fun _ => ?_)
    | refine KpG.bind (ρ := fun r : Int × Int × AG => r.2.2) ?_ (fun _ => ?_)
    | refine KpG.bind (ρ := fun r : Int × Int × Int × AG => r.2.2.2) ?_ (fun _ => ?_)
    | refine KpG.int (fun _ => ?_))
def W_X_pump : List Nat := [1007]
theorem X_pump_fr {x1 : Int} {x2 : Int} {g : AG} : KpG W_X_pump g Prod.snd (X_pump x1 x2 g) := by
  unfold X_pump
  repeat' (first
    | exact KpG.none
    | exact KpG.ret rfl
    | refine KpG.ite (fun _ => ?_) (fun _ => ?_)
    | refine KpG.up rfl (fun _ => ?_)
    | refine KpG.fill rfl (fun _ => ?_)
    | refine KpG.copy rfl (fun _ => ?_)
    | refine KpG.call (W1 := W_Canal_setPump) (Canal_setPump_fr) (by decide +kernel) (fun _ => ?_)
    | exact KpG.tail (W1 := W_Canal_setPump) (Canal_setPump_fr) (by decide +kernel)
    | refine KpG.bind (ρ := fun r : AG => r) ?_ (fun _ => ?_)
    | refine KpG.bind (ρ := fun r : Int × AG => r.2) ?_ (fun _ => ?_)
    | refine KpG.bind (ρ := fun r : Int × Int × AG => r.2.2) ?_ (fun _ => ?_)
    | refine KpG.bind (ρ := fun r : Int × Int × Int × AG => r.2.2.2) ?_ (fun _ => ?_)
    | refine KpG.int (fun _ => ?_))
def W_X_pumped : List Nat := [5007, 5008, 47000]
theorem X_pumped_fr {x1 : Int} {x2 : Int} {x3 : Int} {x4 : Int} {x5 : Int} {g : AG} : KpG W_X_pumped g Prod.snd (X_pumped x1 x2 x3 x4 x5 g) := by
  unfold X_pumped
  repeat' (first
    | exact KpG.none
    | exact KpG.ret rfl
    | refine KpG.ite (fun _ => ?_) (fun _ => ?_)
    | refine KpG.up rfl (fun _ => ?_)
    | refine KpG.fill rfl (fun _ => ?_)
    | refine KpG.copy rfl (fun _ => ?_)
    | refine KpG.call (W1 := W_Voyage_reach) (Voyage_reach_fr) (by decide +kernel) (fun _ => ?_)
    | exact KpG.tail (W1 := W_Voyage_reach) (Voyage_reach_fr) (by decide +kernel)
    | refine KpG.bind (ρ := fun r : AG => r) ?_ (fun _ => ?_)
    | refine KpG.bind (ρ := fun r : Int × AG => r.2) ?_ (fun _ => ?_)
    | refine KpG.bind (ρ := fun r : Int × Int × AG => r.2.2) ?_ (fun _ => ?_)
    | refine KpG.bind (ρ := fun r : Int × Int × Int × AG => r.2.2.2) ?_ (fun _ => ?_)
    | refine KpG.int (fun _ => ?_))
def W_X_enough_b : List Nat := [5007, 5008, 47000]
set_option synthInstance.maxHeartbeats 2000000 in
theorem X_enough_b_fr {x2 : Int} {x3 : Int} {x4 : Int} {x5 : Int} {tag : Nat} {x6 : Int} {g : AG} : KpG W_X_enough_b g Prod.snd (X_enough_b x2 x3 x4 x5 tag x6 g) := by
  refine X_enough_b.partial_correctness x2 x3 x4 x5 (fun tag x6 g r => Fr W_X_enough_b g r.2) ?_ tag x6 g
  intro fb9 ih tag x6 g
  show KpG W_X_enough_b g Prod.snd _
  repeat' (first
    | exact KpG.none
    | exact KpG.ret rfl
    | refine KpG.ite (fun _ => ?_) (fun _ => ?_)
    | refine KpG.up rfl (fun _ => ?_)
    | refine KpG.fill rfl (fun _ => ?_)
    | refine KpG.copy rfl (fun _ => ?_)
    | refine KpG.call (W1 := W_Voyage_comesTo) (Voyage_comesTo_fr) (by decide +kernel) (fun _ => ?_)
    | exact KpG.tail (W1 := W_Voyage_comesTo) (Voyage_comesTo_fr) (by decide +kernel)
    | exact ih _ _ _
    | refine KpG.bind (ρ := fun r : AG => r) ?_ (fun _ => ?_)
    | refine KpG.bind (ρ := fun r : Int × AG => r.2) ?_ (fun _ => ?_)
    | refine KpG.bind (ρ := fun r : Int × Int × AG => r.2.2) ?_ (fun _ => ?_)
    | refine KpG.bind (ρ := fun r : Int × Int × Int × AG => r.2.2.2) ?_ (fun _ => ?_)
    | refine KpG.int (fun _ => ?_))
def W_X_enough : List Nat := [5007, 5008, 47000]
theorem X_enough_fr {x1 : Int} {x2 : Int} {x3 : Int} {x4 : Int} {x5 : Int} {g : AG} : KpG W_X_enough g Prod.snd (X_enough x1 x2 x3 x4 x5 g) := by
  unfold X_enough
  repeat' (first
    | exact KpG.none
    | exact KpG.ret rfl
    | refine KpG.ite (fun _ => ?_) (fun _ => ?_)
    | refine KpG.up rfl (fun _ => ?_)
    | refine KpG.fill rfl (fun _ => ?_)
    | refine KpG.copy rfl (fun _ => ?_)
    | refine KpG.call (W1 := W_X_enough_b) (X_enough_b_fr) (by decide +kernel) (fun _ => ?_)
    | exact KpG.tail (W1 := W_X_enough_b) (X_enough_b_fr) (by decide +kernel)
    | refine KpG.bind (ρ := fun r : AG => r) ?_ (fun _ => ?_)
    | refine KpG.bind (ρ := fun r : Int × AG => r.2) ?_ (fun _ => ?_)
    | refine KpG.bind (ρ := fun r : Int × Int × AG => r.2.2) ?_ (fun _ => ?_)
    | refine KpG.bind (ρ := fun r : Int × Int × Int × AG => r.2.2.2) ?_ (fun _ => ?_)
    | refine KpG.int (fun _ => ?_))
def W_Trips_add : List Nat := [7009, 76000, 77000, 78000, 79000, 80000]
theorem Trips_add_fr {x1 : Int} {x2 : Int} {x3 : Int} {x4 : Int} {x5 : Int} {g : AG} : KpG W_Trips_add g Prod.snd (Trips_add x1 x2 x3 x4 x5 g) := by
  unfold Trips_add
  repeat' (first
    | exact KpG.none
    | exact KpG.ret rfl
    | refine KpG.ite (fun _ => ?_) (fun _ => ?_)
    | refine KpG.up rfl (fun _ => ?_)
    | refine KpG.fill rfl (fun _ => ?_)
    | refine KpG.copy rfl (fun _ => ?_)
    | refine KpG.bind (ρ := fun r : AG => r) ?_ (fun _ => ?_)
    | refine KpG.bind (ρ := fun r : Int × AG => r.2) ?_ (fun _ => ?_)
    | refine KpG.bind (ρ := fun r : Int × Int × AG => r.2.2) ?_ (fun _ => ?_)
    | refine KpG.bind (ρ := fun r : Int × Int × Int × AG => r.2.2.2) ?_ (fun _ => ?_)
    | refine KpG.int (fun _ => ?_))
def W_X_trip : List Nat := [7009, 76000, 77000, 78000, 79000, 80000]
theorem X_trip_fr {x1 : Int} {x2 : Int} {x3 : Int} {x4 : Int} {x5 : Int} {g : AG} : KpG W_X_trip g Prod.snd (X_trip x1 x2 x3 x4 x5 g) := by
  unfold X_trip
  repeat' (first
    | exact KpG.none
    | exact KpG.ret rfl
    | refine KpG.ite (fun _ => ?_) (fun _ => ?_)
    | refine KpG.up rfl (fun _ => ?_)
    | refine KpG.fill rfl (fun _ => ?_)
    | refine KpG.copy rfl (fun _ => ?_)
    | refine KpG.call (W1 := W_Trips_add) (Trips_add_fr) (by decide +kernel) (fun _ => ?_)
    | exact KpG.tail (W1 := W_Trips_add) (Trips_add_fr) (by decide +kernel)
    | refine KpG.bind (ρ := fun r : AG => r) ?_ (fun _ => ?_)
    | refine KpG.bind (ρ := fun r : Int × AG => r.2) ?_ (fun _ => ?_)
    | refine KpG.bind (ρ := fun r : Int × Int × AG => r.2.2) ?_ (fun _ => ?_)
    | refine KpG.bind (ρ := fun r : Int × Int × Int × AG => r.2.2.2) ?_ (fun _ => ?_)
    | refine KpG.int (fun _ => ?_))
def W_Trips_howManyLate_b : List Nat := [5007, 5008, 47000]
set_option synthInstance.maxHeartbeats 2000000 in
theorem Trips_howManyLate_b_fr {x1 : Int} {x2 : Int} {g : AG} : KpG W_Trips_howManyLate_b g Prod.snd (Trips_howManyLate_b x1 x2 g) := by
  refine Trips_howManyLate_b.partial_correctness (fun x1 x2 g r => Fr W_Trips_howManyLate_b g r.2) ?_ x1 x2 g
  intro fb9 ih x1 x2 g
  show KpG W_Trips_howManyLate_b g Prod.snd _
  repeat' (first
    | exact KpG.none
    | exact KpG.ret rfl
    | refine KpG.ite (fun _ => ?_) (fun _ => ?_)
    | refine KpG.up rfl (fun _ => ?_)
    | refine KpG.fill rfl (fun _ => ?_)
    | refine KpG.copy rfl (fun _ => ?_)
    | refine KpG.call (W1 := W_Trips_lateBy) (Trips_lateBy_fr) (by decide +kernel) (fun _ => ?_)
    | exact KpG.tail (W1 := W_Trips_lateBy) (Trips_lateBy_fr) (by decide +kernel)
    | exact ih _ _ _
    | refine KpG.bind (ρ := fun r : AG => r) ?_ (fun _ => ?_)
    | refine KpG.bind (ρ := fun r : Int × AG => r.2) ?_ (fun _ => ?_)
    | refine KpG.bind (ρ := fun r : Int × Int × AG => r.2.2) ?_ (fun _ => ?_)
    | refine KpG.bind (ρ := fun r : Int × Int × Int × AG => r.2.2.2) ?_ (fun _ => ?_)
    | refine KpG.int (fun _ => ?_))
def W_Trips_howManyLate : List Nat := [5007, 5008, 47000]
theorem Trips_howManyLate_fr {g : AG} : KpG W_Trips_howManyLate g Prod.snd (Trips_howManyLate g) := by
  unfold Trips_howManyLate
  repeat' (first
    | exact KpG.none
    | exact KpG.ret rfl
    | refine KpG.ite (fun _ => ?_) (fun _ => ?_)
    | refine KpG.up rfl (fun _ => ?_)
    | refine KpG.fill rfl (fun _ => ?_)
    | refine KpG.copy rfl (fun _ => ?_)
    | refine KpG.call (W1 := W_Trips_howManyLate_b) (Trips_howManyLate_b_fr) (by decide +kernel) (fun _ => ?_)
    | exact KpG.tail (W1 := W_Trips_howManyLate_b) (Trips_howManyLate_b_fr) (by decide +kernel)
    | refine KpG.bind (ρ := fun r : AG => r) ?_ (fun _ => ?_)
    | refine KpG.bind (ρ := fun r : Int × AG => r.2) ?_ (fun _ => ?_)
    | refine KpG.bind (ρ := fun r : Int × Int × AG => r.2.2) ?_ (fun _ => ?_)
    | refine KpG.bind (ρ := fun r : Int × Int × Int × AG => r.2.2.2) ?_ (fun _ => ?_)
    | refine KpG.int (fun _ => ?_))
def W_X_late : List Nat := [5007, 5008, 47000]
theorem X_late_fr {x1 : Int} {g : AG} : KpG W_X_late g Prod.snd (X_late x1 g) := by
  unfold X_late
  repeat' (first
    | exact KpG.none
    | exact KpG.ret rfl
    | refine KpG.ite (fun _ => ?_) (fun _ => ?_)
    | refine KpG.up rfl (fun _ => ?_)
    | refine KpG.fill rfl (fun _ => ?_)
    | refine KpG.copy rfl (fun _ => ?_)
    | refine KpG.call (W1 := W_Trips_howManyLate) (Trips_howManyLate_fr) (by decide +kernel) (fun _ => ?_)
    | exact KpG.tail (W1 := W_Trips_howManyLate) (Trips_howManyLate_fr) (by decide +kernel)
    | refine KpG.call (W1 := W_Trips_lateBy) (Trips_lateBy_fr) (by decide +kernel) (fun _ => ?_)
    | exact KpG.tail (W1 := W_Trips_lateBy) (Trips_lateBy_fr) (by decide +kernel)
    | refine KpG.bind (ρ := fun r : AG => r) ?_ (fun _ => ?_)
    | refine KpG.bind (ρ := fun r : Int × AG => r.2) ?_ (fun _ => ?_)
    | refine KpG.bind (ρ := fun r : Int × Int × AG => r.2.2) ?_ (fun _ => ?_)
    | refine KpG.bind (ρ := fun r : Int × Int × Int × AG => r.2.2.2) ?_ (fun _ => ?_)
    | refine KpG.int (fun _ => ?_))
def W_Boats_addLog_b : List Nat := [53000, 54000, 55000, 56000, 57000, 58000, 59000, 60000, 61000, 62000, 64000, 65000, 66000, 67000, 68000, 69000, 70000, 71000, 72000, 73000, 74000]
theorem Boats_addLog_b_fr {x1 : Int} {x2 : Int} {x3 : Int} {x4 : Int} {g : AG} : KpG W_Boats_addLog_b g Prod.snd (Boats_addLog_b x1 x2 x3 x4 g) := by
  unfold Boats_addLog_b
  repeat' (first
    | exact KpG.none
    | exact KpG.ret rfl
    | refine KpG.ite (fun _ => ?_) (fun _ => ?_)
    | refine KpG.up rfl (fun _ => ?_)
    | refine KpG.fill rfl (fun _ => ?_)
    | refine KpG.copy rfl (fun _ => ?_)
    | refine KpG.upM (by assumption) rfl rfl (fun _ => ?_)
    | refine KpG.fillM (by assumption) rfl rfl (fun _ => ?_)
    | refine KpG.upR (b := 53) (by assumption) (by decide) (fun _ => ?_)
    | refine KpG.upR (b := 64) (by assumption) (by decide) (fun _ => ?_)
    | refine KpG.bind (ρ := fun r : AG => r) ?_ (fun _ => ?_)
    | refine KpG.bind (ρ := fun r : Int × AG => r.2) ?_ (fun _ => ?_)
    | refine KpG.bind (ρ := fun r : Int × Int × AG => r.2.2) ?_ (fun _ => ?_)
    | refine KpG.bind (ρ := fun r : Int × Int × Int × AG => r.2.2.2) ?_ (fun _ => ?_)
    | refine KpG.int (fun _ => ?_))
def W_Boats_addLog : List Nat := [53000, 54000, 55000, 56000, 57000, 58000, 59000, 60000, 61000, 62000, 64000, 65000, 66000, 67000, 68000, 69000, 70000, 71000, 72000, 73000, 74000]
theorem Boats_addLog_fr {x1 : Int} {x2 : Int} {x3 : Int} {g : AG} : KpG W_Boats_addLog g Prod.snd (Boats_addLog x1 x2 x3 g) := by
  unfold Boats_addLog
  repeat' (first
    | exact KpG.none
    | exact KpG.ret rfl
    | refine KpG.ite (fun _ => ?_) (fun _ => ?_)
    | refine KpG.up rfl (fun _ => ?_)
    | refine KpG.fill rfl (fun _ => ?_)
    | refine KpG.copy rfl (fun _ => ?_)
    | refine KpG.call (W1 := W_Boats_addLog_b) (Boats_addLog_b_fr) (by decide +kernel) (fun _ => ?_)
    | exact KpG.tail (W1 := W_Boats_addLog_b) (Boats_addLog_b_fr) (by decide +kernel)
    | refine KpG.bind (ρ := fun r : AG => r) ?_ (fun _ => ?_)
    | refine KpG.bind (ρ := fun r : Int × AG => r.2) ?_ (fun _ => ?_)
    | refine KpG.bind (ρ := fun r : Int × Int × AG => r.2.2) ?_ (fun _ => ?_)
    | refine KpG.bind (ρ := fun r : Int × Int × Int × AG => r.2.2.2) ?_ (fun _ => ?_)
    | refine KpG.int (fun _ => ?_))
def W_X_log : List Nat := [53000, 54000, 55000, 56000, 57000, 58000, 59000, 60000, 61000, 62000, 64000, 65000, 66000, 67000, 68000, 69000, 70000, 71000, 72000, 73000, 74000]
theorem X_log_fr {x1 : Int} {x2 : Int} {x3 : Int} {g : AG} : KpG W_X_log g Prod.snd (X_log x1 x2 x3 g) := by
  unfold X_log
  repeat' (first
    | exact KpG.none
    | exact KpG.ret rfl
    | refine KpG.ite (fun _ => ?_) (fun _ => ?_)
    | refine KpG.up rfl (fun _ => ?_)
    | refine KpG.fill rfl (fun _ => ?_)
    | refine KpG.copy rfl (fun _ => ?_)
    | refine KpG.call (W1 := W_Boats_addLog) (Boats_addLog_fr) (by decide +kernel) (fun _ => ?_)
    | exact KpG.tail (W1 := W_Boats_addLog) (Boats_addLog_fr) (by decide +kernel)
    | refine KpG.bind (ρ := fun r : AG => r) ?_ (fun _ => ?_)
    | refine KpG.bind (ρ := fun r : Int × AG => r.2) ?_ (fun _ => ?_)
    | refine KpG.bind (ρ := fun r : Int × Int × AG => r.2.2) ?_ (fun _ => ?_)
    | refine KpG.bind (ρ := fun r : Int × Int × Int × AG => r.2.2.2) ?_ (fun _ => ?_)
    | refine KpG.int (fun _ => ?_))
def W_Boats_canBetween : List Nat := [5007, 5008, 47000]
theorem Boats_canBetween_fr {x1 : Int} {x2 : Int} {x3 : Int} {x4 : Int} {x5 : Int} {g : AG} : KpG W_Boats_canBetween g Prod.snd (Boats_canBetween x1 x2 x3 x4 x5 g) := by
  unfold Boats_canBetween
  repeat' (first
    | exact KpG.none
    | exact KpG.ret rfl
    | refine KpG.ite (fun _ => ?_) (fun _ => ?_)
    | refine KpG.up rfl (fun _ => ?_)
    | refine KpG.fill rfl (fun _ => ?_)
    | refine KpG.copy rfl (fun _ => ?_)
    | refine KpG.call (W1 := W_Voyage_comesTo) (Voyage_comesTo_fr) (by decide +kernel) (fun _ => ?_)
    | exact KpG.tail (W1 := W_Voyage_comesTo) (Voyage_comesTo_fr) (by decide +kernel)
    | refine KpG.bind (ρ := fun r : AG => r) ?_ (fun _ => ?_)
    | refine KpG.bind (ρ := fun r : Int × AG => r.2) ?_ (fun _ => ?_)
    | refine KpG.bind (ρ := fun r : Int × Int × AG => r.2.2) ?_ (fun _ => ?_)
    | refine KpG.bind (ρ := fun r : Int × Int × Int × AG => r.2.2.2) ?_ (fun _ => ?_)
    | refine KpG.int (fun _ => ?_))
def W_Boats_canHaveBeen_b : List Nat := [5007, 5008, 47000]
set_option synthInstance.maxHeartbeats 2000000 in
theorem Boats_canHaveBeen_b_fr {x1 : Int} {x2 : Int} {x3 : Int} {x4 : Int} {x5 : Int} {g : AG} : KpG W_Boats_canHaveBeen_b g Prod.snd (Boats_canHaveBeen_b x1 x2 x3 x4 x5 g) := by
  refine Boats_canHaveBeen_b.partial_correctness x1 x2 x3 x4 (fun x5 g r => Fr W_Boats_canHaveBeen_b g r.2) ?_ x5 g
  intro fb9 ih x5 g
  show KpG W_Boats_canHaveBeen_b g Prod.snd _
  repeat' (first
    | exact KpG.none
    | exact KpG.ret rfl
    | refine KpG.ite (fun _ => ?_) (fun _ => ?_)
    | refine KpG.up rfl (fun _ => ?_)
    | refine KpG.fill rfl (fun _ => ?_)
    | refine KpG.copy rfl (fun _ => ?_)
    | refine KpG.call (W1 := W_Boats_canBetween) (Boats_canBetween_fr) (by decide +kernel) (fun _ => ?_)
    | exact KpG.tail (W1 := W_Boats_canBetween) (Boats_canBetween_fr) (by decide +kernel)
    | exact ih _ _
    | refine KpG.bind (ρ := fun r : AG => r) ?_ (fun _ => ?_)
    | refine KpG.bind (ρ := fun r : Int × AG => r.2) ?_ (fun _ => ?_)
    | refine KpG.bind (ρ := fun r : Int × Int × AG => r.2.2) ?_ (fun _ => ?_)
    | refine KpG.bind (ρ := fun r : Int × Int × Int × AG => r.2.2.2) ?_ (fun _ => ?_)
    | refine KpG.int (fun _ => ?_))
def W_Boats_canHaveBeen : List Nat := [5007, 5008, 47000]
theorem Boats_canHaveBeen_fr {x1 : Int} {x2 : Int} {x3 : Int} {x4 : Int} {g : AG} : KpG W_Boats_canHaveBeen g Prod.snd (Boats_canHaveBeen x1 x2 x3 x4 g) := by
  unfold Boats_canHaveBeen
  repeat' (first
    | exact KpG.none
    | exact KpG.ret rfl
    | refine KpG.ite (fun _ => ?_) (fun _ => ?_)
    | refine KpG.up rfl (fun _ => ?_)
    | refine KpG.fill rfl (fun _ => ?_)
    | refine KpG.copy rfl (fun _ => ?_)
    | refine KpG.call (W1 := W_Boats_canHaveBeen_b) (Boats_canHaveBeen_b_fr) (by decide +kernel) (fun _ => ?_)
    | exact KpG.tail (W1 := W_Boats_canHaveBeen_b) (Boats_canHaveBeen_b_fr) (by decide +kernel)
    | refine KpG.bind (ρ := fun r : AG => r) ?_ (fun _ => ?_)
    | refine KpG.bind (ρ := fun r : Int × AG => r.2) ?_ (fun _ => ?_)
    | refine KpG.bind (ρ := fun r : Int × Int × AG => r.2.2) ?_ (fun _ => ?_)
    | refine KpG.bind (ρ := fun r : Int × Int × Int × AG => r.2.2.2) ?_ (fun _ => ?_)
    | refine KpG.int (fun _ => ?_))
def W_X_could : List Nat := [5007, 5008, 47000]
theorem X_could_fr {x1 : Int} {x2 : Int} {x3 : Int} {x4 : Int} {g : AG} : KpG W_X_could g Prod.snd (X_could x1 x2 x3 x4 g) := by
  unfold X_could
  repeat' (first
    | exact KpG.none
    | exact KpG.ret rfl
    | refine KpG.ite (fun _ => ?_) (fun _ => ?_)
    | refine KpG.up rfl (fun _ => ?_)
    | refine KpG.fill rfl (fun _ => ?_)
    | refine KpG.copy rfl (fun _ => ?_)
    | refine KpG.call (W1 := W_Boats_canHaveBeen) (Boats_canHaveBeen_fr) (by decide +kernel) (fun _ => ?_)
    | exact KpG.tail (W1 := W_Boats_canHaveBeen) (Boats_canHaveBeen_fr) (by decide +kernel)
    | refine KpG.bind (ρ := fun r : AG => r) ?_ (fun _ => ?_)
    | refine KpG.bind (ρ := fun r : Int × AG => r.2) ?_ (fun _ => ?_)
    | refine KpG.bind (ρ := fun r : Int × Int × AG => r.2.2) ?_ (fun _ => ?_)
    | refine KpG.bind (ρ := fun r : Int × Int × Int × AG => r.2.2.2) ?_ (fun _ => ?_)
    | refine KpG.int (fun _ => ?_))
def W_X_whose_b : List Nat := [5007, 5008, 47000]
set_option synthInstance.maxHeartbeats 2000000 in
theorem X_whose_b_fr {x1 : Int} {x2 : Int} {x3 : Int} {x4 : Int} {x5 : Int} {x6 : Int} {x7 : Int} {g : AG} : KpG W_X_whose_b g Prod.snd (X_whose_b x1 x2 x3 x4 x5 x6 x7 g) := by
  refine X_whose_b.partial_correctness x1 x2 x3 x4 (fun x5 x6 x7 g r => Fr W_X_whose_b g r.2) ?_ x5 x6 x7 g
  intro fb9 ih x5 x6 x7 g
  show KpG W_X_whose_b g Prod.snd _
  repeat' (first
    | exact KpG.none
    | exact KpG.ret rfl
    | refine KpG.ite (fun _ => ?_) (fun _ => ?_)
    | refine KpG.up rfl (fun _ => ?_)
    | refine KpG.fill rfl (fun _ => ?_)
    | refine KpG.copy rfl (fun _ => ?_)
    | refine KpG.call (W1 := W_Boats_canHaveBeen) (Boats_canHaveBeen_fr) (by decide +kernel) (fun _ => ?_)
    | exact KpG.tail (W1 := W_Boats_canHaveBeen) (Boats_canHaveBeen_fr) (by decide +kernel)
    | exact ih _ _ _ _
    | refine KpG.bind (ρ := fun r : AG => r) ?_ (fun _ => ?_)
    | refine KpG.bind (ρ := fun r : Int × AG => r.2) ?_ (fun _ => ?_)
    | refine KpG.bind (ρ := fun r : Int × Int × AG => r.2.2) ?_ (fun _ => ?_)
    | refine KpG.bind (ρ := fun r : Int × Int × Int × AG => r.2.2.2) ?_ (fun _ => ?_)
    | refine KpG.int (fun _ => ?_))
def W_X_whose : List Nat := [5007, 5008, 47000]
theorem X_whose_fr {x1 : Int} {x2 : Int} {x3 : Int} {x4 : Int} {g : AG} : KpG W_X_whose g Prod.snd (X_whose x1 x2 x3 x4 g) := by
  unfold X_whose
  repeat' (first
    | exact KpG.none
    | exact KpG.ret rfl
    | refine KpG.ite (fun _ => ?_) (fun _ => ?_)
    | refine KpG.up rfl (fun _ => ?_)
    | refine KpG.fill rfl (fun _ => ?_)
    | refine KpG.copy rfl (fun _ => ?_)
    | refine KpG.call (W1 := W_X_whose_b) (X_whose_b_fr) (by decide +kernel) (fun _ => ?_)
    | exact KpG.tail (W1 := W_X_whose_b) (X_whose_b_fr) (by decide +kernel)
    | refine KpG.bind (ρ := fun r : AG => r) ?_ (fun _ => ?_)
    | refine KpG.bind (ρ := fun r : Int × AG => r.2) ?_ (fun _ => ?_)
    | refine KpG.bind (ρ := fun r : Int × Int × AG => r.2.2) ?_ (fun _ => ?_)
    | refine KpG.bind (ρ := fun r : Int × Int × Int × AG => r.2.2.2) ?_ (fun _ => ?_)
    | refine KpG.int (fun _ => ?_))
def W_Boats_settleTonight_b : List Nat := [5007, 5008, 47000, 75000]
set_option synthInstance.maxHeartbeats 2000000 in
theorem Boats_settleTonight_b_fr {x1 : Int} {tag : Nat} {x2 : Int} {x4 : Int} {x5 : Int} {g : AG} : KpG W_Boats_settleTonight_b g Prod.snd (Boats_settleTonight_b x1 tag x2 x4 x5 g) := by
  refine Boats_settleTonight_b.partial_correctness x1 (fun tag x2 x4 x5 g r => Fr W_Boats_settleTonight_b g r.2) ?_ tag x2 x4 x5 g
  intro fb9 ih tag x2 x4 x5 g
  show KpG W_Boats_settleTonight_b g Prod.snd _
  repeat' (first
    | exact KpG.none
    | exact KpG.ret rfl
    | refine KpG.ite (fun _ => ?_) (fun _ => ?_)
    | refine KpG.up rfl (fun _ => ?_)
    | refine KpG.fill rfl (fun _ => ?_)
    | refine KpG.copy rfl (fun _ => ?_)
    | refine KpG.call (W1 := W_Voyage_reach) (Voyage_reach_fr) (by decide +kernel) (fun _ => ?_)
    | exact KpG.tail (W1 := W_Voyage_reach) (Voyage_reach_fr) (by decide +kernel)
    | exact ih _ _ _ _ _
    | refine KpG.bind (ρ := fun r : AG => r) ?_ (fun _ => ?_)
    | refine KpG.bind (ρ := fun r : Int × AG => r.2) ?_ (fun _ => ?_)
    | refine KpG.bind (ρ := fun r : Int × Int × AG => r.2.2) ?_ (fun _ => ?_)
    | refine KpG.bind (ρ := fun r : Int × Int × Int × AG => r.2.2.2) ?_ (fun _ => ?_)
    | refine KpG.int (fun _ => ?_))
def W_Boats_settleTonight : List Nat := [5007, 5008, 47000, 75000]
theorem Boats_settleTonight_fr {x1 : Int} {g : AG} : KpG W_Boats_settleTonight g Prod.snd (Boats_settleTonight x1 g) := by
  unfold Boats_settleTonight
  repeat' (first
    | exact KpG.none
    | exact KpG.ret rfl
    | refine KpG.ite (fun _ => ?_) (fun _ => ?_)
    | refine KpG.up rfl (fun _ => ?_)
    | refine KpG.fill rfl (fun _ => ?_)
    | refine KpG.copy rfl (fun _ => ?_)
    | refine KpG.call (W1 := W_Boats_settleTonight_b) (Boats_settleTonight_b_fr) (by decide +kernel) (fun _ => ?_)
    | exact KpG.tail (W1 := W_Boats_settleTonight_b) (Boats_settleTonight_b_fr) (by decide +kernel)
    | refine KpG.bind (ρ := fun r : AG => r) ?_ (fun _ => ?_)
    | refine KpG.bind (ρ := fun r : Int × AG => r.2) ?_ (fun _ => ?_)
    | refine KpG.bind (ρ := fun r : Int × Int × AG => r.2.2) ?_ (fun _ => ?_)
    | refine KpG.bind (ρ := fun r : Int × Int × Int × AG => r.2.2.2) ?_ (fun _ => ?_)
    | refine KpG.int (fun _ => ?_))
def W_X_tonight : List Nat := [5007, 5008, 47000, 75000]
theorem X_tonight_fr {x1 : Int} {x2 : Int} {g : AG} : KpG W_X_tonight g Prod.snd (X_tonight x1 x2 g) := by
  unfold X_tonight
  repeat' (first
    | exact KpG.none
    | exact KpG.ret rfl
    | refine KpG.ite (fun _ => ?_) (fun _ => ?_)
    | refine KpG.up rfl (fun _ => ?_)
    | refine KpG.fill rfl (fun _ => ?_)
    | refine KpG.copy rfl (fun _ => ?_)
    | refine KpG.call (W1 := W_Boats_settleTonight) (Boats_settleTonight_fr) (by decide +kernel) (fun _ => ?_)
    | exact KpG.tail (W1 := W_Boats_settleTonight) (Boats_settleTonight_fr) (by decide +kernel)
    | refine KpG.bind (ρ := fun r : AG => r) ?_ (fun _ => ?_)
    | refine KpG.bind (ρ := fun r : Int × AG => r.2) ?_ (fun _ => ?_)
    | refine KpG.bind (ρ := fun r : Int × Int × AG => r.2.2) ?_ (fun _ => ?_)
    | refine KpG.bind (ρ := fun r : Int × Int × Int × AG => r.2.2.2) ?_ (fun _ => ?_)
    | refine KpG.int (fun _ => ?_))
def W_LockQueue_putNext_b : List Nat := [8005, 83000, 84000]
set_option synthInstance.maxHeartbeats 2000000 in
theorem LockQueue_putNext_b_fr {rec : Int → Int → Int → Int → AG → Option (Int × AG)} {x1 : Int} {x2 : Int} {x3 : Int} {x4 : Int} {x5 : Int} {g : AG} (hrec : ∀ (a0 a1 a2 a3 : Int) (g : AG), KpG [8005, 83000, 84000] g Prod.snd (rec a0 a1 a2 a3 g)) : KpG W_LockQueue_putNext_b g Prod.snd (LockQueue_putNext_b rec x1 x2 x3 x4 x5 g) := by
  refine LockQueue_putNext_b.partial_correctness rec x1 x2 x3 x4 (fun x5 g r => Fr W_LockQueue_putNext_b g r.2) ?_ x5 g
  intro fb9 ih x5 g
  show KpG W_LockQueue_putNext_b g Prod.snd _
  repeat' (first
    | exact KpG.none
    | exact KpG.ret rfl
    | refine KpG.ite (fun _ => ?_) (fun _ => ?_)
    | refine KpG.up rfl (fun _ => ?_)
    | refine KpG.fill rfl (fun _ => ?_)
    | refine KpG.copy rfl (fun _ => ?_)
    | refine KpG.call (W1 := [8005, 83000, 84000]) (hrec _ _ _ _ _) (by decide +kernel) (fun _ => ?_)
    | exact KpG.tail (W1 := [8005, 83000, 84000]) (hrec _ _ _ _ _) (by decide +kernel)
    | exact ih _ _
    | refine KpG.bind (ρ := fun r : AG => r) ?_ (fun _ => ?_)
    | refine KpG.bind (ρ := fun r : Int × AG => r.2) ?_ (fun _ => ?_)
    | refine KpG.bind (ρ := fun r : Int × Int × AG => r.2.2) ?_ (fun _ => ?_)
    | refine KpG.bind (ρ := fun r : Int × Int × Int × AG => r.2.2.2) ?_ (fun _ => ?_)
    | refine KpG.int (fun _ => ?_))
def W_LockQueue_putNext_s : List Nat := [8005, 83000, 84000]
theorem LockQueue_putNext_s_fr {rec : Int → Int → Int → Int → AG → Option (Int × AG)} {x1 : Int} {x2 : Int} {x3 : Int} {x4 : Int} {g : AG} (hrec : ∀ (a0 a1 a2 a3 : Int) (g : AG), KpG [8005, 83000, 84000] g Prod.snd (rec a0 a1 a2 a3 g)) : KpG W_LockQueue_putNext_s g Prod.snd (LockQueue_putNext_s rec x1 x2 x3 x4 g) := by
  unfold LockQueue_putNext_s
  repeat' (first
    | exact KpG.none
    | exact KpG.ret rfl
    | refine KpG.ite (fun _ => ?_) (fun _ => ?_)
    | refine KpG.up rfl (fun _ => ?_)
    | refine KpG.fill rfl (fun _ => ?_)
    | refine KpG.copy rfl (fun _ => ?_)
    | refine KpG.call (W1 := W_LockQueue_putNext_b) (LockQueue_putNext_b_fr hrec) (by decide +kernel) (fun _ => ?_)
    | exact KpG.tail (W1 := W_LockQueue_putNext_b) (LockQueue_putNext_b_fr hrec) (by decide +kernel)
    | refine KpG.call (W1 := [8005, 83000, 84000]) (hrec _ _ _ _ _) (by decide +kernel) (fun _ => ?_)
    | exact KpG.tail (W1 := [8005, 83000, 84000]) (hrec _ _ _ _ _) (by decide +kernel)
    | refine KpG.bind (ρ := fun r : AG => r) ?_ (fun _ => ?_)
    | refine KpG.bind (ρ := fun r : Int × AG => r.2) ?_ (fun _ => ?_)
    | refine KpG.bind (ρ := fun r : Int × Int × AG => r.2.2) ?_ (fun _ => ?_)
    | refine KpG.bind (ρ := fun r : Int × Int × Int × AG => r.2.2.2) ?_ (fun _ => ?_)
    | refine KpG.int (fun _ => ?_))
def W_LockQueue_putNext : List Nat := [8005, 83000, 84000]
theorem LockQueue_putNext_fr {n : Nat} {x1 x2 x3 x4 : Int} {g : AG} : KpG W_LockQueue_putNext g Prod.snd (LockQueue_putNext n x1 x2 x3 x4 g) := by
  induction n generalizing x1 x2 x3 x4 g with
  | zero => exact KpG.none
  | succ n ih => exact LockQueue_putNext_s_fr (rec := LockQueue_putNext n) (fun _ _ _ _ g => ih)
def W_LockQueue_findBest_b : List Nat := [8004, 8005, 83000, 84000]
set_option synthInstance.maxHeartbeats 2000000 in
theorem LockQueue_findBest_b_fr {x1 : Int} {g : AG} : KpG W_LockQueue_findBest_b g Prod.snd (LockQueue_findBest_b x1 g) := by
  refine LockQueue_findBest_b.partial_correctness (fun x1 g r => Fr W_LockQueue_findBest_b g r.2) ?_ x1 g
  intro fb9 ih x1 g
  show KpG W_LockQueue_findBest_b g Prod.snd _
  repeat' (first
    | exact KpG.none
    | exact KpG.ret rfl
    | refine KpG.ite (fun _ => ?_) (fun _ => ?_)
    | refine KpG.up rfl (fun _ => ?_)
    | refine KpG.fill rfl (fun _ => ?_)
    | refine KpG.copy rfl (fun _ => ?_)
    | refine KpG.call (W1 := W_LockQueue_putNext) (LockQueue_putNext_fr) (by decide +kernel) (fun _ => ?_)
    | exact KpG.tail (W1 := W_LockQueue_putNext) (LockQueue_putNext_fr) (by decide +kernel)
    | exact ih _ _
    | refine KpG.bind (ρ := fun r : AG => r) ?_ (fun _ => ?_)
    | refine KpG.bind (ρ := fun r : Int × AG => r.2) ?_ (fun _ => ?_)
    | refine KpG.bind (ρ := fun r : Int × Int × AG => r.2.2) ?_ (fun _ => ?_)
    | refine KpG.bind (ρ := fun r : Int × Int × Int × AG => r.2.2.2) ?_ (fun _ => ?_)
    | refine KpG.int (fun _ => ?_))
def W_LockQueue_findBest : List Nat := [8004, 8005, 83000, 84000]
theorem LockQueue_findBest_fr {g : AG} : KpG W_LockQueue_findBest g Prod.snd (LockQueue_findBest g) := by
  unfold LockQueue_findBest
  repeat' (first
    | exact KpG.none
    | exact KpG.ret rfl
    | refine KpG.ite (fun _ => ?_) (fun _ => ?_)
    | refine KpG.up rfl (fun _ => ?_)
    | refine KpG.fill rfl (fun _ => ?_)
    | refine KpG.copy rfl (fun _ => ?_)
    | refine KpG.call (W1 := W_LockQueue_findBest_b) (LockQueue_findBest_b_fr) (by decide +kernel) (fun _ => ?_)
    | exact KpG.tail (W1 := W_LockQueue_findBest_b) (LockQueue_findBest_b_fr) (by decide +kernel)
    | refine KpG.bind (ρ := fun r : AG => r) ?_ (fun _ => ?_)
    | refine KpG.bind (ρ := fun r : Int × AG => r.2) ?_ (fun _ => ?_)
    | refine KpG.bind (ρ := fun r : Int × Int × AG => r.2.2) ?_ (fun _ => ?_)
    | refine KpG.bind (ρ := fun r : Int × Int × Int × AG => r.2.2.2) ?_ (fun _ => ?_)
    | refine KpG.int (fun _ => ?_))
def W_LockQueue_add_b : List Nat := [8003, 8004, 8005, 81000, 82000, 83000, 84000]
theorem LockQueue_add_b_fr {x1 : Int} {x2 : Int} {g : AG} : KpG W_LockQueue_add_b g Prod.snd (LockQueue_add_b x1 x2 g) := by
  unfold LockQueue_add_b
  repeat' (first
    | exact KpG.none
    | exact KpG.ret rfl
    | refine KpG.ite (fun _ => ?_) (fun _ => ?_)
    | refine KpG.up rfl (fun _ => ?_)
    | refine KpG.fill rfl (fun _ => ?_)
    | refine KpG.copy rfl (fun _ => ?_)
    | refine KpG.call (W1 := W_LockQueue_findBest) (LockQueue_findBest_fr) (by decide +kernel) (fun _ => ?_)
    | exact KpG.tail (W1 := W_LockQueue_findBest) (LockQueue_findBest_fr) (by decide +kernel)
    | refine KpG.bind (ρ := fun r : AG => r) ?_ (fun _ => ?_)
    | refine KpG.bind (ρ := fun r : Int × AG => r.2) ?_ (fun _ => ?_)
    | refine KpG.bind (ρ := fun r : Int × Int × AG => r.2.2) ?_ (fun _ => ?_)
    | refine KpG.bind (ρ := fun r : Int × Int × Int × AG => r.2.2.2) ?_ (fun _ => ?_)
    | refine KpG.int (fun _ => ?_))
def W_LockQueue_add : List Nat := [8003, 8004, 8005, 81000, 82000, 83000, 84000]
theorem LockQueue_add_fr {x1 : Int} {x2 : Int} {g : AG} : KpG W_LockQueue_add g Prod.snd (LockQueue_add x1 x2 g) := by
  unfold LockQueue_add
  repeat' (first
    | exact KpG.none
    | exact KpG.ret rfl
    | refine KpG.ite (fun _ => ?_) (fun _ => ?_)
    | refine KpG.up rfl (fun _ => ?_)
    | refine KpG.fill rfl (fun _ => ?_)
    | refine KpG.copy rfl (fun _ => ?_)
    | refine KpG.call (W1 := W_LockQueue_add_b) (LockQueue_add_b_fr) (by decide +kernel) (fun _ => ?_)
    | exact KpG.tail (W1 := W_LockQueue_add_b) (LockQueue_add_b_fr) (by decide +kernel)
    | refine KpG.bind (ρ := fun r : AG => r) ?_ (fun _ => ?_)
    | refine KpG.bind (ρ := fun r : Int × AG => r.2) ?_ (fun _ => ?_)
    | refine KpG.bind (ρ := fun r : Int × Int × AG => r.2.2) ?_ (fun _ => ?_)
    | refine KpG.bind (ρ := fun r : Int × Int × Int × AG => r.2.2.2) ?_ (fun _ => ?_)
    | refine KpG.int (fun _ => ?_))
def W_LockQueue_clear : List Nat := [8003, 8004, 8005]
theorem LockQueue_clear_fr {g : AG} : KpG W_LockQueue_clear g Prod.snd (LockQueue_clear g) := by
  unfold LockQueue_clear
  repeat' (first
    | exact KpG.none
    | exact KpG.ret rfl
    | refine KpG.ite (fun _ => ?_) (fun _ => ?_)
    | refine KpG.up rfl (fun _ => ?_)
    | refine KpG.fill rfl (fun _ => ?_)
    | refine KpG.copy rfl (fun _ => ?_)
    | refine KpG.bind (ρ := fun r : AG => r) ?_ (fun _ => ?_)
    | refine KpG.bind (ρ := fun r : Int × AG => r.2) ?_ (fun _ => ?_)
    | refine KpG.bind (ρ := fun r : Int × Int × AG => r.2.2) ?_ (fun _ => ?_)
    | refine KpG.bind (ρ := fun r : Int × Int × Int × AG => r.2.2.2) ?_ (fun _ => ?_)
    | refine KpG.int (fun _ => ?_))
def W_X_queue : List Nat := [8003, 8004, 8005, 81000, 82000, 83000, 84000]
theorem X_queue_fr {x1 : Int} {x2 : Int} {g : AG} : KpG W_X_queue g Prod.snd (X_queue x1 x2 g) := by
  unfold X_queue
  repeat' (first
    | exact KpG.none
    | exact KpG.ret rfl
    | refine KpG.ite (fun _ => ?_) (fun _ => ?_)
    | refine KpG.up rfl (fun _ => ?_)
    | refine KpG.fill rfl (fun _ => ?_)
    | refine KpG.copy rfl (fun _ => ?_)
    | refine KpG.call (W1 := W_LockQueue_clear) (LockQueue_clear_fr) (by decide +kernel) (fun _ => ?_)
    | exact KpG.tail (W1 := W_LockQueue_clear) (LockQueue_clear_fr) (by decide +kernel)
    | refine KpG.call (W1 := W_LockQueue_add) (LockQueue_add_fr) (by decide +kernel) (fun _ => ?_)
    | exact KpG.tail (W1 := W_LockQueue_add) (LockQueue_add_fr) (by decide +kernel)
    | refine KpG.bind (ρ := fun r : AG => r) ?_ (fun _ => ?_)
    | refine KpG.bind (ρ := fun r : Int × AG => r.2) ?_ (fun _ => ?_)
    | refine KpG.bind (ρ := fun r : Int × Int × AG => r.2.2) ?_ (fun _ => ?_)
    | refine KpG.bind (ρ := fun r : Int × Int × Int × AG => r.2.2.2) ?_ (fun _ => ?_)
    | refine KpG.int (fun _ => ?_))
def W_Bookings_putInOrder_b : List Nat := [89000]
set_option synthInstance.maxHeartbeats 2000000 in
theorem Bookings_putInOrder_b_fr {tag : Nat} {x1 : Int} {x2 : Int} {x3 : Int} {g : AG} : KpG W_Bookings_putInOrder_b g Prod.snd (Bookings_putInOrder_b tag x1 x2 x3 g) := by
  refine Bookings_putInOrder_b.partial_correctness (fun tag x1 x2 x3 g r => Fr W_Bookings_putInOrder_b g r.2) ?_ tag x1 x2 x3 g
  intro fb9 ih tag x1 x2 x3 g
  show KpG W_Bookings_putInOrder_b g Prod.snd _
  repeat' (first
    | exact KpG.none
    | exact KpG.ret rfl
    | refine KpG.ite (fun _ => ?_) (fun _ => ?_)
    | refine KpG.up rfl (fun _ => ?_)
    | refine KpG.fill rfl (fun _ => ?_)
    | refine KpG.copy rfl (fun _ => ?_)
    | exact ih _ _ _ _ _
    | refine KpG.bind (ρ := fun r : AG => r) ?_ (fun _ => ?_)
    | refine KpG.bind (ρ := fun r : Int × AG => r.2) ?_ (fun _ => ?_)
    | refine KpG.bind (ρ := fun r : Int × Int × AG => r.2.2) ?_ (fun _ => ?_)
    | refine KpG.bind (ρ := fun r : Int × Int × Int × AG => r.2.2.2) ?_ (fun _ => ?_)
    | refine KpG.int (fun _ => ?_))
def W_Bookings_putInOrder : List Nat := [89000]
theorem Bookings_putInOrder_fr {g : AG} : KpG W_Bookings_putInOrder g Prod.snd (Bookings_putInOrder g) := by
  unfold Bookings_putInOrder
  repeat' (first
    | exact KpG.none
    | exact KpG.ret rfl
    | refine KpG.ite (fun _ => ?_) (fun _ => ?_)
    | refine KpG.up rfl (fun _ => ?_)
    | refine KpG.fill rfl (fun _ => ?_)
    | refine KpG.copy rfl (fun _ => ?_)
    | refine KpG.call (W1 := W_Bookings_putInOrder_b) (Bookings_putInOrder_b_fr) (by decide +kernel) (fun _ => ?_)
    | exact KpG.tail (W1 := W_Bookings_putInOrder_b) (Bookings_putInOrder_b_fr) (by decide +kernel)
    | refine KpG.bind (ρ := fun r : AG => r) ?_ (fun _ => ?_)
    | refine KpG.bind (ρ := fun r : Int × AG => r.2) ?_ (fun _ => ?_)
    | refine KpG.bind (ρ := fun r : Int × Int × AG => r.2.2) ?_ (fun _ => ?_)
    | refine KpG.bind (ρ := fun r : Int × Int × Int × AG => r.2.2.2) ?_ (fun _ => ?_)
    | refine KpG.int (fun _ => ?_))
def W_Bookings_add : List Nat := [9005, 9012, 85000, 86000, 87000, 88000, 89000]
theorem Bookings_add_fr {x1 : Int} {x2 : Int} {x3 : Int} {x4 : Int} {g : AG} : KpG W_Bookings_add g Prod.snd (Bookings_add x1 x2 x3 x4 g) := by
  unfold Bookings_add
  repeat' (first
    | exact KpG.none
    | exact KpG.ret rfl
    | refine KpG.ite (fun _ => ?_) (fun _ => ?_)
    | refine KpG.up rfl (fun _ => ?_)
    | refine KpG.fill rfl (fun _ => ?_)
    | refine KpG.copy rfl (fun _ => ?_)
    | refine KpG.call (W1 := W_Bookings_putInOrder) (Bookings_putInOrder_fr) (by decide +kernel) (fun _ => ?_)
    | exact KpG.tail (W1 := W_Bookings_putInOrder) (Bookings_putInOrder_fr) (by decide +kernel)
    | refine KpG.bind (ρ := fun r : AG => r) ?_ (fun _ => ?_)
    | refine KpG.bind (ρ := fun r : Int × AG => r.2) ?_ (fun _ => ?_)
    | refine KpG.bind (ρ := fun r : Int × Int × AG => r.2.2) ?_ (fun _ => ?_)
    | refine KpG.bind (ρ := fun r : Int × Int × Int × AG => r.2.2.2) ?_ (fun _ => ?_)
    | refine KpG.int (fun _ => ?_))
def W_X_booking : List Nat := [9005, 9012, 85000, 86000, 87000, 88000, 89000]
theorem X_booking_fr {x1 : Int} {x2 : Int} {x3 : Int} {x4 : Int} {g : AG} : KpG W_X_booking g Prod.snd (X_booking x1 x2 x3 x4 g) := by
  unfold X_booking
  repeat' (first
    | exact KpG.none
    | exact KpG.ret rfl
    | refine KpG.ite (fun _ => ?_) (fun _ => ?_)
    | refine KpG.up rfl (fun _ => ?_)
    | refine KpG.fill rfl (fun _ => ?_)
    | refine KpG.copy rfl (fun _ => ?_)
    | refine KpG.call (W1 := W_Bookings_add) (Bookings_add_fr) (by decide +kernel) (fun _ => ?_)
    | exact KpG.tail (W1 := W_Bookings_add) (Bookings_add_fr) (by decide +kernel)
    | refine KpG.bind (ρ := fun r : AG => r) ?_ (fun _ => ?_)
    | refine KpG.bind (ρ := fun r : Int × AG => r.2) ?_ (fun _ => ?_)
    | refine KpG.bind (ρ := fun r : Int × Int × AG => r.2.2) ?_ (fun _ => ?_)
    | refine KpG.bind (ρ := fun r : Int × Int × Int × AG => r.2.2.2) ?_ (fun _ => ?_)
    | refine KpG.int (fun _ => ?_))
def W_Bookings_hire : List Nat := [9012, 91000]
theorem Bookings_hire_fr {x1 : Int} {x2 : Int} {x3 : Int} {g : AG} : KpG W_Bookings_hire g Prod.snd (Bookings_hire x1 x2 x3 g) := by
  unfold Bookings_hire
  repeat' (first
    | exact KpG.none
    | exact KpG.ret rfl
    | refine KpG.ite (fun _ => ?_) (fun _ => ?_)
    | refine KpG.up rfl (fun _ => ?_)
    | refine KpG.fill rfl (fun _ => ?_)
    | refine KpG.copy rfl (fun _ => ?_)
    | refine KpG.bind (ρ := fun r : AG => r) ?_ (fun _ => ?_)
    | refine KpG.bind (ρ := fun r : Int × AG => r.2) ?_ (fun _ => ?_)
    | refine KpG.bind (ρ := fun r : Int × Int × AG => r.2.2) ?_ (fun _ => ?_)
    | refine KpG.bind (ρ := fun r : Int × Int × Int × AG => r.2.2.2) ?_ (fun _ => ?_)
    | refine KpG.int (fun _ => ?_))
def W_X_hireFirst_b : List Nat := [9012, 91000]
set_option synthInstance.maxHeartbeats 2000000 in
theorem X_hireFirst_b_fr {x1 : Int} {x2 : Int} {g : AG} : KpG W_X_hireFirst_b g Prod.snd (X_hireFirst_b x1 x2 g) := by
  refine X_hireFirst_b.partial_correctness x1 (fun x2 g r => Fr W_X_hireFirst_b g r.2) ?_ x2 g
  intro fb9 ih x2 g
  show KpG W_X_hireFirst_b g Prod.snd _
  repeat' (first
    | exact KpG.none
    | exact KpG.ret rfl
    | refine KpG.ite (fun _ => ?_) (fun _ => ?_)
    | refine KpG.up rfl (fun _ => ?_)
    | refine KpG.fill rfl (fun _ => ?_)
    | refine KpG.copy rfl (fun _ => ?_)
    | refine KpG.call (W1 := W_Bookings_hire) (Bookings_hire_fr) (by decide +kernel) (fun _ => ?_)
    | exact KpG.tail (W1 := W_Bookings_hire) (Bookings_hire_fr) (by decide +kernel)
    | exact ih _ _
    | refine KpG.bind (ρ := fun r : AG => r) ?_ (fun _ => ?_)
    | refine KpG.bind (ρ := fun r : Int × AG => r.2) ?_ (fun _ => ?_)
    | refine KpG.bind (ρ := fun r : Int × Int × AG => r.2.2) ?_ (fun _ => ?_)
    | refine KpG.bind (ρ := fun r : Int × Int × Int × AG => r.2.2.2) ?_ (fun _ => ?_)
    | refine KpG.int (fun _ => ?_))
def W_X_hireFirst : List Nat := [9012, 91000]
theorem X_hireFirst_fr {x1 : Int} {g : AG} : KpG W_X_hireFirst g Prod.snd (X_hireFirst x1 g) := by
  unfold X_hireFirst
  repeat' (first
    | exact KpG.none
    | exact KpG.ret rfl
    | refine KpG.ite (fun _ => ?_) (fun _ => ?_)
    | refine KpG.up rfl (fun _ => ?_)
    | refine KpG.fill rfl (fun _ => ?_)
    | refine KpG.copy rfl (fun _ => ?_)
    | refine KpG.call (W1 := W_X_hireFirst_b) (X_hireFirst_b_fr) (by decide +kernel) (fun _ => ?_)
    | exact KpG.tail (W1 := W_X_hireFirst_b) (X_hireFirst_b_fr) (by decide +kernel)
    | refine KpG.bind (ρ := fun r : AG => r) ?_ (fun _ => ?_)
    | refine KpG.bind (ρ := fun r : Int × AG => r.2) ?_ (fun _ => ?_)
    | refine KpG.bind (ρ := fun r : Int × Int × AG => r.2.2) ?_ (fun _ => ?_)
    | refine KpG.bind (ρ := fun r : Int × Int × Int × AG => r.2.2.2) ?_ (fun _ => ?_)
    | refine KpG.int (fun _ => ?_))
def W_Bookings_compare_b : List Nat := [9016, 9017, 96000]
set_option synthInstance.maxHeartbeats 2000000 in
theorem Bookings_compare_b_fr {x1 : Int} {g : AG} {x2 : Int} {x3 : Int} : KpG W_Bookings_compare_b g Prod.snd (Bookings_compare_b x1 g x2 x3) := by
  refine Bookings_compare_b.partial_correctness x1 g (fun x2 x3 r => Fr W_Bookings_compare_b g r.2) ?_ x2 x3
  intro fb9 ih x2 x3
  show KpG W_Bookings_compare_b g Prod.snd _
  repeat' (first
    | exact KpG.none
    | exact KpG.ret rfl
    | refine KpG.ite (fun _ => ?_) (fun _ => ?_)
    | refine KpG.up rfl (fun _ => ?_)
    | refine KpG.fill rfl (fun _ => ?_)
    | refine KpG.copy rfl (fun _ => ?_)
    | exact ih _ _
    | refine KpG.bind (ρ := fun r : AG => r) ?_ (fun _ => ?_)
    | refine KpG.bind (ρ := fun r : Int × AG => r.2) ?_ (fun _ => ?_)
    | refine KpG.bind (ρ := fun r : Int × Int × AG => r.2.2) ?_ (fun _ => ?_)
    | refine KpG.bind (ρ := fun r : Int × Int × Int × AG => r.2.2.2) ?_ (fun _ => ?_)
    | refine KpG.int (fun _ => ?_))
def W_Bookings_compare : List Nat := [9016, 9017, 96000]
theorem Bookings_compare_fr {x1 : Int} {g : AG} : KpG W_Bookings_compare g Prod.snd (Bookings_compare x1 g) := by
  unfold Bookings_compare
  repeat' (first
    | exact KpG.none
    | exact KpG.ret rfl
    | refine KpG.ite (fun _ => ?_) (fun _ => ?_)
    | refine KpG.up rfl (fun _ => ?_)
    | refine KpG.fill rfl (fun _ => ?_)
    | refine KpG.copy rfl (fun _ => ?_)
    | refine KpG.call (W1 := W_Bookings_compare_b) (Bookings_compare_b_fr) (by decide +kernel) (fun _ => ?_)
    | exact KpG.tail (W1 := W_Bookings_compare_b) (Bookings_compare_b_fr) (by decide +kernel)
    | refine KpG.bind (ρ := fun r : AG => r) ?_ (fun _ => ?_)
    | refine KpG.bind (ρ := fun r : Int × AG => r.2) ?_ (fun _ => ?_)
    | refine KpG.bind (ρ := fun r : Int × Int × AG => r.2.2) ?_ (fun _ => ?_)
    | refine KpG.bind (ρ := fun r : Int × Int × Int × AG => r.2.2.2) ?_ (fun _ => ?_)
    | refine KpG.int (fun _ => ?_))
def W_Bookings_giveNext_b : List Nat := [9016, 9017, 92000, 93000, 95000, 96000]
set_option synthInstance.maxHeartbeats 2000000 in
theorem Bookings_giveNext_b_fr {rec : Int → Int → AG → Option (Int × AG)} {x1 : Int} {x2 : Int} {tag : Nat} {x4 : Int} {x5 : Int} {g : AG} (hrec : ∀ (a0 a1 : Int) (g : AG), KpG [9016, 9017, 92000, 93000, 95000, 96000] g Prod.snd (rec a0 a1 g)) : KpG W_Bookings_giveNext_b g Prod.snd (Bookings_giveNext_b rec x1 x2 tag x4 x5 g) := by
  refine Bookings_giveNext_b.partial_correctness rec x1 x2 (fun tag x4 x5 g r => Fr W_Bookings_giveNext_b g r.2) ?_ tag x4 x5 g
  intro fb9 ih tag x4 x5 g
  show KpG W_Bookings_giveNext_b g Prod.snd _
  repeat' (first
    | exact KpG.none
    | exact KpG.ret rfl
    | refine KpG.ite (fun _ => ?_) (fun _ => ?_)
    | refine KpG.up rfl (fun _ => ?_)
    | refine KpG.fill rfl (fun _ => ?_)
    | refine KpG.copy rfl (fun _ => ?_)
    | refine KpG.call (W1 := W_Bookings_compare) (Bookings_compare_fr) (by decide +kernel) (fun _ => ?_)
    | exact KpG.tail (W1 := W_Bookings_compare) (Bookings_compare_fr) (by decide +kernel)
    | refine KpG.call (W1 := [9016, 9017, 92000, 93000, 95000, 96000]) (hrec _ _ _) (by decide +kernel) (fun _ => ?_)
    | exact KpG.tail (W1 := [9016, 9017, 92000, 93000, 95000, 96000]) (hrec _ _ _) (by decide +kernel)
    | exact ih _ _ _ _
    | refine KpG.bind (ρ := fun r : AG => r) ?_ (fun _ => ?_)
    | refine KpG.bind (ρ := fun r : Int × AG => r.2) ?_ (fun _ => ?_)
    | refine KpG.bind (ρ := fun r : Int × Int × AG => r.2.2) ?_ (fun _ => ?_)
    | refine KpG.bind (ρ := fun r : Int × Int × Int × AG => r.2.2.2) ?_ (fun _ => ?_)
    | refine KpG.int (fun _ => ?_))
def W_Bookings_giveNext_s : List Nat := [9016, 9017, 92000, 93000, 95000, 96000]
theorem Bookings_giveNext_s_fr {rec : Int → Int → AG → Option (Int × AG)} {x1 : Int} {x2 : Int} {g : AG} (hrec : ∀ (a0 a1 : Int) (g : AG), KpG [9016, 9017, 92000, 93000, 95000, 96000] g Prod.snd (rec a0 a1 g)) : KpG W_Bookings_giveNext_s g Prod.snd (Bookings_giveNext_s rec x1 x2 g) := by
  unfold Bookings_giveNext_s
  repeat' (first
    | exact KpG.none
    | exact KpG.ret rfl
    | refine KpG.ite (fun _ => ?_) (fun _ => ?_)
    | refine KpG.up rfl (fun _ => ?_)
    | refine KpG.fill rfl (fun _ => ?_)
    | refine KpG.copy rfl (fun _ => ?_)
    | refine KpG.call (W1 := W_Bookings_giveNext_b) (Bookings_giveNext_b_fr hrec) (by decide +kernel) (fun _ => ?_)
    | exact KpG.tail (W1 := W_Bookings_giveNext_b) (Bookings_giveNext_b_fr hrec) (by decide +kernel)
    | refine KpG.call (W1 := [9016, 9017, 92000, 93000, 95000, 96000]) (hrec _ _ _) (by decide +kernel) (fun _ => ?_)
    | exact KpG.tail (W1 := [9016, 9017, 92000, 93000, 95000, 96000]) (hrec _ _ _) (by decide +kernel)
    | refine KpG.bind (ρ := fun r : AG => r) ?_ (fun _ => ?_)
    | refine KpG.bind (ρ := fun r : Int × AG => r.2) ?_ (fun _ => ?_)
    | refine KpG.bind (ρ := fun r : Int × Int × AG => r.2.2) ?_ (fun _ => ?_)
    | refine KpG.bind (ρ := fun r : Int × Int × Int × AG => r.2.2.2) ?_ (fun _ => ?_)
    | refine KpG.int (fun _ => ?_))
def W_Bookings_giveNext : List Nat := [9016, 9017, 92000, 93000, 95000, 96000]
theorem Bookings_giveNext_fr {n : Nat} {x1 x2 : Int} {g : AG} : KpG W_Bookings_giveNext g Prod.snd (Bookings_giveNext n x1 x2 g) := by
  induction n generalizing x1 x2 g with
  | zero => exact KpG.none
  | succ n ih => exact Bookings_giveNext_s_fr (rec := Bookings_giveNext n) (fun _ _ g => ih)
def W_Bookings_giveBest_b : List Nat := [9016, 9017, 92000, 93000, 94000, 95000, 96000]
set_option synthInstance.maxHeartbeats 2000000 in
theorem Bookings_giveBest_b_fr {tag : Nat} {x2 : Int} {g : AG} : KpG W_Bookings_giveBest_b g Prod.snd (Bookings_giveBest_b tag x2 g) := by
  refine Bookings_giveBest_b.partial_correctness (fun tag x2 g r => Fr W_Bookings_giveBest_b g r.2) ?_ tag x2 g
  intro fb9 ih tag x2 g
  show KpG W_Bookings_giveBest_b g Prod.snd _
  repeat' (first
    | exact KpG.none
    | exact KpG.ret rfl
    | refine KpG.ite (fun _ => ?_) (fun _ => ?_)
    | refine KpG.up rfl (fun _ => ?_)
    | refine KpG.fill rfl (fun _ => ?_)
    | refine KpG.copy rfl (fun _ => ?_)
    | refine KpG.call (W1 := W_Bookings_giveNext) (Bookings_giveNext_fr) (by decide +kernel) (fun _ => ?_)
    | exact KpG.tail (W1 := W_Bookings_giveNext) (Bookings_giveNext_fr) (by decide +kernel)
    | exact ih _ _ _
    | refine KpG.bind (ρ := fun r : AG => r) ?_ (fun _ => ?_)
    | refine KpG.bind (ρ := fun r : Int × AG => r.2) ?_ (fun _ => ?_)
    | refine KpG.bind (ρ := fun r : Int × Int × AG => r.2.2) ?_ (fun _ => ?_)
    | refine KpG.bind (ρ := fun r : Int × Int × Int × AG => r.2.2.2) ?_ (fun _ => ?_)
    | refine KpG.int (fun _ => ?_))
def W_Bookings_giveBest : List Nat := [9011, 9012, 9016, 9017, 92000, 93000, 94000, 95000, 96000]
theorem Bookings_giveBest_fr {x1 : Int} {g : AG} : KpG W_Bookings_giveBest g Prod.snd (Bookings_giveBest x1 g) := by
  unfold Bookings_giveBest
  repeat' (first
    | exact KpG.none
    | exact KpG.ret rfl
    | refine KpG.ite (fun _ => ?_) (fun _ => ?_)
    | refine KpG.up rfl (fun _ => ?_)
    | refine KpG.fill rfl (fun _ => ?_)
    | refine KpG.copy rfl (fun _ => ?_)
    | refine KpG.call (W1 := W_Bookings_giveBest_b) (Bookings_giveBest_b_fr) (by decide +kernel) (fun _ => ?_)
    | exact KpG.tail (W1 := W_Bookings_giveBest_b) (Bookings_giveBest_b_fr) (by decide +kernel)
    | refine KpG.bind (ρ := fun r : AG => r) ?_ (fun _ => ?_)
    | refine KpG.bind (ρ := fun r : Int × AG => r.2) ?_ (fun _ => ?_)
    | refine KpG.bind (ρ := fun r : Int × Int × AG => r.2.2) ?_ (fun _ => ?_)
    | refine KpG.bind (ρ := fun r : Int × Int × Int × AG => r.2.2.2) ?_ (fun _ => ?_)
    | refine KpG.int (fun _ => ?_))
def W_X_given : List Nat := [9011, 9012, 9016, 9017, 91000, 92000, 93000, 94000, 95000, 96000]
theorem X_given_fr {x1 : Int} {x2 : Int} {g : AG} : KpG W_X_given g Prod.snd (X_given x1 x2 g) := by
  unfold X_given
  repeat' (first
    | exact KpG.none
    | exact KpG.ret rfl
    | refine KpG.ite (fun _ => ?_) (fun _ => ?_)
    | refine KpG.up rfl (fun _ => ?_)
    | refine KpG.fill rfl (fun _ => ?_)
    | refine KpG.copy rfl (fun _ => ?_)
    | refine KpG.call (W1 := W_X_hireFirst) (X_hireFirst_fr) (by decide +kernel) (fun _ => ?_)
    | exact KpG.tail (W1 := W_X_hireFirst) (X_hireFirst_fr) (by decide +kernel)
    | refine KpG.call (W1 := W_Bookings_giveBest) (Bookings_giveBest_fr) (by decide +kernel) (fun _ => ?_)
    | exact KpG.tail (W1 := W_Bookings_giveBest) (Bookings_giveBest_fr) (by decide +kernel)
    | refine KpG.bind (ρ := fun r : AG => r) ?_ (fun _ => ?_)
    | refine KpG.bind (ρ := fun r : Int × AG => r.2) ?_ (fun _ => ?_)
    | refine KpG.bind (ρ := fun r : Int × Int × AG => r.2.2) ?_ (fun _ => ?_)
    | refine KpG.bind (ρ := fun r : Int × Int × Int × AG => r.2.2.2) ?_ (fun _ => ?_)
    | refine KpG.int (fun _ => ?_))
def W_X_more : List Nat := [9011, 9012, 9016, 9017, 91000, 92000, 93000, 94000, 95000, 96000]
theorem X_more_fr {x1 : Int} {x2 : Int} {x3 : Int} {g : AG} : KpG W_X_more g Prod.snd (X_more x1 x2 x3 g) := by
  unfold X_more
  repeat' (first
    | exact KpG.none
    | exact KpG.ret rfl
    | refine KpG.ite (fun _ => ?_) (fun _ => ?_)
    | refine KpG.up rfl (fun _ => ?_)
    | refine KpG.fill rfl (fun _ => ?_)
    | refine KpG.copy rfl (fun _ => ?_)
    | refine KpG.call (W1 := W_X_hireFirst) (X_hireFirst_fr) (by decide +kernel) (fun _ => ?_)
    | exact KpG.tail (W1 := W_X_hireFirst) (X_hireFirst_fr) (by decide +kernel)
    | refine KpG.call (W1 := W_Bookings_hire) (Bookings_hire_fr) (by decide +kernel) (fun _ => ?_)
    | exact KpG.tail (W1 := W_Bookings_hire) (Bookings_hire_fr) (by decide +kernel)
    | refine KpG.call (W1 := W_Bookings_giveBest) (Bookings_giveBest_fr) (by decide +kernel) (fun _ => ?_)
    | exact KpG.tail (W1 := W_Bookings_giveBest) (Bookings_giveBest_fr) (by decide +kernel)
    | refine KpG.bind (ρ := fun r : AG => r) ?_ (fun _ => ?_)
    | refine KpG.bind (ρ := fun r : Int × AG => r.2) ?_ (fun _ => ?_)
    | refine KpG.bind (ρ := fun r : Int × Int × AG => r.2.2) ?_ (fun _ => ?_)
    | refine KpG.bind (ρ := fun r : Int × Int × Int × AG => r.2.2.2) ?_ (fun _ => ?_)
    | refine KpG.int (fun _ => ?_))
def W_Yard_tellDock_b : List Nat := [97000, 98000]
theorem Yard_tellDock_b_fr {x1 : Int} {x2 : Int} {x3 : Int} {g : AG} : KpG W_Yard_tellDock_b g Prod.snd (Yard_tellDock_b x1 x2 x3 g) := by
  unfold Yard_tellDock_b
  repeat' (first
    | exact KpG.none
    | exact KpG.ret rfl
    | refine KpG.ite (fun _ => ?_) (fun _ => ?_)
    | refine KpG.up rfl (fun _ => ?_)
    | refine KpG.fill rfl (fun _ => ?_)
    | refine KpG.copy rfl (fun _ => ?_)
    | refine KpG.bind (ρ := fun r : AG => r) ?_ (fun _ => ?_)
    | refine KpG.bind (ρ := fun r : Int × AG => r.2) ?_ (fun _ => ?_)
    | refine KpG.bind (ρ := fun r : Int × Int × AG => r.2.2) ?_ (fun _ => ?_)
    | refine KpG.bind (ρ := fun r : Int × Int × Int × AG => r.2.2.2) ?_ (fun _ => ?_)
    | refine KpG.int (fun _ => ?_))
def W_Yard_tellDock : List Nat := [97000, 98000]
theorem Yard_tellDock_fr {x1 : Int} {x2 : Int} {x3 : Int} {g : AG} : KpG W_Yard_tellDock g Prod.snd (Yard_tellDock x1 x2 x3 g) := by
  unfold Yard_tellDock
  repeat' (first
    | exact KpG.none
    | exact KpG.ret rfl
    | refine KpG.ite (fun _ => ?_) (fun _ => ?_)
    | refine KpG.up rfl (fun _ => ?_)
    | refine KpG.fill rfl (fun _ => ?_)
    | refine KpG.copy rfl (fun _ => ?_)
    | refine KpG.call (W1 := W_Yard_tellDock_b) (Yard_tellDock_b_fr) (by decide +kernel) (fun _ => ?_)
    | exact KpG.tail (W1 := W_Yard_tellDock_b) (Yard_tellDock_b_fr) (by decide +kernel)
    | refine KpG.bind (ρ := fun r : AG => r) ?_ (fun _ => ?_)
    | refine KpG.bind (ρ := fun r : Int × AG => r.2) ?_ (fun _ => ?_)
    | refine KpG.bind (ρ := fun r : Int × Int × AG => r.2.2) ?_ (fun _ => ?_)
    | refine KpG.bind (ρ := fun r : Int × Int × Int × AG => r.2.2.2) ?_ (fun _ => ?_)
    | refine KpG.int (fun _ => ?_))
def W_X_gas : List Nat := [97000, 98000]
theorem X_gas_fr {x1 : Int} {x2 : Int} {x3 : Int} {g : AG} : KpG W_X_gas g Prod.snd (X_gas x1 x2 x3 g) := by
  unfold X_gas
  repeat' (first
    | exact KpG.none
    | exact KpG.ret rfl
    | refine KpG.ite (fun _ => ?_) (fun _ => ?_)
    | refine KpG.up rfl (fun _ => ?_)
    | refine KpG.fill rfl (fun _ => ?_)
    | refine KpG.copy rfl (fun _ => ?_)
    | refine KpG.call (W1 := W_Yard_tellDock) (Yard_tellDock_fr) (by decide +kernel) (fun _ => ?_)
    | exact KpG.tail (W1 := W_Yard_tellDock) (Yard_tellDock_fr) (by decide +kernel)
    | refine KpG.bind (ρ := fun r : AG => r) ?_ (fun _ => ?_)
    | refine KpG.bind (ρ := fun r : Int × AG => r.2) ?_ (fun _ => ?_)
    | refine KpG.bind (ρ := fun r : Int × Int × AG => r.2.2) ?_ (fun _ => ?_)
    | refine KpG.bind (ρ := fun r : Int × Int × Int × AG => r.2.2.2) ?_ (fun _ => ?_)
    | refine KpG.int (fun _ => ?_))
def W_Yard_chooseNext_b : List Nat := [100000, 101000, 102000]
set_option synthInstance.maxHeartbeats 2000000 in
theorem Yard_chooseNext_b_fr {x1 : Int} {tag : Nat} {x2 : Int} {x3 : Int} {g : AG} : KpG W_Yard_chooseNext_b g Prod.snd (Yard_chooseNext_b x1 tag x2 x3 g) := by
  refine Yard_chooseNext_b.partial_correctness x1 (fun tag x2 x3 g r => Fr W_Yard_chooseNext_b g r.2) ?_ tag x2 x3 g
  intro fb9 ih tag x2 x3 g
  show KpG W_Yard_chooseNext_b g Prod.snd _
  repeat' (first
    | exact KpG.none
    | exact KpG.ret rfl
    | refine KpG.ite (fun _ => ?_) (fun _ => ?_)
    | refine KpG.up rfl (fun _ => ?_)
    | refine KpG.fill rfl (fun _ => ?_)
    | refine KpG.copy rfl (fun _ => ?_)
    | exact ih _ _ _ _
    | refine KpG.bind (ρ := fun r : AG => r) ?_ (fun _ => ?_)
    | refine KpG.bind (ρ := fun r : Int × AG => r.2) ?_ (fun _ => ?_)
    | refine KpG.bind (ρ := fun r : Int × Int × AG => r.2.2) ?_ (fun _ => ?_)
    | refine KpG.bind (ρ := fun r : Int × Int × Int × AG => r.2.2.2) ?_ (fun _ => ?_)
    | refine KpG.int (fun _ => ?_))
def W_Yard_chooseNext : List Nat := [100000, 101000, 102000]
theorem Yard_chooseNext_fr {x1 : Int} {g : AG} : KpG W_Yard_chooseNext g Prod.snd (Yard_chooseNext x1 g) := by
  unfold Yard_chooseNext
  repeat' (first
    | exact KpG.none
    | exact KpG.ret rfl
    | refine KpG.ite (fun _ => ?_) (fun _ => ?_)
    | refine KpG.up rfl (fun _ => ?_)
    | refine KpG.fill rfl (fun _ => ?_)
    | refine KpG.copy rfl (fun _ => ?_)
    | refine KpG.call (W1 := W_Yard_chooseNext_b) (Yard_chooseNext_b_fr) (by decide +kernel) (fun _ => ?_)
    | exact KpG.tail (W1 := W_Yard_chooseNext_b) (Yard_chooseNext_b_fr) (by decide +kernel)
    | refine KpG.bind (ρ := fun r : AG => r) ?_ (fun _ => ?_)
    | refine KpG.bind (ρ := fun r : Int × AG => r.2) ?_ (fun _ => ?_)
    | refine KpG.bind (ρ := fun r : Int × Int × AG => r.2.2) ?_ (fun _ => ?_)
    | refine KpG.bind (ρ := fun r : Int × Int × Int × AG => r.2.2.2) ?_ (fun _ => ?_)
    | refine KpG.int (fun _ => ?_))
def W_Yard_orderDock_b : List Nat := [10003, 99000, 100000, 101000, 102000]
set_option synthInstance.maxHeartbeats 2000000 in
theorem Yard_orderDock_b_fr {tag : Nat} {x1 : Int} {x2 : Int} {g : AG} : KpG W_Yard_orderDock_b g Prod.snd (Yard_orderDock_b tag x1 x2 g) := by
  refine Yard_orderDock_b.partial_correctness (fun tag x1 x2 g r => Fr W_Yard_orderDock_b g r.2) ?_ tag x1 x2 g
  intro fb9 ih tag x1 x2 g
  show KpG W_Yard_orderDock_b g Prod.snd _
  repeat' (first
    | exact KpG.none
    | exact KpG.ret rfl
    | refine KpG.ite (fun _ => ?_) (fun _ => ?_)
    | refine KpG.up rfl (fun _ => ?_)
    | refine KpG.fill rfl (fun _ => ?_)
    | refine KpG.copy rfl (fun _ => ?_)
    | refine KpG.call (W1 := W_Yard_chooseNext) (Yard_chooseNext_fr) (by decide +kernel) (fun _ => ?_)
    | exact KpG.tail (W1 := W_Yard_chooseNext) (Yard_chooseNext_fr) (by decide +kernel)
    | exact ih _ _ _ _
    | refine KpG.bind (ρ := fun r : AG => r) ?_ (fun _ => ?_)
    | refine KpG.bind (ρ := fun r : Int × AG => r.2) ?_ (fun _ => ?_)
    | refine KpG.bind (ρ := fun r : Int × Int × AG => r.2.2) ?_ (fun _ => ?_)
    | refine KpG.bind (ρ := fun r : Int × Int × Int × AG => r.2.2.2) ?_ (fun _ => ?_)
    | refine KpG.int (fun _ => ?_))
def W_Yard_orderDock : List Nat := [10003, 99000, 100000, 101000, 102000]
theorem Yard_orderDock_fr {g : AG} : KpG W_Yard_orderDock g Prod.snd (Yard_orderDock g) := by
  unfold Yard_orderDock
  repeat' (first
    | exact KpG.none
    | exact KpG.ret rfl
    | refine KpG.ite (fun _ => ?_) (fun _ => ?_)
    | refine KpG.up rfl (fun _ => ?_)
    | refine KpG.fill rfl (fun _ => ?_)
    | refine KpG.copy rfl (fun _ => ?_)
    | refine KpG.call (W1 := W_Yard_orderDock_b) (Yard_orderDock_b_fr) (by decide +kernel) (fun _ => ?_)
    | exact KpG.tail (W1 := W_Yard_orderDock_b) (Yard_orderDock_b_fr) (by decide +kernel)
    | refine KpG.bind (ρ := fun r : AG => r) ?_ (fun _ => ?_)
    | refine KpG.bind (ρ := fun r : Int × AG => r.2) ?_ (fun _ => ?_)
    | refine KpG.bind (ρ := fun r : Int × Int × AG => r.2.2) ?_ (fun _ => ?_)
    | refine KpG.bind (ρ := fun r : Int × Int × Int × AG => r.2.2.2) ?_ (fun _ => ?_)
    | refine KpG.int (fun _ => ?_))
def W_X_dock : List Nat := [10003, 99000, 100000, 101000, 102000]
theorem X_dock_fr {x1 : Int} {g : AG} : KpG W_X_dock g Prod.snd (X_dock x1 g) := by
  unfold X_dock
  repeat' (first
    | exact KpG.none
    | exact KpG.ret rfl
    | refine KpG.ite (fun _ => ?_) (fun _ => ?_)
    | refine KpG.up rfl (fun _ => ?_)
    | refine KpG.fill rfl (fun _ => ?_)
    | refine KpG.copy rfl (fun _ => ?_)
    | refine KpG.call (W1 := W_Yard_orderDock) (Yard_orderDock_fr) (by decide +kernel) (fun _ => ?_)
    | exact KpG.tail (W1 := W_Yard_orderDock) (Yard_orderDock_fr) (by decide +kernel)
    | refine KpG.bind (ρ := fun r : AG => r) ?_ (fun _ => ?_)
    | refine KpG.bind (ρ := fun r : Int × AG => r.2) ?_ (fun _ => ?_)
    | refine KpG.bind (ρ := fun r : Int × Int × AG => r.2.2) ?_ (fun _ => ?_)
    | refine KpG.bind (ρ := fun r : Int × Int × Int × AG => r.2.2.2) ?_ (fun _ => ?_)
    | refine KpG.int (fun _ => ?_))
def W_Yard_addJob : List Nat := [10008, 103000]
theorem Yard_addJob_fr {x1 : Int} {g : AG} : KpG W_Yard_addJob g Prod.snd (Yard_addJob x1 g) := by
  unfold Yard_addJob
  repeat' (first
    | exact KpG.none
    | exact KpG.ret rfl
    | refine KpG.ite (fun _ => ?_) (fun _ => ?_)
    | refine KpG.up rfl (fun _ => ?_)
    | refine KpG.fill rfl (fun _ => ?_)
    | refine KpG.copy rfl (fun _ => ?_)
    | refine KpG.bind (ρ := fun r : AG => r) ?_ (fun _ => ?_)
    | refine KpG.bind (ρ := fun r : Int × AG => r.2) ?_ (fun _ => ?_)
    | refine KpG.bind (ρ := fun r : Int × Int × AG => r.2.2) ?_ (fun _ => ?_)
    | refine KpG.bind (ρ := fun r : Int × Int × Int × AG => r.2.2.2) ?_ (fun _ => ?_)
    | refine KpG.int (fun _ => ?_))
def W_X_job : List Nat := [10008, 103000]
theorem X_job_fr {x1 : Int} {g : AG} : KpG W_X_job g Prod.snd (X_job x1 g) := by
  unfold X_job
  repeat' (first
    | exact KpG.none
    | exact KpG.ret rfl
    | refine KpG.ite (fun _ => ?_) (fun _ => ?_)
    | refine KpG.up rfl (fun _ => ?_)
    | refine KpG.fill rfl (fun _ => ?_)
    | refine KpG.copy rfl (fun _ => ?_)
    | refine KpG.call (W1 := W_Yard_addJob) (Yard_addJob_fr) (by decide +kernel) (fun _ => ?_)
    | exact KpG.tail (W1 := W_Yard_addJob) (Yard_addJob_fr) (by decide +kernel)
    | refine KpG.bind (ρ := fun r : AG => r) ?_ (fun _ => ?_)
    | refine KpG.bind (ρ := fun r : Int × AG => r.2) ?_ (fun _ => ?_)
    | refine KpG.bind (ρ := fun r : Int × Int × AG => r.2.2) ?_ (fun _ => ?_)
    | refine KpG.bind (ρ := fun r : Int × Int × Int × AG => r.2.2.2) ?_ (fun _ => ?_)
    | refine KpG.int (fun _ => ?_))
def W_Yard_workInOrder_b : List Nat := [10014, 10015, 104000]
set_option synthInstance.maxHeartbeats 2000000 in
theorem Yard_workInOrder_b_fr {x1 : Int} {tag : Nat} {x2 : Int} {x3 : Int} {x4 : Int} {g : AG} : KpG W_Yard_workInOrder_b g Prod.snd (Yard_workInOrder_b x1 tag x2 x3 x4 g) := by
  refine Yard_workInOrder_b.partial_correctness x1 (fun tag x2 x3 x4 g r => Fr W_Yard_workInOrder_b g r.2) ?_ tag x2 x3 x4 g
  intro fb9 ih tag x2 x3 x4 g
  show KpG W_Yard_workInOrder_b g Prod.snd _
  repeat' (first
    | exact KpG.none
    | exact KpG.ret rfl
    | refine KpG.ite (fun _ => ?_) (fun _ => ?_)
    | refine KpG.up rfl (fun _ => ?_)
    | refine KpG.fill rfl (fun _ => ?_)
    | refine KpG.copy rfl (fun _ => ?_)
    | exact ih _ _ _ _ _
    | refine KpG.bind (ρ := fun r : AG => r) ?_ (fun _ => ?_)
    | refine KpG.bind (ρ := fun r : Int × AG => r.2) ?_ (fun _ => ?_)
    | refine KpG.bind (ρ := fun r : Int × Int × AG => r.2.2) ?_ (fun _ => ?_)
    | refine KpG.bind (ρ := fun r : Int × Int × Int × AG => r.2.2.2) ?_ (fun _ => ?_)
    | refine KpG.int (fun _ => ?_))
def W_Yard_workInOrder : List Nat := [10014, 10015, 104000]
theorem Yard_workInOrder_fr {x1 : Int} {g : AG} : KpG W_Yard_workInOrder g Prod.snd (Yard_workInOrder x1 g) := by
  unfold Yard_workInOrder
  repeat' (first
    | exact KpG.none
    | exact KpG.ret rfl
    | refine KpG.ite (fun _ => ?_) (fun _ => ?_)
    | refine KpG.up rfl (fun _ => ?_)
    | refine KpG.fill rfl (fun _ => ?_)
    | refine KpG.copy rfl (fun _ => ?_)
    | refine KpG.call (W1 := W_Yard_workInOrder_b) (Yard_workInOrder_b_fr) (by decide +kernel) (fun _ => ?_)
    | exact KpG.tail (W1 := W_Yard_workInOrder_b) (Yard_workInOrder_b_fr) (by decide +kernel)
    | refine KpG.bind (ρ := fun r : AG => r) ?_ (fun _ => ?_)
    | refine KpG.bind (ρ := fun r : Int × AG => r.2) ?_ (fun _ => ?_)
    | refine KpG.bind (ρ := fun r : Int × Int × AG => r.2.2) ?_ (fun _ => ?_)
    | refine KpG.bind (ρ := fun r : Int × Int × Int × AG => r.2.2.2) ?_ (fun _ => ?_)
    | refine KpG.int (fun _ => ?_))
def W_Yard_shareNext_b : List Nat := [10013, 104000, 105000, 106000]
set_option synthInstance.maxHeartbeats 2000000 in
theorem Yard_shareNext_b_fr {rec : Int → Int → Int → AG → Option (Int × AG)} {x1 : Int} {x2 : Int} {x3 : Int} {x4 : Int} {g : AG} (hrec : ∀ (a0 a1 a2 : Int) (g : AG), KpG [10013, 104000, 105000, 106000] g Prod.snd (rec a0 a1 a2 g)) : KpG W_Yard_shareNext_b g Prod.snd (Yard_shareNext_b rec x1 x2 x3 x4 g) := by
  refine Yard_shareNext_b.partial_correctness rec x1 x2 x3 (fun x4 g r => Fr W_Yard_shareNext_b g r.2) ?_ x4 g
  intro fb9 ih x4 g
  show KpG W_Yard_shareNext_b g Prod.snd _
  repeat' (first
    | exact KpG.none
    | exact KpG.ret rfl
    | refine KpG.ite (fun _ => ?_) (fun _ => ?_)
    | refine KpG.up rfl (fun _ => ?_)
    | refine KpG.fill rfl (fun _ => ?_)
    | refine KpG.copy rfl (fun _ => ?_)
    | refine KpG.call (W1 := [10013, 104000, 105000, 106000]) (hrec _ _ _ _) (by decide +kernel) (fun _ => ?_)
    | exact KpG.tail (W1 := [10013, 104000, 105000, 106000]) (hrec _ _ _ _) (by decide +kernel)
    | exact ih _ _
    | refine KpG.bind (ρ := fun r : AG => r) ?_ (fun _ => ?_)
    | refine KpG.bind (ρ := fun r : Int × AG => r.2) ?_ (fun _ => ?_)
    | refine KpG.bind (ρ := fun r : Int × Int × AG => r.2.2) ?_ (fun _ => ?_)
    | refine KpG.bind (ρ := fun r : Int × Int × Int × AG => r.2.2.2) ?_ (fun _ => ?_)
    | refine KpG.int (fun _ => ?_))
def W_Yard_shareNext_s : List Nat := [10013, 104000, 105000, 106000]
theorem Yard_shareNext_s_fr {rec : Int → Int → Int → AG → Option (Int × AG)} {x1 : Int} {x2 : Int} {x3 : Int} {g : AG} (hrec : ∀ (a0 a1 a2 : Int) (g : AG), KpG [10013, 104000, 105000, 106000] g Prod.snd (rec a0 a1 a2 g)) : KpG W_Yard_shareNext_s g Prod.snd (Yard_shareNext_s rec x1 x2 x3 g) := by
  unfold Yard_shareNext_s
  repeat' (first
    | exact KpG.none
    | exact KpG.ret rfl
    | refine KpG.ite (fun _ => ?_) (fun _ => ?_)
    | refine KpG.up rfl (fun _ => ?_)
    | refine KpG.fill rfl (fun _ => ?_)
    | refine KpG.copy rfl (fun _ => ?_)
    | refine KpG.call (W1 := W_Yard_shareNext_b) (Yard_shareNext_b_fr hrec) (by decide +kernel) (fun _ => ?_)
    | exact KpG.tail (W1 := W_Yard_shareNext_b) (Yard_shareNext_b_fr hrec) (by decide +kernel)
    | refine KpG.call (W1 := [10013, 104000, 105000, 106000]) (hrec _ _ _ _) (by decide +kernel) (fun _ => ?_)
    | exact KpG.tail (W1 := [10013, 104000, 105000, 106000]) (hrec _ _ _ _) (by decide +kernel)
    | refine KpG.bind (ρ := fun r : AG => r) ?_ (fun _ => ?_)
    | refine KpG.bind (ρ := fun r : Int × AG => r.2) ?_ (fun _ => ?_)
    | refine KpG.bind (ρ := fun r : Int × Int × AG => r.2.2) ?_ (fun _ => ?_)
    | refine KpG.bind (ρ := fun r : Int × Int × Int × AG => r.2.2.2) ?_ (fun _ => ?_)
    | refine KpG.int (fun _ => ?_))
def W_Yard_shareNext : List Nat := [10013, 104000, 105000, 106000]
theorem Yard_shareNext_fr {n : Nat} {x1 x2 x3 : Int} {g : AG} : KpG W_Yard_shareNext g Prod.snd (Yard_shareNext n x1 x2 x3 g) := by
  induction n generalizing x1 x2 x3 g with
  | zero => exact KpG.none
  | succ n ih => exact Yard_shareNext_s_fr (rec := Yard_shareNext n) (fun _ _ _ g => ih)
def W_Yard_shareBest : List Nat := [10013, 104000, 105000, 106000]
theorem Yard_shareBest_fr {x1 : Int} {g : AG} : KpG W_Yard_shareBest g Prod.snd (Yard_shareBest x1 g) := by
  unfold Yard_shareBest
  repeat' (first
    | exact KpG.none
    | exact KpG.ret rfl
    | refine KpG.ite (fun _ => ?_) (fun _ => ?_)
    | refine KpG.up rfl (fun _ => ?_)
    | refine KpG.fill rfl (fun _ => ?_)
    | refine KpG.copy rfl (fun _ => ?_)
    | refine KpG.call (W1 := W_Yard_shareNext) (Yard_shareNext_fr) (by decide +kernel) (fun _ => ?_)
    | exact KpG.tail (W1 := W_Yard_shareNext) (Yard_shareNext_fr) (by decide +kernel)
    | refine KpG.bind (ρ := fun r : AG => r) ?_ (fun _ => ?_)
    | refine KpG.bind (ρ := fun r : Int × AG => r.2) ?_ (fun _ => ?_)
    | refine KpG.bind (ρ := fun r : Int × Int × AG => r.2.2) ?_ (fun _ => ?_)
    | refine KpG.bind (ρ := fun r : Int × Int × Int × AG => r.2.2.2) ?_ (fun _ => ?_)
    | refine KpG.int (fun _ => ?_))
def W_X_turned_b : List Nat := [10013, 10014, 10015, 104000, 105000, 106000]
theorem X_turned_b_fr {tag : Nat} {x1 : Int} {x2 : Int} {g : AG} : KpG W_X_turned_b g Prod.snd (X_turned_b tag x1 x2 g) := by
  unfold X_turned_b
  repeat' (first
    | exact KpG.none
    | exact KpG.ret rfl
    | refine KpG.ite (fun _ => ?_) (fun _ => ?_)
    | refine KpG.up rfl (fun _ => ?_)
    | refine KpG.fill rfl (fun _ => ?_)
    | refine KpG.copy rfl (fun _ => ?_)
    | refine KpG.call (W1 := W_Yard_workInOrder) (Yard_workInOrder_fr) (by decide +kernel) (fun _ => ?_)
    | exact KpG.tail (W1 := W_Yard_workInOrder) (Yard_workInOrder_fr) (by decide +kernel)
    | refine KpG.call (W1 := W_Yard_shareBest) (Yard_shareBest_fr) (by decide +kernel) (fun _ => ?_)
    | exact KpG.tail (W1 := W_Yard_shareBest) (Yard_shareBest_fr) (by decide +kernel)
    | refine KpG.bind (ρ := fun r : AG => r) ?_ (fun _ => ?_)
    | refine KpG.bind (ρ := fun r : Int × AG => r.2) ?_ (fun _ => ?_)
    | refine KpG.bind (ρ := fun r : Int × Int × AG => r.2.2) ?_ (fun _ => ?_)
    | refine KpG.bind (ρ := fun r : Int × Int × Int × AG => r.2.2.2) ?_ (fun _ => ?_)
    | refine KpG.int (fun _ => ?_))
def W_X_turned : List Nat := [10013, 10014, 10015, 104000, 105000, 106000]
theorem X_turned_fr {x1 : Int} {x2 : Int} {g : AG} : KpG W_X_turned g Prod.snd (X_turned x1 x2 g) := by
  unfold X_turned
  repeat' (first
    | exact KpG.none
    | exact KpG.ret rfl
    | refine KpG.ite (fun _ => ?_) (fun _ => ?_)
    | refine KpG.up rfl (fun _ => ?_)
    | refine KpG.fill rfl (fun _ => ?_)
    | refine KpG.copy rfl (fun _ => ?_)
    | refine KpG.call (W1 := W_X_turned_b) (X_turned_b_fr) (by decide +kernel) (fun _ => ?_)
    | exact KpG.tail (W1 := W_X_turned_b) (X_turned_b_fr) (by decide +kernel)
    | refine KpG.bind (ρ := fun r : AG => r) ?_ (fun _ => ?_)
    | refine KpG.bind (ρ := fun r : Int × AG => r.2) ?_ (fun _ => ?_)
    | refine KpG.bind (ρ := fun r : Int × Int × AG => r.2.2) ?_ (fun _ => ?_)
    | refine KpG.bind (ρ := fun r : Int × Int × Int × AG => r.2.2.2) ?_ (fun _ => ?_)
    | refine KpG.int (fun _ => ?_))
def W_X_weight : List Nat := [107000]
theorem X_weight_fr {x1 : Int} {x2 : Int} {g : AG} : KpG W_X_weight g Prod.snd (X_weight x1 x2 g) := by
  unfold X_weight
  repeat' (first
    | exact KpG.none
    | exact KpG.ret rfl
    | refine KpG.ite (fun _ => ?_) (fun _ => ?_)
    | refine KpG.up rfl (fun _ => ?_)
    | refine KpG.fill rfl (fun _ => ?_)
    | refine KpG.copy rfl (fun _ => ?_)
    | refine KpG.bind (ρ := fun r : AG => r) ?_ (fun _ => ?_)
    | refine KpG.bind (ρ := fun r : Int × AG => r.2) ?_ (fun _ => ?_)
    | refine KpG.bind (ρ := fun r : Int × Int × AG => r.2.2) ?_ (fun _ => ?_)
    | refine KpG.bind (ρ := fun r : Int × Int × Int × AG => r.2.2.2) ?_ (fun _ => ?_)
    | refine KpG.int (fun _ => ?_))
def W_Vans_measure_b : List Nat := [108000]
set_option synthInstance.maxHeartbeats 2000000 in
theorem Vans_measure_b_fr {x1 : Int} {g : AG} : KpG W_Vans_measure_b g Prod.snd (Vans_measure_b x1 g) := by
  refine Vans_measure_b.partial_correctness (fun x1 g r => Fr W_Vans_measure_b g r.2) ?_ x1 g
  intro fb9 ih x1 g
  show KpG W_Vans_measure_b g Prod.snd _
  repeat' (first
    | exact KpG.none
    | exact KpG.ret rfl
    | refine KpG.ite (fun _ => ?_) (fun _ => ?_)
    | refine KpG.up rfl (fun _ => ?_)
    | refine KpG.fill rfl (fun _ => ?_)
    | refine KpG.copy rfl (fun _ => ?_)
    | exact ih _ _
    | refine KpG.bind (ρ := fun r : AG => r) ?_ (fun _ => ?_)
    | refine KpG.bind (ρ := fun r : Int × AG => r.2) ?_ (fun _ => ?_)
    | refine KpG.bind (ρ := fun r : Int × Int × AG => r.2.2) ?_ (fun _ => ?_)
    | refine KpG.bind (ρ := fun r : Int × Int × Int × AG => r.2.2.2) ?_ (fun _ => ?_)
    | refine KpG.int (fun _ => ?_))
def W_Vans_measure : List Nat := [108000]
theorem Vans_measure_fr {g : AG} : KpG W_Vans_measure g Prod.snd (Vans_measure g) := by
  unfold Vans_measure
  repeat' (first
    | exact KpG.none
    | exact KpG.ret rfl
    | refine KpG.ite (fun _ => ?_) (fun _ => ?_)
    | refine KpG.up rfl (fun _ => ?_)
    | refine KpG.fill rfl (fun _ => ?_)
    | refine KpG.copy rfl (fun _ => ?_)
    | refine KpG.call (W1 := W_Vans_measure_b) (Vans_measure_b_fr) (by decide +kernel) (fun _ => ?_)
    | exact KpG.tail (W1 := W_Vans_measure_b) (Vans_measure_b_fr) (by decide +kernel)
    | refine KpG.bind (ρ := fun r : AG => r) ?_ (fun _ => ?_)
    | refine KpG.bind (ρ := fun r : Int × AG => r.2) ?_ (fun _ => ?_)
    | refine KpG.bind (ρ := fun r : Int × Int × AG => r.2.2) ?_ (fun _ => ?_)
    | refine KpG.bind (ρ := fun r : Int × Int × Int × AG => r.2.2.2) ?_ (fun _ => ?_)
    | refine KpG.int (fun _ => ?_))
def W_X_van : List Nat := [108000]
theorem X_van_fr {x1 : Int} {g : AG} : KpG W_X_van g Prod.snd (X_van x1 g) := by
  unfold X_van
  repeat' (first
    | exact KpG.none
    | exact KpG.ret rfl
    | refine KpG.ite (fun _ => ?_) (fun _ => ?_)
    | refine KpG.up rfl (fun _ => ?_)
    | refine KpG.fill rfl (fun _ => ?_)
    | refine KpG.copy rfl (fun _ => ?_)
    | refine KpG.call (W1 := W_Vans_measure) (Vans_measure_fr) (by decide +kernel) (fun _ => ?_)
    | exact KpG.tail (W1 := W_Vans_measure) (Vans_measure_fr) (by decide +kernel)
    | refine KpG.bind (ρ := fun r : AG => r) ?_ (fun _ => ?_)
    | refine KpG.bind (ρ := fun r : Int × AG => r.2) ?_ (fun _ => ?_)
    | refine KpG.bind (ρ := fun r : Int × Int × AG => r.2.2) ?_ (fun _ => ?_)
    | refine KpG.bind (ρ := fun r : Int × Int × Int × AG => r.2.2.2) ?_ (fun _ => ?_)
    | refine KpG.int (fun _ => ?_))
def W_Vans_findCouple_b : List Nat := [11004, 11005]
set_option synthInstance.maxHeartbeats 2000000 in
theorem Vans_findCouple_b_fr {tag : Nat} {x1 : Int} {x2 : Int} {g : AG} : KpG W_Vans_findCouple_b g Prod.snd (Vans_findCouple_b tag x1 x2 g) := by
  refine Vans_findCouple_b.partial_correctness (fun tag x1 x2 g r => Fr W_Vans_findCouple_b g r.2) ?_ tag x1 x2 g
  intro fb9 ih tag x1 x2 g
  show KpG W_Vans_findCouple_b g Prod.snd _
  repeat' (first
    | exact KpG.none
    | exact KpG.ret rfl
    | refine KpG.ite (fun _ => ?_) (fun _ => ?_)
    | refine KpG.up rfl (fun _ => ?_)
    | refine KpG.fill rfl (fun _ => ?_)
    | refine KpG.copy rfl (fun _ => ?_)
    | exact ih _ _ _ _
    | refine KpG.bind (ρ := fun r : AG => r) ?_ (fun _ => ?_)
    | refine KpG.bind (ρ := fun r : Int × AG => r.2) ?_ (fun _ => ?_)
    | refine KpG.bind (ρ := fun r : Int × Int × AG => r.2.2) ?_ (fun _ => ?_)
    | refine KpG.bind (ρ := fun r : Int × Int × Int × AG => r.2.2.2) ?_ (fun _ => ?_)
    | refine KpG.int (fun _ => ?_))
def W_Vans_findCouple : List Nat := [11004, 11005]
theorem Vans_findCouple_fr {g : AG} : KpG W_Vans_findCouple g Prod.snd (Vans_findCouple g) := by
  unfold Vans_findCouple
  repeat' (first
    | exact KpG.none
    | exact KpG.ret rfl
    | refine KpG.ite (fun _ => ?_) (fun _ => ?_)
    | refine KpG.up rfl (fun _ => ?_)
    | refine KpG.fill rfl (fun _ => ?_)
    | refine KpG.copy rfl (fun _ => ?_)
    | refine KpG.call (W1 := W_Vans_findCouple_b) (Vans_findCouple_b_fr) (by decide +kernel) (fun _ => ?_)
    | exact KpG.tail (W1 := W_Vans_findCouple_b) (Vans_findCouple_b_fr) (by decide +kernel)
    | refine KpG.bind (ρ := fun r : AG => r) ?_ (fun _ => ?_)
    | refine KpG.bind (ρ := fun r : Int × AG => r.2) ?_ (fun _ => ?_)
    | refine KpG.bind (ρ := fun r : Int × Int × AG => r.2.2) ?_ (fun _ => ?_)
    | refine KpG.bind (ρ := fun r : Int × Int × Int × AG => r.2.2.2) ?_ (fun _ => ?_)
    | refine KpG.int (fun _ => ?_))
def W_X_vans : List Nat := [11004, 11005, 108000]
theorem X_vans_fr {x1 : Int} {g : AG} : KpG W_X_vans g Prod.snd (X_vans x1 g) := by
  unfold X_vans
  repeat' (first
    | exact KpG.none
    | exact KpG.ret rfl
    | refine KpG.ite (fun _ => ?_) (fun _ => ?_)
    | refine KpG.up rfl (fun _ => ?_)
    | refine KpG.fill rfl (fun _ => ?_)
    | refine KpG.copy rfl (fun _ => ?_)
    | refine KpG.call (W1 := W_Vans_measure) (Vans_measure_fr) (by decide +kernel) (fun _ => ?_)
    | exact KpG.tail (W1 := W_Vans_measure) (Vans_measure_fr) (by decide +kernel)
    | refine KpG.call (W1 := W_Vans_findCouple) (Vans_findCouple_fr) (by decide +kernel) (fun _ => ?_)
    | exact KpG.tail (W1 := W_Vans_findCouple) (Vans_findCouple_fr) (by decide +kernel)
    | refine KpG.bind (ρ := fun r : AG => r) ?_ (fun _ => ?_)
    | refine KpG.bind (ρ := fun r : Int × AG => r.2) ?_ (fun _ => ?_)
    | refine KpG.bind (ρ := fun r : Int × Int × AG => r.2.2) ?_ (fun _ => ?_)
    | refine KpG.bind (ρ := fun r : Int × Int × Int × AG => r.2.2.2) ?_ (fun _ => ?_)
    | refine KpG.int (fun _ => ?_))
def W_Vans_addCall_b : List Nat := [11006, 109000, 110000, 111000]
theorem Vans_addCall_b_fr {x1 : Int} {x2 : Int} {x3 : Int} {g : AG} : KpG W_Vans_addCall_b g Prod.snd (Vans_addCall_b x1 x2 x3 g) := by
  unfold Vans_addCall_b
  repeat' (first
    | exact KpG.none
    | exact KpG.ret rfl
    | refine KpG.ite (fun _ => ?_) (fun _ => ?_)
    | refine KpG.up rfl (fun _ => ?_)
    | refine KpG.fill rfl (fun _ => ?_)
    | refine KpG.copy rfl (fun _ => ?_)
    | refine KpG.bind (ρ := fun r : AG => r) ?_ (fun _ => ?_)
    | refine KpG.bind (ρ := fun r : Int × AG => r.2) ?_ (fun _ => ?_)
    | refine KpG.bind (ρ := fun r : Int × Int × AG => r.2.2) ?_ (fun _ => ?_)
    | refine KpG.bind (ρ := fun r : Int × Int × Int × AG => r.2.2.2) ?_ (fun _ => ?_)
    | refine KpG.int (fun _ => ?_))
def W_Vans_addCall : List Nat := [11006, 109000, 110000, 111000]
theorem Vans_addCall_fr {x1 : Int} {x2 : Int} {x3 : Int} {g : AG} : KpG W_Vans_addCall g Prod.snd (Vans_addCall x1 x2 x3 g) := by
  unfold Vans_addCall
  repeat' (first
    | exact KpG.none
    | exact KpG.ret rfl
    | refine KpG.ite (fun _ => ?_) (fun _ => ?_)
    | refine KpG.up rfl (fun _ => ?_)
    | refine KpG.fill rfl (fun _ => ?_)
    | refine KpG.copy rfl (fun _ => ?_)
    | refine KpG.call (W1 := W_Vans_addCall_b) (Vans_addCall_b_fr) (by decide +kernel) (fun _ => ?_)
    | exact KpG.tail (W1 := W_Vans_addCall_b) (Vans_addCall_b_fr) (by decide +kernel)
    | refine KpG.bind (ρ := fun r : AG => r) ?_ (fun _ => ?_)
    | refine KpG.bind (ρ := fun r : Int × AG => r.2) ?_ (fun _ => ?_)
    | refine KpG.bind (ρ := fun r : Int × Int × AG => r.2.2) ?_ (fun _ => ?_)
    | refine KpG.bind (ρ := fun r : Int × Int × Int × AG => r.2.2.2) ?_ (fun _ => ?_)
    | refine KpG.int (fun _ => ?_))
def W_X_call : List Nat := [11006, 109000, 110000, 111000]
theorem X_call_fr {x1 : Int} {x2 : Int} {x3 : Int} {g : AG} : KpG W_X_call g Prod.snd (X_call x1 x2 x3 g) := by
  unfold X_call
  repeat' (first
    | exact KpG.none
    | exact KpG.ret rfl
    | refine KpG.ite (fun _ => ?_) (fun _ => ?_)
    | refine KpG.up rfl (fun _ => ?_)
    | refine KpG.fill rfl (fun _ => ?_)
    | refine KpG.copy rfl (fun _ => ?_)
    | refine KpG.call (W1 := W_Vans_addCall) (Vans_addCall_fr) (by decide +kernel) (fun _ => ?_)
    | exact KpG.tail (W1 := W_Vans_addCall) (Vans_addCall_fr) (by decide +kernel)
    | refine KpG.bind (ρ := fun r : AG => r) ?_ (fun _ => ?_)
    | refine KpG.bind (ρ := fun r : Int × AG => r.2) ?_ (fun _ => ?_)
    | refine KpG.bind (ρ := fun r : Int × Int × AG => r.2.2) ?_ (fun _ => ?_)
    | refine KpG.bind (ρ := fun r : Int × Int × Int × AG => r.2.2.2) ?_ (fun _ => ?_)
    | refine KpG.int (fun _ => ?_))
def W_Vans_takeCalls_b : List Nat := [11013, 11014, 11015, 112000, 113000, 114000]
set_option synthInstance.maxHeartbeats 2000000 in
theorem Vans_takeCalls_b_fr {x3 : Int} {g : AG} : KpG W_Vans_takeCalls_b g Prod.snd (Vans_takeCalls_b x3 g) := by
  refine Vans_takeCalls_b.partial_correctness (fun x3 g r => Fr W_Vans_takeCalls_b g r.2) ?_ x3 g
  intro fb9 ih x3 g
  show KpG W_Vans_takeCalls_b g Prod.snd _
  repeat' (first
    | exact KpG.none
    | exact KpG.ret rfl
    | refine KpG.ite (fun _ => ?_) (fun _ => ?_)
    | refine KpG.up rfl (fun _ => ?_)
    | refine KpG.fill rfl (fun _ => ?_)
    | refine KpG.copy rfl (fun _ => ?_)
    | exact ih _ _
    | refine KpG.bind (ρ := fun r : AG => r) ?_ (fun _ => ?_)
    | refine KpG.bind (ρ := fun r : Int × AG => r.2) ?_ (fun _ => ?_)
    | refine KpG.bind (ρ := fun r : Int × Int × AG => r.2.2) ?_ (fun _ => ?_)
    | refine KpG.bind (ρ := fun r : Int × Int × Int × AG => r.2.2.2) ?_ (fun _ => ?_)
    | refine KpG.int (fun _ => ?_))
def W_Vans_takeCalls : List Nat := [11013, 11014, 11015, 112000, 113000, 114000]
theorem Vans_takeCalls_fr {x1 : Int} {x2 : Int} {g : AG} : KpG W_Vans_takeCalls g Prod.snd (Vans_takeCalls x1 x2 g) := by
  unfold Vans_takeCalls
  repeat' (first
    | exact KpG.none
    | exact KpG.ret rfl
    | refine KpG.ite (fun _ => ?_) (fun _ => ?_)
    | refine KpG.up rfl (fun _ => ?_)
    | refine KpG.fill rfl (fun _ => ?_)
    | refine KpG.copy rfl (fun _ => ?_)
    | refine KpG.call (W1 := W_Vans_takeCalls_b) (Vans_takeCalls_b_fr) (by decide +kernel) (fun _ => ?_)
    | exact KpG.tail (W1 := W_Vans_takeCalls_b) (Vans_takeCalls_b_fr) (by decide +kernel)
    | refine KpG.bind (ρ := fun r : AG => r) ?_ (fun _ => ?_)
    | refine KpG.bind (ρ := fun r : Int × AG => r.2) ?_ (fun _ => ?_)
    | refine KpG.bind (ρ := fun r : Int × Int × AG => r.2.2) ?_ (fun _ => ?_)
    | refine KpG.bind (ρ := fun r : Int × Int × Int × AG => r.2.2.2) ?_ (fun _ => ?_)
    | refine KpG.int (fun _ => ?_))
def W_X_taken : List Nat := [11013, 11014, 11015, 108000, 112000, 113000, 114000]
theorem X_taken_fr {x1 : Int} {x2 : Int} {x3 : Int} {g : AG} : KpG W_X_taken g Prod.snd (X_taken x1 x2 x3 g) := by
  unfold X_taken
  repeat' (first
    | exact KpG.none
    | exact KpG.ret rfl
    | refine KpG.ite (fun _ => ?_) (fun _ => ?_)
    | refine KpG.up rfl (fun _ => ?_)
    | refine KpG.fill rfl (fun _ => ?_)
    | refine KpG.copy rfl (fun _ => ?_)
    | refine KpG.call (W1 := W_Vans_measure) (Vans_measure_fr) (by decide +kernel) (fun _ => ?_)
    | exact KpG.tail (W1 := W_Vans_measure) (Vans_measure_fr) (by decide +kernel)
    | refine KpG.call (W1 := W_Vans_takeCalls) (Vans_takeCalls_fr) (by decide +kernel) (fun _ => ?_)
    | exact KpG.tail (W1 := W_Vans_takeCalls) (Vans_takeCalls_fr) (by decide +kernel)
    | refine KpG.bind (ρ := fun r : AG => r) ?_ (fun _ => ?_)
    | refine KpG.bind (ρ := fun r : Int × AG => r.2) ?_ (fun _ => ?_)
    | refine KpG.bind (ρ := fun r : Int × Int × AG => r.2.2) ?_ (fun _ => ?_)
    | refine KpG.bind (ρ := fun r : Int × Int × Int × AG => r.2.2.2) ?_ (fun _ => ?_)
    | refine KpG.int (fun _ => ?_))
def W_Rain_start : List Nat := [12003, 115000, 116000]
theorem Rain_start_fr {x1 : Int} {x2 : Int} {g : AG} : KpG W_Rain_start g Prod.snd (Rain_start x1 x2 g) := by
  unfold Rain_start
  repeat' (first
    | exact KpG.none
    | exact KpG.ret rfl
    | refine KpG.ite (fun _ => ?_) (fun _ => ?_)
    | refine KpG.up rfl (fun _ => ?_)
    | refine KpG.fill rfl (fun _ => ?_)
    | refine KpG.copy rfl (fun _ => ?_)
    | refine KpG.upM (by assumption) rfl rfl (fun _ => ?_)
    | refine KpG.fillM (by assumption) rfl rfl (fun _ => ?_)
    | refine KpG.upR (b := 53) (by assumption) (by decide) (fun _ => ?_)
    | refine KpG.upR (b := 64) (by assumption) (by decide) (fun _ => ?_)
    | refine KpG.bind (ρ := fun r : AG => r) ?_ (fun _ => ?_)
    | refine KpG.bind (ρ := fun r : Int × AG => r.2) ?_ (fun _ => ?_)
    | refine KpG.bind (ρ := fun r : Int × Int × AG => r.2.2) ?_ (fun _ => ?_)
    | refine KpG.bind (ρ := fun r : Int × Int × Int × AG => r.2.2.2) ?_ (fun _ => ?_)
    | refine KpG.int (fun _ => ?_))
def W_Rain_passDay_b : List Nat := [12001, 12002, 12003, 115000, 116000]
set_option synthInstance.maxHeartbeats 2000000 in
theorem Rain_passDay_b_fr {x1 : Int} {x2 : Int} {x3 : Int} {x4 : Int} {tag : Nat} {x5 : Int} {g : AG} : KpG W_Rain_passDay_b g Prod.snd (Rain_passDay_b x1 x2 x3 x4 tag x5 g) := by
  refine Rain_passDay_b.partial_correctness x1 x2 x3 x4 (fun tag x5 g r => Fr W_Rain_passDay_b g r.2) ?_ tag x5 g
  intro fb9 ih tag x5 g
  show KpG W_Rain_passDay_b g Prod.snd _
  repeat' (first
    | exact KpG.none
    | exact KpG.ret rfl
    | refine KpG.ite (fun _ => ?_) (fun _ => ?_)
    | refine KpG.up rfl (fun _ => ?_)
    | refine KpG.fill rfl (fun _ => ?_)
    | refine KpG.copy rfl (fun _ => ?_)
    | refine KpG.upM (by assumption) rfl rfl (fun _ => ?_)
    | refine KpG.fillM (by assumption) rfl rfl (fun _ => ?_)
    | refine KpG.upR (b := 53) (by assumption) (by decide) (fun _ => ?_)
    | refine KpG.upR (b := 64) (by assumption) (by decide) (fun _ => ?_)
    | exact ih _ _ _
    | refine KpG.bind (ρ := fun r : AG => r) ?_ (fun _ => ?_)
    | refine KpG.bind (ρ := fun r : Int × AG => r.2) ?_ (fun _ => ?_)
    | refine KpG.bind (ρ := fun r : Int × Int × AG => r.2.2) ?_ (fun _ => ?_)
    | refine KpG.bind (ρ := fun r : Int × Int × Int × AG => r.2.2.2) ?_ (fun _ => ?_)
    | refine KpG.int (fun _ => ?_))
def W_Rain_passDay : List Nat := [12001, 12002, 12003, 115000, 116000]
theorem Rain_passDay_fr {x1 : Int} {x2 : Int} {x3 : Int} {x4 : Int} {g : AG} : KpG W_Rain_passDay g Prod.snd (Rain_passDay x1 x2 x3 x4 g) := by
  unfold Rain_passDay
  repeat' (first
    | exact KpG.none
    | exact KpG.ret rfl
    | refine KpG.ite (fun _ => ?_) (fun _ => ?_)
    | refine KpG.up rfl (fun _ => ?_)
    | refine KpG.fill rfl (fun _ => ?_)
    | refine KpG.copy rfl (fun _ => ?_)
    | refine KpG.call (W1 := W_Rain_passDay_b) (Rain_passDay_b_fr) (by decide +kernel) (fun _ => ?_)
    | exact KpG.tail (W1 := W_Rain_passDay_b) (Rain_passDay_b_fr) (by decide +kernel)
    | refine KpG.upM (by assumption) rfl rfl (fun _ => ?_)
    | refine KpG.fillM (by assumption) rfl rfl (fun _ => ?_)
    | refine KpG.upR (b := 53) (by assumption) (by decide) (fun _ => ?_)
    | refine KpG.upR (b := 64) (by assumption) (by decide) (fun _ => ?_)
    | refine KpG.bind (ρ := fun r : AG => r) ?_ (fun _ => ?_)
    | refine KpG.bind (ρ := fun r : Int × AG => r.2) ?_ (fun _ => ?_)
    | refine KpG.bind (ρ := fun r : Int × Int × AG => r.2.2) ?_ (fun _ => ?_)
    | refine KpG.bind (ρ := fun r : Int × Int × Int × AG => r.2.2.2) ?_ (fun _ => ?_)
    | refine KpG.int (fun _ => ?_))
def W_X_left_b : List Nat := [12001, 12002, 12003, 115000, 116000]
set_option synthInstance.maxHeartbeats 2000000 in
theorem X_left_b_fr {x1 : Int} {x2 : Int} {x3 : Int} {x4 : Int} {x5 : Int} {x6 : Int} {g : AG} : KpG W_X_left_b g Prod.snd (X_left_b x1 x2 x3 x4 x5 x6 g) := by
  refine X_left_b.partial_correctness x1 x2 x3 x4 x5 (fun x6 g r => Fr W_X_left_b g r.2) ?_ x6 g
  intro fb9 ih x6 g
  show KpG W_X_left_b g Prod.snd _
  repeat' (first
    | exact KpG.none
    | exact KpG.ret rfl
    | refine KpG.ite (fun _ => ?_) (fun _ => ?_)
    | refine KpG.up rfl (fun _ => ?_)
    | refine KpG.fill rfl (fun _ => ?_)
    | refine KpG.copy rfl (fun _ => ?_)
    | refine KpG.call (W1 := W_Rain_passDay) (Rain_passDay_fr) (by decide +kernel) (fun _ => ?_)
    | exact KpG.tail (W1 := W_Rain_passDay) (Rain_passDay_fr) (by decide +kernel)
    | exact ih _ _
    | refine KpG.bind (ρ := fun r : AG => r) ?_ (fun _ => ?_)
    | refine KpG.bind (ρ := fun r : Int × AG => r.2) ?_ (fun _ => ?_)
    | refine KpG.bind (ρ := fun r : Int × Int × AG => r.2.2) ?_ (fun _ => ?_)
    | refine KpG.bind (ρ := fun r : Int × Int × Int × AG => r.2.2.2) ?_ (fun _ => ?_)
    | refine KpG.int (fun _ => ?_))
def W_X_left : List Nat := [12001, 12002, 12003, 115000, 116000]
theorem X_left_fr {x1 : Int} {x2 : Int} {x3 : Int} {x4 : Int} {x5 : Int} {g : AG} : KpG W_X_left g Prod.snd (X_left x1 x2 x3 x4 x5 g) := by
  unfold X_left
  repeat' (first
    | exact KpG.none
    | exact KpG.ret rfl
    | refine KpG.ite (fun _ => ?_) (fun _ => ?_)
    | refine KpG.up rfl (fun _ => ?_)
    | refine KpG.fill rfl (fun _ => ?_)
    | refine KpG.copy rfl (fun _ => ?_)
    | refine KpG.call (W1 := W_Rain_start) (Rain_start_fr) (by decide +kernel) (fun _ => ?_)
    | exact KpG.tail (W1 := W_Rain_start) (Rain_start_fr) (by decide +kernel)
    | refine KpG.call (W1 := W_X_left_b) (X_left_b_fr) (by decide +kernel) (fun _ => ?_)
    | exact KpG.tail (W1 := W_X_left_b) (X_left_b_fr) (by decide +kernel)
    | refine KpG.bind (ρ := fun r : AG => r) ?_ (fun _ => ?_)
    | refine KpG.bind (ρ := fun r : Int × AG => r.2) ?_ (fun _ => ?_)
    | refine KpG.bind (ρ := fun r : Int × Int × AG => r.2.2) ?_ (fun _ => ?_)
    | refine KpG.bind (ρ := fun r : Int × Int × Int × AG => r.2.2.2) ?_ (fun _ => ?_)
    | refine KpG.int (fun _ => ?_))
def W_X_shuts_b : List Nat := [12001, 12002, 12003, 115000, 116000]
set_option synthInstance.maxHeartbeats 2000000 in
theorem X_shuts_b_fr {x1 : Int} {x2 : Int} {x3 : Int} {x4 : Int} {x5 : Int} {g : AG} : KpG W_X_shuts_b g Prod.snd (X_shuts_b x1 x2 x3 x4 x5 g) := by
  refine X_shuts_b.partial_correctness x1 x2 x3 x4 (fun x5 g r => Fr W_X_shuts_b g r.2) ?_ x5 g
  intro fb9 ih x5 g
  show KpG W_X_shuts_b g Prod.snd _
  repeat' (first
    | exact KpG.none
    | exact KpG.ret rfl
    | refine KpG.ite (fun _ => ?_) (fun _ => ?_)
    | refine KpG.up rfl (fun _ => ?_)
    | refine KpG.fill rfl (fun _ => ?_)
    | refine KpG.copy rfl (fun _ => ?_)
    | refine KpG.call (W1 := W_Rain_passDay) (Rain_passDay_fr) (by decide +kernel) (fun _ => ?_)
    | exact KpG.tail (W1 := W_Rain_passDay) (Rain_passDay_fr) (by decide +kernel)
    | exact ih _ _
    | refine KpG.bind (ρ := fun r : AG => r) ?_ (fun _ => ?_)
    | refine KpG.bind (ρ := fun r : Int × AG => r.2) ?_ (fun _ => ?_)
    | refine KpG.bind (ρ := fun r : Int × Int × AG => r.2.2) ?_ (fun _ => ?_)
    | refine KpG.bind (ρ := fun r : Int × Int × Int × AG => r.2.2.2) ?_ (fun _ => ?_)
    | refine KpG.int (fun _ => ?_))
def W_X_shuts : List Nat := [12001, 12002, 12003, 115000, 116000]
theorem X_shuts_fr {x1 : Int} {x2 : Int} {x3 : Int} {x4 : Int} {g : AG} : KpG W_X_shuts g Prod.snd (X_shuts x1 x2 x3 x4 g) := by
  unfold X_shuts
  repeat' (first
    | exact KpG.none
    | exact KpG.ret rfl
    | refine KpG.ite (fun _ => ?_) (fun _ => ?_)
    | refine KpG.up rfl (fun _ => ?_)
    | refine KpG.fill rfl (fun _ => ?_)
    | refine KpG.copy rfl (fun _ => ?_)
    | refine KpG.call (W1 := W_Rain_start) (Rain_start_fr) (by decide +kernel) (fun _ => ?_)
    | exact KpG.tail (W1 := W_Rain_start) (Rain_start_fr) (by decide +kernel)
    | refine KpG.call (W1 := W_X_shuts_b) (X_shuts_b_fr) (by decide +kernel) (fun _ => ?_)
    | exact KpG.tail (W1 := W_X_shuts_b) (X_shuts_b_fr) (by decide +kernel)
    | refine KpG.bind (ρ := fun r : AG => r) ?_ (fun _ => ?_)
    | refine KpG.bind (ρ := fun r : Int × AG => r.2) ?_ (fun _ => ?_)
    | refine KpG.bind (ρ := fun r : Int × Int × AG => r.2.2) ?_ (fun _ => ?_)
    | refine KpG.bind (ρ := fun r : Int × Int × Int × AG => r.2.2.2) ?_ (fun _ => ?_)
    | refine KpG.int (fun _ => ?_))
def W_X_price : List Nat := [27000, 28000]
theorem X_price_fr {x1 : Int} {x2 : Int} {x3 : Int} {g : AG} : KpG W_X_price g Prod.snd (X_price x1 x2 x3 g) := by
  unfold X_price
  repeat' (first
    | exact KpG.none
    | exact KpG.ret rfl
    | refine KpG.ite (fun _ => ?_) (fun _ => ?_)
    | refine KpG.up rfl (fun _ => ?_)
    | refine KpG.fill rfl (fun _ => ?_)
    | refine KpG.copy rfl (fun _ => ?_)
    | refine KpG.call (W1 := W_Boats_priceLine) (Boats_priceLine_fr) (by decide +kernel) (fun _ => ?_)
    | exact KpG.tail (W1 := W_Boats_priceLine) (Boats_priceLine_fr) (by decide +kernel)
    | refine KpG.call (W1 := W_Rules_valueOf) (Rules_valueOf_fr) (by decide +kernel) (fun _ => ?_)
    | exact KpG.tail (W1 := W_Rules_valueOf) (Rules_valueOf_fr) (by decide +kernel)
    | refine KpG.bind (ρ := fun r : AG => r) ?_ (fun _ => ?_)
    | refine KpG.bind (ρ := fun r : Int × AG => r.2) ?_ (fun _ => ?_)
    | refine KpG.bind (ρ := fun r : Int × Int × AG => r.2.2) ?_ (fun _ => ?_)
    | refine KpG.bind (ρ := fun r : Int × Int × Int × AG => r.2.2.2) ?_ (fun _ => ?_)
    | refine KpG.int (fun _ => ?_))
def W_Boats_holdLine : List Nat := [27000, 28000]
theorem Boats_holdLine_fr {x1 : Int} {x2 : Int} {x3 : Int} {x4 : Int} {g : AG} : KpG W_Boats_holdLine g Prod.snd (Boats_holdLine x1 x2 x3 x4 g) := by
  unfold Boats_holdLine
  repeat' (first
    | exact KpG.none
    | exact KpG.ret rfl
    | refine KpG.ite (fun _ => ?_) (fun _ => ?_)
    | refine KpG.up rfl (fun _ => ?_)
    | refine KpG.fill rfl (fun _ => ?_)
    | refine KpG.copy rfl (fun _ => ?_)
    | refine KpG.call (W1 := W_Rules_askWeek) (Rules_askWeek_fr) (by decide +kernel) (fun _ => ?_)
    | exact KpG.tail (W1 := W_Rules_askWeek) (Rules_askWeek_fr) (by decide +kernel)
    | refine KpG.call (W1 := W_Rules_serving) (Rules_serving_fr) (by decide +kernel) (fun _ => ?_)
    | exact KpG.tail (W1 := W_Rules_serving) (Rules_serving_fr) (by decide +kernel)
    | refine KpG.bind (ρ := fun r : AG => r) ?_ (fun _ => ?_)
    | refine KpG.bind (ρ := fun r : Int × AG => r.2) ?_ (fun _ => ?_)
    | refine KpG.bind (ρ := fun r : Int × Int × AG => r.2.2) ?_ (fun _ => ?_)
    | refine KpG.bind (ρ := fun r : Int × Int × Int × AG => r.2.2.2) ?_ (fun _ => ?_)
    | refine KpG.int (fun _ => ?_))
def W_X_held : List Nat := [27000, 28000]
theorem X_held_fr {x1 : Int} {x2 : Int} {x3 : Int} {x4 : Int} {g : AG} : KpG W_X_held g Prod.snd (X_held x1 x2 x3 x4 g) := by
  unfold X_held
  repeat' (first
    | exact KpG.none
    | exact KpG.ret rfl
    | refine KpG.ite (fun _ => ?_) (fun _ => ?_)
    | refine KpG.up rfl (fun _ => ?_)
    | refine KpG.fill rfl (fun _ => ?_)
    | refine KpG.copy rfl (fun _ => ?_)
    | refine KpG.call (W1 := W_Boats_holdLine) (Boats_holdLine_fr) (by decide +kernel) (fun _ => ?_)
    | exact KpG.tail (W1 := W_Boats_holdLine) (Boats_holdLine_fr) (by decide +kernel)
    | refine KpG.call (W1 := W_Rules_valueOf) (Rules_valueOf_fr) (by decide +kernel) (fun _ => ?_)
    | exact KpG.tail (W1 := W_Rules_valueOf) (Rules_valueOf_fr) (by decide +kernel)
    | refine KpG.bind (ρ := fun r : AG => r) ?_ (fun _ => ?_)
    | refine KpG.bind (ρ := fun r : Int × AG => r.2) ?_ (fun _ => ?_)
    | refine KpG.bind (ρ := fun r : Int × Int × AG => r.2.2) ?_ (fun _ => ?_)
    | refine KpG.bind (ρ := fun r : Int × Int × Int × AG => r.2.2.2) ?_ (fun _ => ?_)
    | refine KpG.int (fun _ => ?_))
