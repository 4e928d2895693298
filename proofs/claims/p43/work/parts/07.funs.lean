def Integer_bitCount (x0 : Int) (g : AG) : Option Int :=
  (some ((andI (x0 - (andI (ushrI x0 1) 1431655765)) 858993459) + (andI (ushrI (x0 - (andI (ushrI x0 1) 1431655765)) 2) 858993459)) >>= fun (t1 : Int) => (some ((andI (t1 + (ushrI t1 4)) 252645135) + (ushrI (andI (t1 + (ushrI t1 4)) 252645135) 8)) >>= fun (t3 : Int) => some (andI (t3 + (ushrI t3 16)) 63)))
def M_isIn (x0 : Int) (x1 : Int) (x2 : Int) : Int :=
  (if nw x0 < nw x1 then 0 else (if nw x2 < nw x0 then 0 else 1))
theorem M_isIn_01 {x0 : Int} {x1 : Int} {x2 : Int} : (M_isIn x0 x1 x2) = 0 ∨ (M_isIn x0 x1 x2) = 1 := by
  unfold M_isIn
  (repeat' split) <;> first | exact Or.inl rfl | exact Or.inr rfl
def M_stretch (x1 : Int) (x2 : Int) (x3 : Int) (x4 : Int) (g : AG) : Option (Int × AG) :=
  (if nw (M_isIn x1 0 14) = 0 then some (0, g) else (if nw (M_isIn x2 0 9) = 0 then some (0, g) else (if nw (M_isIn x3 0 9) = 0 then some (0, g) else (if nw (M_isIn x4 1 99) = 0 then some (0, g) else if 0 ≤ nw x1 ∧ nw x1 < 15 then (some (up g 118 (ix x1) x2) >>= fun (g6 : AG) => (some (up g6 119 (ix x1) x3) >>= fun (g8 : AG) => (some (up g8 120 (ix x1) x4) >>= fun (g10 : AG) => some (1, g10)))) else none))))
def M_water (x1 : Int) (g : AG) : Option (Int × AG) :=
  (if nw (M_isIn x1 0 999) = 0 then some (0, g) else (some (up g 117 10 x1) >>= fun (g2 : AG) => some (1, g2)))
def M_stoppage (x1 : Int) (x2 : Int) (x3 : Int) (g : AG) : Option (Int × AG) :=
  (if nw x1 = (-1) then (some (up g 117 11 0) >>= fun (g17 : AG) => some (0, g17)) else (if nw (M_isIn x1 0 14) = 0 then some ((-1), g) else (if nw (M_isIn x2 0 13) = 0 then some ((-1), g) else (if nw (M_isIn x3 x2 13) = 0 then some ((-1), g) else (if nw (g 117 11) = 8 then some ((-1), g) else if 0 ≤ nw (g 117 11) ∧ nw (g 117 11) < 8 then (some (up g 121 (ix (g 117 11)) x1) >>= fun (g7 : AG) => if 0 ≤ nw (g7 117 11) ∧ nw (g7 117 11) < 8 then (some (up g7 122 (ix (g7 117 11)) x2) >>= fun (g10 : AG) => if 0 ≤ nw (g10 117 11) ∧ nw (g10 117 11) < 8 then (some (up g10 123 (ix (g10 117 11)) x3) >>= fun (g13 : AG) => (some (up g13 117 11 ((g13 117 11) + 1)) >>= fun (g15 : AG) => some ((g15 117 11), g15))) else none) else none) else none)))))
def M_isPoint (x0 : Int) : Int :=
  (M_isIn x0 0 15)
theorem M_isPoint_01 {x0 : Int} : (M_isPoint x0) = 0 ∨ (M_isPoint x0) = 1 := by
  unfold M_isPoint
  (repeat' split) <;> first | exact Or.inl rfl | exact Or.inr rfl | exact M_isIn_01
def M_boat (x1 : Int) (x2 : Int) (x3 : Int) (x4 : Int) (g : AG) : Option (Int × AG) :=
  (if nw (M_isIn x1 2 12) = 0 then some ((-1), g) else (if nw (M_isIn x2 0 99) = 0 then some ((-1), g) else (if nw (M_isPoint x3) = 0 then some ((-1), g) else (if nw (M_isIn x4 0 60) = 0 then some ((-1), g) else (if nw (g 117 12) = 10 then some ((-1), g) else if 0 ≤ nw (g 117 12) ∧ nw (g 117 12) < 10 then (some (up g 124 (ix (g 117 12)) x1) >>= fun (g7 : AG) => if 0 ≤ nw (g7 117 12) ∧ nw (g7 117 12) < 10 then (some (up g7 125 (ix (g7 117 12)) x2) >>= fun (g10 : AG) => if 0 ≤ nw (g10 117 12) ∧ nw (g10 117 12) < 10 then (some (up g10 126 (ix (g10 117 12)) x3) >>= fun (g13 : AG) => if 0 ≤ nw (g13 117 12) ∧ nw (g13 117 12) < 10 then (some (up g13 127 (ix (g13 117 12)) x4) >>= fun (g16 : AG) => (some (up g16 117 12 ((g16 117 12) + 1)) >>= fun (g18 : AG) => some (((g18 117 12) - 1), g18))) else none) else none) else none) else none)))))
set_option synthInstance.maxHeartbeats 2000000 in
def M_feed_b (x1 : Int) (x2 : Int) (x3 : Int) (x4 : Int) (x5 : Int) (x6 : Int) (g : AG) : Option (Int × AG) :=
  (if 20 ≤ nw x6 then some ((g 117 37), g) else (some ((if 4 ≤ nw x6 then (if 8 ≤ nw x6 then (if 12 ≤ nw x6 then (if 16 ≤ nw x6 then x5 else x4) else x3) else x2) else x1)) >>= fun (t2 : Int) => if 0 ≤ nw (g 117 37) ∧ nw (g 117 37) < 500 then (some (up g 146 (ix (g 117 37)) (andI (shrI t2 (24 - (8 * ((nw x6).tmod 4)))) 255)) >>= fun (g5 : AG) => (some (up g5 117 37 ((g5 117 37) + 1)) >>= fun (g7 : AG) => M_feed_b x1 x2 x3 x4 x5 (x6 + 1) g7)) else none))
partial_fixpoint
def M_feed (x1 : Int) (x2 : Int) (x3 : Int) (x4 : Int) (x5 : Int) (g : AG) : Option (Int × AG) :=
  (if nw ((g 117 37) + 20) ≤ 500 then M_feed_b x1 x2 x3 x4 x5 0 g else some ((-1), g))
def M_end (x1 : Int) (g : AG) : Option (Int × AG) :=
  (if nw (M_isIn x1 0 (g 117 37)) = 0 then some (0, g) else (some (up g 117 37 x1) >>= fun (g2 : AG) => some (1, g2)))
def M_see (x1 : Int) (g : AG) : Option Int :=
  (((if nw (g 117 37) ≤ nw x1 then some ((-1)) else if 0 ≤ nw x1 ∧ nw x1 < 500 then some ((g 146 (ix x1))) else none) : Option (Int)) >>= fun (r3 : Int) => some r3)
def M_isLetter (x0 : Int) : Int :=
  (if nw (M_isIn x0 97 122) = 0 then (if nw (M_isIn x0 65 90) = 0 then 0 else 1) else 1)
theorem M_isLetter_01 {x0 : Int} : (M_isLetter x0) = 0 ∨ (M_isLetter x0) = 1 := by
  unfold M_isLetter
  (repeat' split) <;> first | exact Or.inl rfl | exact Or.inr rfl | exact M_isIn_01
def M_isDigit (x0 : Int) : Int :=
  (M_isIn x0 48 57)
theorem M_isDigit_01 {x0 : Int} : (M_isDigit x0) = 0 ∨ (M_isDigit x0) = 1 := by
  unfold M_isDigit
  (repeat' split) <;> first | exact Or.inl rfl | exact Or.inr rfl | exact M_isIn_01
set_option synthInstance.maxHeartbeats 2000000 in
def M_is_b (s1 : Nat) (g : AG) (x2 : Int) (x3 : Int) : Option Int :=
  (if nw (strLen s1) ≤ nw x3 then if x2 = 0 ∨ x2 = 1 then some x2 else none else (if nw x2 = 0 then if x2 = 0 ∨ x2 = 1 then some x2 else none else if 0 ≤ nw ((g 117 40) + x3) ∧ nw ((g 117 40) + x3) < 500 then if 0 ≤ nw x3 ∧ nw x3 < strLen s1 then (some ((if nw (g 146 (ix ((g 117 40) + x3))) = nw (strCh s1 (ix x3)) then 1 else 0)) >>= fun (t7 : Int) => M_is_b s1 g t7 (x3 + 1)) else none else none))
partial_fixpoint
def M_is (s1 : Nat) (g : AG) : Option Int :=
  (some ((if nw ((g 117 38) - (g 117 40)) = nw (strLen s1) then 1 else 0)) >>= fun (t1 : Int) => M_is_b s1 g t1 0)
def M_word (g : AG) : Option Int :=
  (M_is 2 g >>= fun (r1 : Int) => (if nw r1 = 0 then (M_is 3 g >>= fun (r4 : Int) => (if nw r4 = 0 then (M_is 4 g >>= fun (r7 : Int) => (if nw r7 = 0 then (M_is 5 g >>= fun (r10 : Int) => (if nw r10 = 0 then (M_is 6 g >>= fun (r13 : Int) => (if nw r13 = 0 then (M_is 7 g >>= fun (r16 : Int) => (if nw r16 = 0 then (M_is 8 g >>= fun (r19 : Int) => (if nw r19 = 0 then (M_is 9 g >>= fun (r22 : Int) => (if nw r22 = 0 then (M_is 10 g >>= fun (r25 : Int) => (if nw r25 = 0 then (M_is 11 g >>= fun (r28 : Int) => (if nw r28 = 0 then (M_is 12 g >>= fun (r31 : Int) => (if nw r31 = 0 then (M_is 13 g >>= fun (r34 : Int) => (if nw r34 = 0 then (M_is 14 g >>= fun (r37 : Int) => (if nw r37 = 0 then (M_is 15 g >>= fun (r40 : Int) => (if nw r40 = 0 then (M_is 16 g >>= fun (r43 : Int) => (if nw r43 = 0 then (M_is 17 g >>= fun (r46 : Int) => (if nw r46 = 0 then (M_is 18 g >>= fun (r49 : Int) => (if nw r49 = 0 then (M_is 19 g >>= fun (r52 : Int) => (if nw r52 = 0 then (M_is 20 g >>= fun (r55 : Int) => (if nw r55 = 0 then (M_is 21 g >>= fun (r58 : Int) => (some ((if nw r58 = 0 then 1 else 48)) >>= fun (t60 : Int) => some t60)) else some 47)) else some 46)) else some 45)) else some 44)) else some 43)) else some 42)) else some 41)) else some 6)) else some 5)) else some 4)) else some 3)) else some 8)) else some 7)) else some 49)) else some 24)) else some 23)) else some 22)) else some 21)) else some 20))
set_option synthInstance.maxHeartbeats 2000000 in
def M_next0_b (tag : Nat) (g : AG) : Option (Int × AG) :=
  (if tag = 1 then (M_see (g 117 38) g >>= fun (r1 : Int) => (if nw r1 = 32 then M_next0_b 2 g else (M_see (g 117 38) g >>= fun (r4 : Int) => (if nw r4 = 10 then M_next0_b 2 g else (some (up g 117 40 (g 117 38)) >>= fun (g7 : AG) => (M_see (g7 117 38) g7 >>= fun (r9 : Int) => (if nw r9 = (-1) then (some (up g7 117 39 0) >>= fun (g35 : AG) => some (0, g35)) else (if nw (M_isLetter r9) = 0 then (if nw (M_isDigit r9) = 0 then (some (up g7 117 38 ((g7 117 38) + 1)) >>= fun (g14 : AG) => (some ((if nw r9 = 59 then 1 else (if nw r9 = 43 then 1 else (if nw r9 = 45 then 1 else (if nw r9 = 42 then 1 else (if nw r9 = 47 then 1 else (if nw r9 = 40 then 1 else (if nw r9 = 41 then 1 else (if nw r9 = 60 then 1 else (if nw r9 = 61 then 1 else (if nw r9 = 62 then 1 else 0))))))))))) >>= fun (t16 : Int) => (some ((if nw t16 = 0 then 1 else (100 + r9))) >>= fun (t18 : Int) => (some (up g14 117 39 t18) >>= fun (g20 : AG) => some (0, g20))))) else (some (up g7 117 41 0) >>= fun (g33 : AG) => M_next0_b 4 g33)) else M_next0_b 3 g7)))))))) else (if tag = 2 then (some (up g 117 38 ((g 117 38) + 1)) >>= fun (g1 : AG) => M_next0_b 1 g1) else (if tag = 3 then (M_see (g 117 38) g >>= fun (r1 : Int) => (if nw (M_isLetter r1) = 0 then (M_word g >>= fun (r4 : Int) => (some (up g 117 39 r4) >>= fun (g6 : AG) => some (0, g6))) else (some (up g 117 38 ((g 117 38) + 1)) >>= fun (g8 : AG) => M_next0_b 3 g8))) else (if tag = 4 then (M_see (g 117 38) g >>= fun (r1 : Int) => (if nw (M_isDigit r1) = 0 then (some ((if 5 ≤ nw ((g 117 38) - (g 117 40)) then 1 else 2)) >>= fun (t4 : Int) => (some (up g 117 39 t4) >>= fun (g6 : AG) => some (0, g6))) else (((if nw ((g 117 40) + 4) ≤ nw (g 117 38) then some g else (M_see (g 117 38) g >>= fun (r10 : Int) => (some (up g 117 41 (((10 * (g 117 41)) + r10) - 48)) >>= fun (g12 : AG) => some g12))) : Option (AG)) >>= fun (r14 : AG) => (some (up r14 117 38 ((r14 117 38) + 1)) >>= fun (g16 : AG) => M_next0_b 4 g16)))) else none))))
partial_fixpoint
def M_next0 (g : AG) : Option (Int × AG) :=
  M_next0_b 1 g
def M_bad (x1 : Int) (g : AG) : Option (Int × AG) :=
  (some (up g 117 42 x1) >>= fun (g1 : AG) => (some (up g1 117 43 (g1 117 40)) >>= fun (g3 : AG) => some (0, g3)))
def M_lay (x1 : Int) (x2 : Int) (g : AG) : Option (Int × AG) :=
  if 0 ≤ nw (2 * (g 117 36)) ∧ nw (2 * (g 117 36)) < 1020 then (some (up g 141 (ix (2 * (g 117 36))) x1) >>= fun (g2 : AG) => if 0 ≤ nw ((2 * (g2 117 36)) + 1) ∧ nw ((2 * (g2 117 36)) + 1) < 1020 then (some (up g2 141 (ix ((2 * (g2 117 36)) + 1)) x2) >>= fun (g5 : AG) => (some (up g5 117 36 ((g5 117 36) + 1)) >>= fun (g7 : AG) => some (0, g7))) else none) else none
set_option synthInstance.maxHeartbeats 2000000 in
def M_unit_b (x1 : Int) (g : AG) : Option (Int × AG) :=
  (some ((if nw x1 = 0 then 0 else ((g 117 39) - 40))) >>= fun (t1 : Int) => (M_lay t1 (g 117 41) g >>= fun (r3 : Int × AG) => (M_next0 r3.2 >>= fun (r5 : Int × AG) => some (1, r5.2))))
partial_fixpoint
def M_unit (g : AG) : Option (Int × AG) :=
  (if nw (g 117 39) = 2 then M_unit_b (M_isIn (g 117 39) 41 49) g else (if nw (M_isIn (g 117 39) 41 49) = 0 then (M_bad 1 g >>= fun (r3 : Int × AG) => if r3.1 = 0 ∨ r3.1 = 1 then some (r3.1, r3.2) else none) else M_unit_b (M_isIn (g 117 39) 41 49) g))
def M_number (x1 : Int) (x2 : Int) (g : AG) : Option (Int × AG) :=
  (if nw (g 117 39) = 2 then (if nw (M_isIn (g 117 41) x1 x2) = 0 then (M_bad 2 g >>= fun (r5 : Int × AG) => if r5.1 = 0 ∨ r5.1 = 1 then some (r5.1, r5.2) else none) else (M_next0 g >>= fun (r3 : Int × AG) => some (1, r3.2))) else (M_bad 1 g >>= fun (r8 : Int × AG) => if r8.1 = 0 ∨ r8.1 = 1 then some (r8.1, r8.2) else none))
set_option synthInstance.maxHeartbeats 2000000 in
def M_product_b (tag : Nat) (g : AG) : Option (Int × AG) :=
  (if tag = 1 then (if nw (g 117 39) = 142 then M_product_b 2 g else (if nw (g 117 39) = 147 then M_product_b 2 g else some (1, g))) else (if tag = 2 then (some ((if nw (g 117 39) = 147 then 1 else 0)) >>= fun (t1 : Int) => (M_next0 g >>= fun (r3 : Int × AG) => (if nw t1 = 0 then (M_unit r3.2 >>= fun (r6 : Int × AG) => (if nw r6.1 = 0 then some (0, r6.2) else (M_lay 12 0 r6.2 >>= fun (r9 : Int × AG) => M_product_b 3 r9.2))) else (M_number 1 9999 r3.2 >>= fun (r11 : Int × AG) => (if nw r11.1 = 0 then some (0, r11.2) else (M_lay 13 (r3.2 117 41) r11.2 >>= fun (r14 : Int × AG) => M_product_b 3 r14.2)))))) else (if tag = 3 then M_product_b 1 g else none)))
partial_fixpoint
def M_product (g : AG) : Option (Int × AG) :=
  (M_unit g >>= fun (r1 : Int × AG) => (if nw r1.1 = 0 then some (0, r1.2) else M_product_b 1 r1.2))
set_option synthInstance.maxHeartbeats 2000000 in
def M_sumUp_b (tag : Nat) (g : AG) : Option (Int × AG) :=
  (if tag = 1 then (if nw (g 117 39) = 143 then M_sumUp_b 2 g else (if nw (g 117 39) = 145 then M_sumUp_b 2 g else some (1, g))) else (if tag = 2 then (some ((if nw (g 117 39) = 143 then 10 else 11)) >>= fun (t1 : Int) => (M_next0 g >>= fun (r3 : Int × AG) => (M_product r3.2 >>= fun (r5 : Int × AG) => (if nw r5.1 = 0 then some (0, r5.2) else (M_lay t1 0 r5.2 >>= fun (r8 : Int × AG) => M_sumUp_b 1 r8.2))))) else none))
partial_fixpoint
def M_sumUp (g : AG) : Option (Int × AG) :=
  (M_product g >>= fun (r1 : Int × AG) => (if nw r1.1 = 0 then some (0, r1.2) else M_sumUp_b 1 r1.2))
def M_hours_117_136_137 (x2 : Int) (x4 : Int) (g : AG) : Option (Int × AG) :=
  if 0 ≤ nw x2 ∧ nw x2 < 16 then (some (up g 136 (ix x2) (g 117 41)) >>= fun (g2 : AG) => (M_number 0 24 g2 >>= fun (r4 : Int × AG) => (if nw r4.1 = 0 then some (0, r4.2) else if 0 ≤ nw x4 ∧ nw x4 < 16 then (some (up r4.2 137 (ix x4) (r4.2 117 41)) >>= fun (g8 : AG) => (M_number 0 24 g8 >>= fun (r10 : Int × AG) => if r10.1 = 0 ∨ r10.1 = 1 then some (r10.1, r10.2) else none)) else none))) else none
def M_hours_117_143_143 (x2 : Int) (x4 : Int) (g : AG) : Option (Int × AG) :=
  if 0 ≤ nw x2 ∧ nw x2 < 60 then (some (up g 143 (ix x2) (g 117 41)) >>= fun (g2 : AG) => (M_number 0 24 g2 >>= fun (r4 : Int × AG) => (if nw r4.1 = 0 then some (0, r4.2) else if 0 ≤ nw x4 ∧ nw x4 < 60 then (some (up r4.2 143 (ix x4) (r4.2 117 41)) >>= fun (g8 : AG) => (M_number 0 24 g8 >>= fun (r10 : Int × AG) => if r10.1 = 0 ∨ r10.1 = 1 then some (r10.1, r10.2) else none)) else none))) else none
set_option synthInstance.maxHeartbeats 2000000 in
def M_aTunnel_b (x1 : Int) (g : AG) : Option (Int × AG) :=
  (some ((if nw (g 117 39) = 7 then 0 else 1)) >>= fun (t1 : Int) => if 0 ≤ nw ((2 * x1) + t1) ∧ nw ((2 * x1) + t1) < 30 then (if nw (g 145 (ix ((2 * x1) + t1))) = 0 then (some (up g 145 (ix ((2 * x1) + t1)) 1) >>= fun (g5 : AG) => (M_next0 g5 >>= fun (r7 : Int × AG) => (M_hours_117_143_143 (2 * ((2 * x1) + t1)) ((2 * ((2 * x1) + t1)) + 1) r7.2 >>= fun (r9 : Int × AG) => if r9.1 = 0 ∨ r9.1 = 1 then some (r9.1, r9.2) else none))) else (M_bad 3 g >>= fun (r12 : Int × AG) => if r12.1 = 0 ∨ r12.1 = 1 then some (r12.1, r12.2) else none)) else none)
partial_fixpoint
def M_aTunnel (g : AG) : Option (Int × AG) :=
  (M_number 0 14 g >>= fun (r1 : Int × AG) => (if nw r1.1 = 0 then some (0, r1.2) else (if nw (r1.2 117 39) = 7 then M_aTunnel_b (g 117 41) r1.2 else (if nw (r1.2 117 39) = 8 then M_aTunnel_b (g 117 41) r1.2 else (M_bad 1 r1.2 >>= fun (r6 : Int × AG) => if r6.1 = 0 ∨ r6.1 = 1 then some (r6.1, r6.2) else none)))))
def M_need (x1 : Int) (g : AG) : Option (Int × AG) :=
  (if nw (g 117 39) = nw x1 then (M_next0 g >>= fun (r2 : Int × AG) => some (1, r2.2)) else (M_bad 1 g >>= fun (r4 : Int × AG) => if r4.1 = 0 ∨ r4.1 = 1 then some (r4.1, r4.2) else none))
set_option synthInstance.maxHeartbeats 2000000 in
def M_every_b (rec : AG → Option (Int × AG)) (g : AG) : Option (Int × AG) :=
  (if nw (g 117 39) = 5 then (M_next0 g >>= fun (r2 : Int × AG) => (rec r2.2 >>= fun (r4 : Int × AG) => (if nw r4.1 = 0 then some (0, r4.2) else (M_lay 18 0 r4.2 >>= fun (r7 : Int × AG) => M_every_b rec r7.2)))) else some (1, g))
partial_fixpoint
def M_every (rec : AG → Option (Int × AG)) (g : AG) : Option (Int × AG) :=
  (rec g >>= fun (r1 : Int × AG) => (if nw r1.1 = 0 then some (0, r1.2) else M_every_b rec r1.2))
set_option synthInstance.maxHeartbeats 2000000 in
def M_any_b (rec : AG → Option (Int × AG)) (g : AG) : Option (Int × AG) :=
  (if nw (g 117 39) = 4 then (M_next0 g >>= fun (r2 : Int × AG) => (M_every rec r2.2 >>= fun (r4 : Int × AG) => (if nw r4.1 = 0 then some (0, r4.2) else (M_lay 19 0 r4.2 >>= fun (r7 : Int × AG) => M_any_b rec r7.2)))) else some (1, g))
partial_fixpoint
def M_any (rec : AG → Option (Int × AG)) (g : AG) : Option (Int × AG) :=
  (M_every rec g >>= fun (r1 : Int × AG) => (if nw r1.1 = 0 then some (0, r1.2) else M_any_b rec r1.2))
def M_opens (g : AG) : Option (Int × AG) :=
  (if nw (g 117 45) = 8 then (M_bad 3 g >>= fun (r6 : Int × AG) => if r6.1 = 0 ∨ r6.1 = 1 then some (r6.1, r6.2) else none) else (some (up g 117 45 ((g 117 45) + 1)) >>= fun (g2 : AG) => (M_next0 g2 >>= fun (r4 : Int × AG) => some (1, r4.2))))
def M_one_s (rec : AG → Option (Int × AG)) (g : AG) : Option (Int × AG) :=
  (if nw (g 117 39) = 6 then (M_opens g >>= fun (r33 : Int × AG) => (if nw r33.1 = 0 then some (0, r33.2) else (rec r33.2 >>= fun (r36 : Int × AG) => (if nw r36.1 = 0 then some (0, r36.2) else (some (up r36.2 117 45 ((r36.2 117 45) - 1)) >>= fun (g39 : AG) => (M_lay 17 0 g39 >>= fun (r41 : Int × AG) => some (1, r41.2))))))) else (if nw (g 117 39) = 140 then (M_opens g >>= fun (r22 : Int × AG) => (if nw r22.1 = 0 then some (0, r22.2) else (M_any rec r22.2 >>= fun (r25 : Int × AG) => (if nw r25.1 = 0 then some (0, r25.2) else (M_need 141 r25.2 >>= fun (r28 : Int × AG) => (if nw r28.1 = 0 then some (0, r28.2) else (some (up r28.2 117 45 ((r28.2 117 45) - 1)) >>= fun (g31 : AG) => some (1, g31)))))))) else (M_sumUp g >>= fun (r3 : Int × AG) => (if nw r3.1 = 0 then some (0, r3.2) else (some ((if nw (r3.2 117 39) = 160 then 14 else (if nw (r3.2 117 39) = 161 then 15 else (if nw (r3.2 117 39) = 162 then 16 else (-1))))) >>= fun (t6 : Int) => (if nw t6 = (-1) then (M_bad 1 r3.2 >>= fun (r16 : Int × AG) => if r16.1 = 0 ∨ r16.1 = 1 then some (r16.1, r16.2) else none) else (M_next0 r3.2 >>= fun (r9 : Int × AG) => (M_sumUp r9.2 >>= fun (r11 : Int × AG) => (if nw r11.1 = 0 then some (0, r11.2) else (M_lay t6 0 r11.2 >>= fun (r14 : Int × AG) => some (1, r14.2)))))))))))
def M_one : Nat → AG → Option (Int × AG)
  | 0 => fun _ => none
  | n + 1 => fun g => M_one_s (M_one n) g
set_option synthInstance.maxHeartbeats 2000000 in
def M_aLine_b (x2 : Int) (tag : Nat) (g : AG) : Option (Int × AG) :=
  (if tag = 1 then if 0 ≤ nw x2 ∧ nw x2 < 16 then (some (up g 139 (ix x2) (g 117 36)) >>= fun (g2 : AG) => (if nw (g2 117 39) = 3 then (M_next0 g2 >>= fun (r5 : Int × AG) => (M_any (M_one 12) r5.2 >>= fun (r7 : Int × AG) => (if nw r7.1 = 0 then some (0, r7.2) else M_aLine_b x2 2 r7.2))) else M_aLine_b x2 2 g2)) else none else (if tag = 2 then if 0 ≤ nw x2 ∧ nw x2 < 16 then (some (up g 140 (ix x2) (g 117 36)) >>= fun (g2 : AG) => (M_need 159 g2 >>= fun (r4 : Int × AG) => if r4.1 = 0 ∨ r4.1 = 1 then some (r4.1, r4.2) else none)) else none else none))
partial_fixpoint
def M_aLine (g : AG) : Option (Int × AG) :=
  (if nw (M_isIn (g 117 39) 20 24) = 0 then (M_bad 1 g >>= fun (r38 : Int × AG) => if r38.1 = 0 ∨ r38.1 = 1 then some (r38.1, r38.2) else none) else (if nw (g 117 35) = 16 then (M_bad 3 g >>= fun (r35 : Int × AG) => if r35.1 = 0 ∨ r35.1 = 1 then some (r35.1, r35.2) else none) else (some (up g 117 45 0) >>= fun (g3 : AG) => (M_next0 g3 >>= fun (r5 : Int × AG) => if 0 ≤ nw (g 117 35) ∧ nw (g 117 35) < 16 then (some (up r5.2 135 (ix (g 117 35)) ((g 117 39) - 20)) >>= fun (g8 : AG) => (some (up g8 138 (ix (g 117 35)) (g8 117 36)) >>= fun (g10 : AG) => (some (up g10 139 (ix (g 117 35)) (g10 117 36)) >>= fun (g12 : AG) => (some (up g12 140 (ix (g 117 35)) (g12 117 36)) >>= fun (g14 : AG) => (if nw ((g 117 39) - 20) = 1 then (M_aTunnel g14 >>= fun (r24 : Int × AG) => (((if nw r24.1 = 0 then some (0, r24.2) else (M_need 159 r24.2 >>= fun (r27 : Int × AG) => (some ((if nw r27.1 = 0 then 0 else 1)) >>= fun (t29 : Int) => some (t29, r27.2)))) : Option (Int × AG)) >>= fun (r32 : Int × AG) => if r32.1 = 0 ∨ r32.1 = 1 then some (r32.1, r32.2) else none)) else (if nw ((g 117 39) - 20) = 0 then (M_hours_117_136_137 (g 117 35) (g 117 35) g14 >>= fun (r21 : Int × AG) => (if nw r21.1 = 0 then some (0, r21.2) else M_aLine_b (g 117 35) 1 r21.2)) else (M_sumUp g14 >>= fun (r18 : Int × AG) => (if nw r18.1 = 0 then some (0, r18.2) else M_aLine_b (g 117 35) 1 r18.2)))))))) else none))))
set_option synthInstance.maxHeartbeats 2000000 in
def M_keeps_b (tag : Nat) (x1 : Int) (g : AG) : Option (Int × AG) :=
  (if tag = 1 then (if nw (g 117 34) ≤ nw x1 then M_keeps_b 2 0 g else if 0 ≤ nw x1 ∧ nw x1 < 16 then (some (up g 128 (ix x1) (g 135 (ix x1))) >>= fun (g3 : AG) => (some (up g3 129 (ix x1) (g3 136 (ix x1))) >>= fun (g5 : AG) => (some (up g5 130 (ix x1) (g5 137 (ix x1))) >>= fun (g7 : AG) => (some (up g7 131 (ix x1) (g7 138 (ix x1))) >>= fun (g9 : AG) => (some (up g9 132 (ix x1) (g9 139 (ix x1))) >>= fun (g11 : AG) => (some (up g11 133 (ix x1) (g11 140 (ix x1))) >>= fun (g13 : AG) => M_keeps_b 1 (x1 + 1) g13)))))) else none) else (if tag = 2 then (if nw (2 * (g 117 36)) ≤ nw x1 then M_keeps_b 3 0 g else if 0 ≤ nw x1 ∧ nw x1 < 1020 then (some (up g 134 (ix x1) (g 141 (ix x1))) >>= fun (g3 : AG) => M_keeps_b 2 (x1 + 1) g3) else none) else (if tag = 3 then (if 30 ≤ nw x1 then M_keeps_b 4 0 g else if 0 ≤ nw x1 ∧ nw x1 < 30 then if (g 145 (ix x1)) = 0 ∨ (g 145 (ix x1)) = 1 then (some (up g 144 (ix x1) (g 145 (ix x1))) >>= fun (g4 : AG) => M_keeps_b 3 (x1 + 1) g4) else none else none) else (if tag = 4 then (if 60 ≤ nw x1 then some (0, g) else if 0 ≤ nw x1 ∧ nw x1 < 60 then (some (up g 142 (ix x1) (g 143 (ix x1))) >>= fun (g3 : AG) => M_keeps_b 4 (x1 + 1) g3) else none) else none))))
partial_fixpoint
def M_keeps (g : AG) : Option (Int × AG) :=
  (some (up g 117 34 (g 117 35)) >>= fun (g1 : AG) => M_keeps_b 1 0 g1)
set_option synthInstance.maxHeartbeats 2000000 in
def M_rules_b (tag : Nat) (x1 : Int) (g : AG) : Option (Int × AG) :=
  (if tag = 1 then (if 30 ≤ nw x1 then (M_next0 g >>= fun (r2 : Int × AG) => M_rules_b 2 1 r2.2) else if 0 ≤ nw x1 ∧ nw x1 < 30 then (some (up g 145 (ix x1) 0) >>= fun (g5 : AG) => M_rules_b 1 (x1 + 1) g5) else none) else (if tag = 2 then (if nw x1 = 0 then M_rules_b 3 x1 g else (if nw (g 117 39) = 0 then M_rules_b 3 x1 g else (M_aLine g >>= fun (r3 : Int × AG) => (some ((if nw r3.1 = 0 then 0 else 1)) >>= fun (t5 : Int) => (some (up r3.2 117 35 ((r3.2 117 35) + t5)) >>= fun (g7 : AG) => M_rules_b 2 r3.1 g7))))) else (if tag = 3 then (some (up g 117 37 0) >>= fun (g1 : AG) => (some (up g1 117 44 (g1 117 42)) >>= fun (g3 : AG) => (some ((if nw x1 = 0 then (g3 117 43) else (-1))) >>= fun (t5 : Int) => (some (up g3 117 46 t5) >>= fun (g7 : AG) => (if nw x1 = 0 then some ((-1), g7) else (M_keeps g7 >>= fun (r10 : Int × AG) => some ((r10.2 117 34), r10.2))))))) else none)))
partial_fixpoint
def M_rules (g : AG) : Option (Int × AG) :=
  (some (up g 117 42 0) >>= fun (g1 : AG) => (some (up g1 117 38 0) >>= fun (g3 : AG) => (some (up g3 117 35 0) >>= fun (g5 : AG) => (some (up g5 117 36 0) >>= fun (g7 : AG) => M_rules_b 1 0 g7))))
def M_fault (x1 : Int) (g : AG) : Int :=
  (if nw x1 = 0 then (g 117 44) else (if nw x1 = 1 then (g 117 46) else (-1)))
set_option synthInstance.maxHeartbeats 2000000 in
def M_forgets_b (x1 : Int) (g : AG) : Option (Int × AG) :=
  (if 10 ≤ nw x1 then some (0, g) else if 0 ≤ nw x1 ∧ nw x1 < 10 then (some (up g 148 (ix x1) 0) >>= fun (g3 : AG) => M_forgets_b (x1 + 1) g3) else none)
partial_fixpoint
def M_forgets (g : AG) : Option (Int × AG) :=
  M_forgets_b 0 g
def M_both (x0 : Int) (x1 : Int) (x2 : Int) : Int :=
  (if nw x0 = 10 then (x1 + x2) else (if nw x0 = 11 then (x1 - x2) else (if nw x0 = 12 then (x1 * x2) else (if nw x0 = 13 then (orI x1 x2) else (if nw x0 = 14 then (if nw x2 ≤ nw x1 then 0 else 1) else (if nw x0 = 15 then (if nw x1 = nw x2 then 1 else 0) else (if nw x0 = 16 then (if nw x1 ≤ nw x2 then 0 else 1) else (if nw x0 = 17 then (orI x1 x2) else (if nw x0 = 18 then (andI x1 x2) else (orI x1 x2))))))))))
set_option synthInstance.maxHeartbeats 2000000 in
def M_comesTo_b (x2 : Int) (x3 : Int) (x4 : Int) (g : AG) : Option (Int × AG) :=
  (if nw x2 ≤ nw x4 then some ((g 147 (ix 0)), g) else if 0 ≤ nw (2 * x4) ∧ nw (2 * x4) < 1020 then if 0 ≤ nw ((2 * x4) + 1) ∧ nw ((2 * x4) + 1) < 1020 then (((if 10 ≤ nw (g 134 (ix (2 * x4))) then (if nw (g 134 (ix (2 * x4))) = 13 then if 0 ≤ nw (x3 - 1) ∧ nw (x3 - 1) < 520 then if ¬ nw (g 134 (ix ((2 * x4) + 1))) = 0 then (some (up g 147 (ix (x3 - 1)) ((nw (g 147 (ix (x3 - 1)))).tdiv (nw (g 134 (ix ((2 * x4) + 1)))))) >>= fun (g16 : AG) => some (x3, g16)) else none else none else (if nw (g 134 (ix (2 * x4))) = 17 then if 0 ≤ nw (x3 - 1) ∧ nw (x3 - 1) < 520 then (some (up g 147 (ix (x3 - 1)) (1 - (g 147 (ix (x3 - 1))))) >>= fun (g12 : AG) => some (x3, g12)) else none else if 0 ≤ nw ((x3 + (-1)) - 1) ∧ nw ((x3 + (-1)) - 1) < 520 then if 0 ≤ nw (x3 + (-1)) ∧ nw (x3 + (-1)) < 520 then (some (up g 147 (ix ((x3 + (-1)) - 1)) (M_both (g 134 (ix (2 * x4))) (g 147 (ix ((x3 + (-1)) - 1))) (g 147 (ix (x3 + (-1)))))) >>= fun (g9 : AG) => some ((x3 + (-1)), g9)) else none else none)) else (((if nw (g 134 (ix (2 * x4))) = 0 then some ((g 134 (ix ((2 * x4) + 1))), g) else if 0 ≤ nw (g 134 (ix (2 * x4))) ∧ nw (g 134 (ix (2 * x4))) < 10 then some ((g 148 (ix (g 134 (ix (2 * x4))))), g) else none) : Option (Int × AG)) >>= fun (r20 : Int × AG) => if 0 ≤ nw x3 ∧ nw x3 < 520 then (some (up r20.2 147 (ix x3) r20.1) >>= fun (g23 : AG) => some ((x3 + 1), g23)) else none)) : Option (Int × AG)) >>= fun (r25 : Int × AG) => M_comesTo_b x2 r25.1 (x4 + 1) r25.2) else none else none)
partial_fixpoint
def M_comesTo (x1 : Int) (x2 : Int) (g : AG) : Option (Int × AG) :=
  M_comesTo_b x2 0 x1 g
set_option synthInstance.maxHeartbeats 2000000 in
def M_serves_b (x1 : Int) (tag : Nat) (x2 : Int) (g : AG) : Option (Int × AG) :=
  (if tag = 1 then (if nw (g 117 34) ≤ nw x2 then some ((-1), g) else if 0 ≤ nw x2 ∧ nw x2 < 16 then (if nw (g 128 (ix x2)) = nw x1 then (if nw (g 133 (ix x2)) = nw (g 132 (ix x2)) then some (x2, g) else (M_comesTo (g 132 (ix x2)) (g 133 (ix x2)) g >>= fun (r5 : Int × AG) => (if nw r5.1 = 1 then some (x2, r5.2) else M_serves_b x1 2 x2 r5.2))) else M_serves_b x1 2 x2 g) else none) else (if tag = 2 then M_serves_b x1 1 (x2 + 1) g else none))
partial_fixpoint
def M_serves (x1 : Int) (g : AG) : Option (Int × AG) :=
  M_serves_b x1 1 0 g
def M_locksLine (x1 : Int) (g : AG) : Option (Int × AG) :=
  (M_forgets g >>= fun (r1 : Int × AG) => (some (up r1.2 148 (ix 1) ((nw x1).tmod 7)) >>= fun (g3 : AG) => (some (up g3 148 (ix 2) ((nw x1).tdiv 7)) >>= fun (g5 : AG) => (some (up g5 148 (ix 3) (g5 117 10)) >>= fun (g7 : AG) => (M_serves 0 g7 >>= fun (r9 : Int × AG) => some (r9.1, r9.2))))))
def M_open (x1 : Int) (x2 : Int) (g : AG) : Option (Int × AG) :=
  (if nw (M_isIn x1 0 13) = 0 then some ((-1), g) else (if nw (M_isIn x2 0 1) = 0 then some ((-1), g) else (M_locksLine x1 g >>= fun (r3 : Int × AG) => (((if nw r3.1 = (-1) then (some ((if nw x2 = 0 then 0 else 24)) >>= fun (t9 : Int) => some (t9, r3.2)) else (if nw x2 = 0 then if 0 ≤ nw r3.1 ∧ nw r3.1 < 16 then some ((r3.2 129 (ix r3.1)), r3.2) else none else if 0 ≤ nw r3.1 ∧ nw r3.1 < 16 then some ((r3.2 130 (ix r3.1)), r3.2) else none)) : Option (Int × AG)) >>= fun (r12 : Int × AG) => some (r12.1, r12.2)))))
def M_isBoat (x1 : Int) (g : AG) : Int :=
  (M_isIn x1 0 ((g 117 12) - 1))
theorem M_isBoat_01 {x1 : Int} {g : AG} : (M_isBoat x1 g) = 0 ∨ (M_isBoat x1 g) = 1 := by
  unfold M_isBoat
  (repeat' split) <;> first | exact Or.inl rfl | exact Or.inr rfl | exact M_isIn_01
def M_isTime (x0 : Int) : Int :=
  (M_isIn x0 0 20159)
theorem M_isTime_01 {x0 : Int} : (M_isTime x0) = 0 ∨ (M_isTime x0) = 1 := by
  unfold M_isTime
  (repeat' split) <;> first | exact Or.inl rfl | exact Or.inr rfl | exact M_isIn_01
set_option synthInstance.maxHeartbeats 2000000 in
def M_isStopped_b (x1 : Int) (x2 : Int) (g : AG) (tag : Nat) (x3 : Int) : Option Int :=
  (if tag = 1 then (if nw (g 117 11) ≤ nw x3 then some 0 else if 0 ≤ nw x3 ∧ nw x3 < 8 then (if nw (g 121 (ix x3)) = nw x1 then (if nw (M_isIn x2 (g 122 (ix x3)) (g 123 (ix x3))) = 0 then M_isStopped_b x1 x2 g 2 x3 else some 1) else M_isStopped_b x1 x2 g 2 x3) else none) else (if tag = 2 then M_isStopped_b x1 x2 g 1 (x3 + 1) else none))
partial_fixpoint
def M_isStopped (x1 : Int) (x2 : Int) (g : AG) : Option Int :=
  M_isStopped_b x1 x2 g 1 0
def M_mayBegin (x1 : Int) (x2 : Int) (x3 : Int) (x4 : Int) (g : AG) : Option (Int × AG) :=
  (if nw (M_isIn x4 8 19) = 0 then some (0, g) else (M_isStopped x1 x3 g >>= fun (r2 : Int) => (if nw r2 = 0 then (if nw x2 = 0 then some (1, g) else (if nw x2 = 1 then (M_locksLine x3 g >>= fun (r18 : Int × AG) => (((if nw r18.1 = (-1) then some (1, r18.2) else if 0 ≤ nw r18.1 ∧ nw r18.1 < 16 then (if nw x4 < nw (r18.2 129 (ix r18.1)) then some (0, r18.2) else (some ((if nw (r18.2 130 (ix r18.1)) ≤ nw x4 then 0 else 1)) >>= fun (t23 : Int) => some (t23, r18.2))) else none) : Option (Int × AG)) >>= fun (r26 : Int × AG) => if r26.1 = 0 ∨ r26.1 = 1 then some (r26.1, r26.2) else none)) else if 0 ≤ nw (((2 * x1) + x2) - 2) ∧ nw (((2 * x1) + x2) - 2) < 30 then (((if nw (g 144 (ix (((2 * x1) + x2) - 2))) = 0 then some (0, g) else if 0 ≤ nw (2 * (((2 * x1) + x2) - 2)) ∧ nw (2 * (((2 * x1) + x2) - 2)) < 60 then (if nw x4 < nw (g 142 (ix (2 * (((2 * x1) + x2) - 2)))) then some (0, g) else if 0 ≤ nw ((2 * (((2 * x1) + x2) - 2)) + 1) ∧ nw ((2 * (((2 * x1) + x2) - 2)) + 1) < 60 then (some ((if nw (g 142 (ix ((2 * (((2 * x1) + x2) - 2)) + 1))) ≤ nw x4 then 0 else 1)) >>= fun (t12 : Int) => some (t12, g)) else none) else none) : Option (Int × AG)) >>= fun (r15 : Int × AG) => if r15.1 = 0 ∨ r15.1 = 1 then some (r15.1, r15.2) else none) else none)) else some (0, g))))
set_option synthInstance.maxHeartbeats 2000000 in
def M_endOf_b (x1 : Int) (x2 : Int) (x4 : Int) (tag : Nat) (x5 : Int) (g : AG) : Option (Int × AG) :=
  (if tag = 1 then (if 20159 < nw x5 then M_endOf_b x1 x2 x4 2 x5 g else (M_mayBegin x1 x2 ((nw x5).tdiv 1440) ((nw ((nw x5).tmod 1440)).tdiv 60) g >>= fun (r2 : Int × AG) => (if nw r2.1 = 0 then M_endOf_b x1 x2 x4 1 ((((nw x5).tdiv 60) + 1) * 60) r2.2 else M_endOf_b x1 x2 x4 2 x5 r2.2))) else (if tag = 2 then (some ((if 20159 < nw (x5 + x4) then (-1) else (if nw x5 ≤ 20159 then (x5 + x4) else (-1)))) >>= fun (t1 : Int) => some (t1, g)) else none))
partial_fixpoint
def M_endOf (x1 : Int) (x2 : Int) (x3 : Int) (x4 : Int) (g : AG) : Option (Int × AG) :=
  M_endOf_b x1 x2 x4 1 x3 g
def M_harmOf (x1 : Int) (x2 : Int) (g : AG) : Option (Int × AG) :=
  (M_forgets g >>= fun (r1 : Int × AG) => (some (up r1.2 148 (ix 1) ((nw x2).tmod 7)) >>= fun (g3 : AG) => (some (up g3 148 (ix 2) ((nw x2).tdiv 7)) >>= fun (g5 : AG) => (some (up g5 148 (ix 3) (g5 117 10)) >>= fun (g7 : AG) => if 0 ≤ nw x1 ∧ nw x1 < 10 then (some (up g7 148 (ix 4) (g7 124 (ix x1))) >>= fun (g10 : AG) => (some (up g10 148 (ix 6) (g10 125 (ix x1))) >>= fun (g12 : AG) => (some (up g12 148 (ix 9) (g12 127 (ix x1))) >>= fun (g14 : AG) => (M_serves 4 g14 >>= fun (r16 : Int × AG) => (((if nw r16.1 = (-1) then some (0, r16.2) else if 0 ≤ nw r16.1 ∧ nw r16.1 < 16 then (M_comesTo (r16.2 131 (ix r16.1)) (r16.2 132 (ix r16.1)) r16.2 >>= fun (r20 : Int × AG) => some (r20.1, r20.2)) else none) : Option (Int × AG)) >>= fun (r22 : Int × AG) => (some ((if 0 ≤ nw r22.1 then (if nw r22.1 ≤ 999 then r22.1 else 999) else 0)) >>= fun (t24 : Int) => some (t24, r22.2))))))) else none))))
set_option synthInstance.maxHeartbeats 2000000 in
def M_through_b (x1 : Int) (x2 : Int) (x3 : Int) (tag : Nat) (x5 : Int) (x6 : Int) (x7 : Int) (g : AG) : Option (Int × AG) :=
  (if tag = 1 then if 0 ≤ nw x2 ∧ nw x2 < 15 then (((if nw (g 118 (ix x2)) ≤ 0 then some (x5, g) else (some ((if nw x3 = 0 then 3 else 2)) >>= fun (t3 : Int) => (M_endOf x2 t3 x5 (20 * (g 118 (ix x2))) g >>= fun (r5 : Int × AG) => some (r5.1, r5.2)))) : Option (Int × AG)) >>= fun (r8 : Int × AG) => if 0 ≤ nw x1 ∧ nw x1 < 10 then M_through_b x1 x2 x3 4 r8.1 (15 + ((nw (60 - (r8.2 127 (ix x1)))).tdiv 6)) 0 r8.2 else none) else none else (if tag = 2 then if 0 ≤ nw x2 ∧ nw x2 < 15 then (if nw (g 118 (ix x2)) ≤ nw x6 then M_through_b x1 x2 x3 3 x5 x6 x7 g else (if nw x5 = (-1) then M_through_b x1 x2 x3 3 x5 x6 x7 g else (M_endOf x2 0 x5 20 g >>= fun (r4 : Int × AG) => M_through_b x1 x2 x3 2 r4.1 (x6 + 1) x7 r4.2))) else none else (if tag = 3 then if 0 ≤ nw x1 ∧ nw x1 < 10 then M_through_b x1 x2 x3 4 x5 (15 + ((nw (60 - (g 127 (ix x1)))).tdiv 6)) 0 g else none else (if tag = 4 then if 0 ≤ nw x2 ∧ nw x2 < 15 then (if nw (g 119 (ix x2)) ≤ nw x7 then some (x5, g) else (if nw x5 = (-1) then some (x5, g) else (M_endOf x2 1 x5 x6 g >>= fun (r4 : Int × AG) => (((if nw (r4.2 117 47) = 0 then some r4.2 else (if nw r4.1 = (-1) then some r4.2 else (M_harmOf x1 ((nw (r4.1 - x6)).tdiv 1440) r4.2 >>= fun (r8 : Int × AG) => (some (up r8.2 117 48 ((r4.2 117 48) + r8.1)) >>= fun (g10 : AG) => some g10)))) : Option (AG)) >>= fun (r12 : AG) => M_through_b x1 x2 x3 4 r4.1 x6 (x7 + 1) r12)))) else none else none))))
partial_fixpoint
def M_through (x1 : Int) (x2 : Int) (x3 : Int) (x4 : Int) (g : AG) : Option (Int × AG) :=
  if 0 ≤ nw (2 * x2) ∧ nw (2 * x2) < 30 then (if nw (g 144 (ix (2 * x2))) = 0 then if 0 ≤ nw ((2 * x2) + 1) ∧ nw ((2 * x2) + 1) < 30 then (if nw (g 144 (ix ((2 * x2) + 1))) = 0 then M_through_b x1 x2 0 2 x4 0 0 g else M_through_b x1 x2 x3 1 x4 0 0 g) else none else M_through_b x1 x2 x3 1 x4 0 0 g) else none
set_option synthInstance.maxHeartbeats 2000000 in
def M_led_b (x1 : Int) (x2 : Int) (x3 : Int) (tag : Nat) (x5 : Int) (x6 : Int) (g : AG) : Option (Int × AG) :=
  (if tag = 1 then (if nw x3 ≤ nw x6 then M_led_b x1 x2 x3 2 x5 x6 g else (if nw x5 = (-1) then M_led_b x1 x2 x3 2 x5 x6 g else (M_through x1 x6 1 x5 g >>= fun (r3 : Int × AG) => M_led_b x1 x2 x3 1 r3.1 (x6 + 1) r3.2))) else (if tag = 2 then M_led_b x1 x2 x3 3 x5 x2 g else (if tag = 3 then (if nw x6 ≤ nw x3 then some (x5, g) else (if nw x5 = (-1) then some (x5, g) else (M_through x1 (x6 - 1) 0 x5 g >>= fun (r3 : Int × AG) => M_led_b x1 x2 x3 3 r3.1 (x6 + (-1)) r3.2))) else none)))
partial_fixpoint
def M_led (x1 : Int) (x2 : Int) (x3 : Int) (x4 : Int) (g : AG) : Option (Int × AG) :=
  M_led_b x1 x2 x3 1 x4 x2 g
def M_comes (x1 : Int) (x2 : Int) (x3 : Int) (x4 : Int) (g : AG) : Option (Int × AG) :=
  (((if nw (M_isBoat x1 g) = 0 then some ((-1), g) else (if nw (M_isPoint x2) = 0 then some ((-1), g) else (if nw (M_isPoint x3) = 0 then some ((-1), g) else (if nw (M_isTime x4) = 0 then some ((-1), g) else (M_led x1 x2 x3 x4 g >>= fun (r5 : Int × AG) => some (r5.1, r5.2)))))) : Option (Int × AG)) >>= fun (r7 : Int × AG) => some (r7.1, r7.2))
def M_harm (x1 : Int) (x2 : Int) (x3 : Int) (x4 : Int) (g : AG) : Option (Int × AG) :=
  (if nw (M_isBoat x1 g) = 0 then some ((-1), g) else (if nw (M_isPoint x2) = 0 then some ((-1), g) else (if nw (M_isPoint x3) = 0 then some ((-1), g) else (if nw (M_isTime x4) = 0 then some ((-1), g) else (some (up g 117 47 1) >>= fun (g5 : AG) => (some (up g5 117 48 0) >>= fun (g7 : AG) => (M_led x1 x2 x3 x4 g7 >>= fun (r9 : Int × AG) => (some (up r9.2 117 47 0) >>= fun (g11 : AG) => (some ((if nw r9.1 = (-1) then (-1) else (g11 117 48))) >>= fun (t13 : Int) => some (t13, g11))))))))))
set_option synthInstance.maxHeartbeats 2000000 in
def M_enough_b (x1 : Int) (x2 : Int) (x3 : Int) (x4 : Int) (x5 : Int) (x6 : Int) (tag : Nat) (x7 : Int) (x8 : Int) (g : AG) : Option (Int × AG) :=
  (if tag = 1 then (if 60 < nw x8 then M_enough_b x1 x2 x3 x4 x5 x6 2 x7 x8 g else (if 20159 < nw (x4 + x8) then M_enough_b x1 x2 x3 x4 x5 x6 2 x7 x8 g else (if nw x7 = (-1) then if 0 ≤ nw x1 ∧ nw x1 < 10 then (some (up g 127 (ix x1) x8) >>= fun (g5 : AG) => (M_led x1 x2 x3 (x4 + x8) g5 >>= fun (r7 : Int × AG) => (some ((if nw r7.1 = (-1) then (-1) else (if nw x5 < nw r7.1 then (-1) else x8))) >>= fun (t9 : Int) => M_enough_b x1 x2 x3 x4 x5 x6 1 t9 (x8 + 1) r7.2))) else none else M_enough_b x1 x2 x3 x4 x5 x6 2 x7 x8 g))) else (if tag = 2 then if 0 ≤ nw x1 ∧ nw x1 < 10 then (some (up g 127 (ix x1) x6) >>= fun (g2 : AG) => some (x7, g2)) else none else none))
partial_fixpoint
def M_enough (x1 : Int) (x2 : Int) (x3 : Int) (x4 : Int) (x5 : Int) (g : AG) : Option (Int × AG) :=
  (if nw (M_isBoat x1 g) = 0 then some ((-1), g) else (if nw (M_isPoint x2) = 0 then some ((-1), g) else (if nw (M_isPoint x3) = 0 then some ((-1), g) else (if nw (M_isTime x4) = 0 then some ((-1), g) else (if nw (M_isTime x5) = 0 then some ((-1), g) else if 0 ≤ nw x1 ∧ nw x1 < 10 then M_enough_b x1 x2 x3 x4 x5 (g 127 (ix x1)) 1 (-1) 0 g else none)))))
set_option synthInstance.maxHeartbeats 2000000 in
def M_maybe_b (x1 : Int) (x2 : Int) (x3 : Int) (x4 : Int) (x5 : Int) (x6 : Int) (g : AG) : Option (Int × AG) :=
  (if 16 ≤ nw x6 then some (x5, g) else (M_led x1 x2 x6 x3 g >>= fun (r2 : Int × AG) => (some ((if nw r2.1 = (-1) then 0 else (if nw x4 < nw r2.1 then 0 else (shlI 1 x6)))) >>= fun (t4 : Int) => M_maybe_b x1 x2 x3 x4 (orI x5 t4) (x6 + 1) r2.2)))
partial_fixpoint
def M_maybe (x1 : Int) (x2 : Int) (x3 : Int) (x4 : Int) (g : AG) : Option (Int × AG) :=
  (if nw (M_isBoat x1 g) = 0 then some ((-1), g) else (if nw (M_isPoint x2) = 0 then some ((-1), g) else (if nw (M_isTime x3) = 0 then some ((-1), g) else (if nw (M_isIn x4 x3 20159) = 0 then some ((-1), g) else M_maybe_b x1 x2 x3 x4 0 0 g))))
def M_trip (x1 : Int) (x2 : Int) (x3 : Int) (x4 : Int) (x5 : Int) (g : AG) : Option (Int × AG) :=
  (if nw (M_isBoat x1 g) = 0 then some ((-1), g) else (if nw (M_isPoint x2) = 0 then some ((-1), g) else (if nw (M_isPoint x3) = 0 then some ((-1), g) else (if nw (M_isTime x4) = 0 then some ((-1), g) else (if nw (M_isTime x5) = 0 then some ((-1), g) else (if nw (g 117 49) = 20 then some ((-1), g) else if 0 ≤ nw (g 117 49) ∧ nw (g 117 49) < 20 then (some (up g 149 (ix (g 117 49)) x1) >>= fun (g8 : AG) => if 0 ≤ nw (g8 117 49) ∧ nw (g8 117 49) < 20 then (some (up g8 150 (ix (g8 117 49)) x2) >>= fun (g11 : AG) => if 0 ≤ nw (g11 117 49) ∧ nw (g11 117 49) < 20 then (some (up g11 151 (ix (g11 117 49)) x3) >>= fun (g14 : AG) => if 0 ≤ nw (g14 117 49) ∧ nw (g14 117 49) < 20 then (some (up g14 152 (ix (g14 117 49)) x4) >>= fun (g17 : AG) => if 0 ≤ nw (g17 117 49) ∧ nw (g17 117 49) < 20 then (some (up g17 153 (ix (g17 117 49)) x5) >>= fun (g20 : AG) => (some (up g20 117 49 ((g20 117 49) + 1)) >>= fun (g22 : AG) => some (((g22 117 49) - 1), g22))) else none) else none) else none) else none) else none))))))
def M_lateOf (x1 : Int) (g : AG) : Option (Int × AG) :=
  if 0 ≤ nw x1 ∧ nw x1 < 20 then (M_led (g 149 (ix x1)) (g 150 (ix x1)) (g 151 (ix x1)) (g 152 (ix x1)) g >>= fun (r2 : Int × AG) => (((if nw r2.1 = (-1) then some (20160, r2.2) else (if nw r2.1 ≤ nw (r2.2 153 (ix x1)) then some (0, r2.2) else some ((r2.1 - (r2.2 153 (ix x1))), r2.2))) : Option (Int × AG)) >>= fun (r6 : Int × AG) => some (r6.1, r6.2))) else none
set_option synthInstance.maxHeartbeats 2000000 in
def M_late_b (x2 : Int) (x3 : Int) (g : AG) : Option (Int × AG) :=
  (if nw (g 117 49) ≤ nw x3 then some (x2, g) else (M_lateOf x3 g >>= fun (r2 : Int × AG) => (some ((if nw r2.1 ≤ 0 then 0 else 1)) >>= fun (t4 : Int) => M_late_b (x2 + t4) (x3 + 1) r2.2)))
partial_fixpoint
def M_late (x1 : Int) (g : AG) : Option (Int × AG) :=
  (if nw x1 = (-1) then M_late_b 0 0 g else (((if nw (M_isIn x1 0 ((g 117 49) - 1)) = 0 then some ((-1), g) else (M_lateOf x1 g >>= fun (r3 : Int × AG) => some (r3.1, r3.2))) : Option (Int × AG)) >>= fun (r5 : Int × AG) => some (r5.1, r5.2)))
def M_price (x1 : Int) (x2 : Int) (x3 : Int) (g : AG) : Option (Int × AG) :=
  (if nw (M_isBoat x1 g) = 0 then some ((-1000000), g) else (if nw (M_isIn x2 0 9) = 0 then some ((-1000000), g) else (M_forgets g >>= fun (r3 : Int × AG) => (some (up r3.2 148 (ix 2) x2) >>= fun (g5 : AG) => if 0 ≤ nw x1 ∧ nw x1 < 10 then (some (up g5 148 (ix 4) (g5 124 (ix x1))) >>= fun (g8 : AG) => (some ((if nw x3 = 0 then 0 else 1)) >>= fun (t10 : Int) => (some (up g8 148 (ix 5) t10) >>= fun (g12 : AG) => (some (up g12 148 (ix 6) (g12 125 (ix x1))) >>= fun (g14 : AG) => (M_serves 2 g14 >>= fun (r16 : Int × AG) => (some ((if nw r16.1 = (-1) then 0 else 1)) >>= fun (t18 : Int) => (some (up r16.2 117 100 t18) >>= fun (g20 : AG) => (((if nw r16.1 = (-1) then some ((-1000000), g20) else if 0 ≤ nw r16.1 ∧ nw r16.1 < 16 then (M_comesTo (g20 131 (ix r16.1)) (g20 132 (ix r16.1)) g20 >>= fun (r24 : Int × AG) => some (r24.1, r24.2)) else none) : Option (Int × AG)) >>= fun (r26 : Int × AG) => some (r26.1, r26.2))))))))) else none))))
def M_refund (x1 : Int) (g : AG) : Option (Int × AG) :=
  (M_lateOf x1 g >>= fun (r1 : Int × AG) => (if nw r1.1 = 0 then some (0, r1.2) else if 0 ≤ nw x1 ∧ nw x1 < 20 then (some ((if nw (r1.2 150 (ix x1)) = nw (r1.2 151 (ix x1)) then 0 else 1)) >>= fun (t5 : Int) => (M_price (r1.2 149 (ix x1)) ((nw ((nw (r1.2 152 (ix x1))).tdiv 1440)).tdiv 7) t5 r1.2 >>= fun (r7 : Int × AG) => (((if nw (r7.2 117 100) = 0 then some ((-1000000), r7.2) else (some ((if nw ((nw (r1.1 + 1439)).tdiv 1440) ≤ 7 then ((nw (r1.1 + 1439)).tdiv 1440) else 7)) >>= fun (t10 : Int) => some (((nl ((nw r7.1) * (nw t10))).tdiv 7), r7.2))) : Option (Int × AG)) >>= fun (r13 : Int × AG) => some (r13.1, r13.2)))) else none))
set_option synthInstance.maxHeartbeats 2000000 in
def M_turningBack_b (x1 : Int) (x3 : Int) (tag : Nat) (x2 : Int) (x4 : Int) (g : AG) : Option (Int × AG) :=
  (if tag = 1 then if 0 ≤ nw x1 ∧ nw x1 < 20 then (if nw (((g 151 (ix x1)) - (g 150 (ix x1))) * x3) < nw x4 then M_turningBack_b x1 x3 2 x2 x4 g else (if nw (g 153 (ix x1)) < nw (g 152 (ix x1)) then M_turningBack_b x1 x3 2 x2 x4 g else (M_led (g 149 (ix x1)) (g 150 (ix x1)) ((g 150 (ix x1)) + (x4 * x3)) (g 152 (ix x1)) g >>= fun (r4 : Int × AG) => (if nw r4.1 = (-1) then (some ((if nw x2 = (-1) then (-1000000) else x2)) >>= fun (t13 : Int) => some (t13, r4.2)) else (M_led (r4.2 149 (ix x1)) ((g 150 (ix x1)) + (x4 * x3)) (r4.2 150 (ix x1)) r4.1 r4.2 >>= fun (r7 : Int × AG) => (((if nw r7.1 = (-1) then some (x2, r7.2) else (if nw (r7.2 153 (ix x1)) < nw r7.1 then some (x2, r7.2) else some (((g 150 (ix x1)) + (x4 * x3)), r7.2))) : Option (Int × AG)) >>= fun (r11 : Int × AG) => M_turningBack_b x1 x3 1 r11.1 (x4 + 1) r11.2)))))) else none else (if tag = 2 then (some ((if nw x2 = (-1) then (-1000000) else x2)) >>= fun (t1 : Int) => some (t1, g)) else none))
partial_fixpoint
def M_turningBack (x1 : Int) (g : AG) : Option (Int × AG) :=
  if 0 ≤ nw x1 ∧ nw x1 < 20 then (some ((if nw (g 151 (ix x1)) ≤ nw (g 150 (ix x1)) then (-1) else 1)) >>= fun (t2 : Int) => M_turningBack_b x1 t2 1 (-1) 0 g) else none
def M_back (x1 : Int) (x2 : Int) (g : AG) : Option (Int × AG) :=
  (((if nw (M_isIn x1 0 ((g 117 49) - 1)) = 0 then some ((-1000000), g) else (if nw (M_isIn x2 0 1) = 0 then some ((-1000000), g) else (if nw x2 = 0 then (M_turningBack x1 g >>= fun (r6 : Int × AG) => some (r6.1, r6.2)) else (M_refund x1 g >>= fun (r4 : Int × AG) => some (r4.1, r4.2))))) : Option (Int × AG)) >>= fun (r8 : Int × AG) => some (r8.1, r8.2))
set_option synthInstance.maxHeartbeats 2000000 in
def M_rung_b (x2 : Int) (x1 : Int) (x3 : Int) (g : AG) : Option (Int × AG) :=
  (if nw (g 117 49) ≤ nw x3 then some (x1, g) else (M_lateOf x3 g >>= fun (r2 : Int × AG) => (some ((if nw r2.1 ≤ 0 then 0 else 1)) >>= fun (t4 : Int) => (some (up r2.2 117 11 0) >>= fun (g6 : AG) => (((if nw t4 = 0 then some (x1, g6) else (M_lateOf x3 g6 >>= fun (r9 : Int × AG) => (if nw r9.1 = 0 then some ((orI x1 (shlI 1 x3)), r9.2) else some (x1, r9.2)))) : Option (Int × AG)) >>= fun (r12 : Int × AG) => (some (up r12.2 117 11 x2) >>= fun (g14 : AG) => M_rung_b x2 r12.1 (x3 + 1) g14))))))
partial_fixpoint
def M_rung (g : AG) : Option (Int × AG) :=
  M_rung_b (g 117 11) 0 0 g
def M_pump (x1 : Int) (x2 : Int) (g : AG) : Option (Int × AG) :=
  (if nw (M_isPoint x1) = 0 then some (0, g) else if 0 ≤ nw x1 ∧ nw x1 < 16 then if x2 = 0 ∨ x2 = 1 then (some (up g 154 (ix x1) x2) >>= fun (g4 : AG) => some (1, g4)) else none else none)
set_option synthInstance.maxHeartbeats 2000000 in
def M_pumped_b (x1 : Int) (x2 : Int) (x3 : Int) (x4 : Int) (x5 : Int) (x6 : Int) (x7 : Int) (x8 : Int) (g : AG) : Option (Int × AG) :=
  (if 16 ≤ nw x8 then (some ((if nw x6 = (-1) then x6 else (if nw x5 = 0 then x6 else (if nw x5 = 1 then x7 else (if nw x7 ≤ nw (x4 + 10080) then 0 else 1))))) >>= fun (t2 : Int) => some (t2, g)) else if 0 ≤ nw x8 ∧ nw x8 < 16 then (((if nw (g 154 (ix x8)) = 0 then some ((-1), g) else (M_led x1 x2 x8 x3 g >>= fun (r10 : Int × AG) => some (r10.1, r10.2))) : Option (Int × AG)) >>= fun (r12 : Int × AG) => (((if nw r12.1 = (-1) then some (x6, x7, r12.2) else (if nw x6 = (-1) then some (x8, r12.1, r12.2) else (if nw r12.1 < nw x7 then some (x8, r12.1, r12.2) else some (x6, x7, r12.2)))) : Option (Int × Int × AG)) >>= fun (r17 : Int × Int × AG) => M_pumped_b x1 x2 x3 x4 x5 r17.1 r17.2.1 (x8 + 1) r17.2.2)) else none)
partial_fixpoint
def M_pumped (x1 : Int) (x2 : Int) (x3 : Int) (x4 : Int) (x5 : Int) (g : AG) : Option (Int × AG) :=
  (if nw (M_isBoat x1 g) = 0 then some ((-1), g) else (if nw (M_isPoint x2) = 0 then some ((-1), g) else (if nw (M_isTime x3) = 0 then some ((-1), g) else (if nw (M_isIn x4 0 x3) = 0 then some ((-1), g) else (if nw (M_isIn x5 0 2) = 0 then some ((-1), g) else M_pumped_b x1 x2 x3 x4 x5 (-1) (-1) 0 g)))))
set_option synthInstance.maxHeartbeats 2000000 in
def M_log_b (x1 : Int) (x2 : Int) (x3 : Int) (g : AG) : Option (Int × AG) :=
  if 0 ≤ nw x1 ∧ nw x1 < 10 then if 0 ≤ nw ((10 * x1) + (g 155 (ix x1))) ∧ nw ((10 * x1) + (g 155 (ix x1))) < 100 then (some (up g 156 (ix ((10 * x1) + (g 155 (ix x1)))) x2) >>= fun (g3 : AG) => if 0 ≤ nw ((10 * x1) + (g3 155 (ix x1))) ∧ nw ((10 * x1) + (g3 155 (ix x1))) < 100 then (some (up g3 157 (ix ((10 * x1) + (g3 155 (ix x1)))) x3) >>= fun (g6 : AG) => (some (up g6 155 (ix x1) ((g6 155 (ix x1)) + 1)) >>= fun (g8 : AG) => some ((g8 155 (ix x1)), g8))) else none) else none else none
partial_fixpoint
def M_log (x1 : Int) (x2 : Int) (x3 : Int) (g : AG) : Option (Int × AG) :=
  (if nw (M_isBoat x1 g) = 0 then some ((-1), g) else (if nw (M_isPoint x2) = 0 then some ((-1), g) else (if nw (M_isTime x3) = 0 then some ((-1), g) else if 0 ≤ nw x1 ∧ nw x1 < 10 then (if nw (g 155 (ix x1)) = 10 then some ((-1), g) else (if nw (g 155 (ix x1)) ≤ 0 then M_log_b x1 x2 x3 g else if 0 ≤ nw (((10 * x1) + (g 155 (ix x1))) - 1) ∧ nw (((10 * x1) + (g 155 (ix x1))) - 1) < 100 then (if nw (g 157 (ix (((10 * x1) + (g 155 (ix x1))) - 1))) < nw x3 then M_log_b x1 x2 x3 g else some ((-1), g)) else none)) else none)))
def M_isSpan (x0 : Int) (x1 : Int) : Int :=
  (if nw (M_isTime x0) = 0 then 0 else (if nw (M_isIn x1 x0 20159) = 0 then 0 else 1))
theorem M_isSpan_01 {x0 : Int} {x1 : Int} : (M_isSpan x0 x1) = 0 ∨ (M_isSpan x0 x1) = 1 := by
  unfold M_isSpan
  (repeat' split) <;> first | exact Or.inl rfl | exact Or.inr rfl | exact M_isIn_01 | exact M_isTime_01
set_option synthInstance.maxHeartbeats 2000000 in
def M_between_b (x1 : Int) (x2 : Int) (x5 : Int) (x8 : Int) (x9 : Int) (g : AG) : Option (Int × AG) :=
  (if nw x9 = 0 then if 0 ≤ nw (((10 * x1) + x5) + 1) ∧ nw (((10 * x1) + x5) + 1) < 100 then (M_led x1 x2 (g 156 (ix (((10 * x1) + x5) + 1))) x8 g >>= fun (r3 : Int × AG) => (((if nw r3.1 = (-1) then some (0, r3.2) else (some ((if nw (r3.2 157 (ix (((10 * x1) + x5) + 1))) < nw r3.1 then 0 else 1)) >>= fun (t6 : Int) => some (t6, r3.2))) : Option (Int × AG)) >>= fun (r9 : Int × AG) => if r9.1 = 0 ∨ r9.1 = 1 then some (r9.1, r9.2) else none)) else none else some (1, g))
partial_fixpoint
def M_between (x1 : Int) (x2 : Int) (x3 : Int) (x4 : Int) (x5 : Int) (g : AG) : Option (Int × AG) :=
  (((if nw x5 = (-1) then some (0, g) else if 0 ≤ nw ((10 * x1) + x5) ∧ nw ((10 * x1) + x5) < 100 then some ((g 157 (ix ((10 * x1) + x5))), g) else none) : Option (Int × AG)) >>= fun (r3 : Int × AG) => (((if nw x5 = (-1) then if 0 ≤ nw x1 ∧ nw x1 < 10 then some ((r3.2 126 (ix x1)), r3.2) else none else if 0 ≤ nw ((10 * x1) + x5) ∧ nw ((10 * x1) + x5) < 100 then some ((r3.2 156 (ix ((10 * x1) + x5))), r3.2) else none) : Option (Int × AG)) >>= fun (r8 : Int × AG) => (M_led x1 r8.1 x2 r3.1 r8.2 >>= fun (r10 : Int × AG) => (if nw r10.1 = (-1) then some (0, r10.2) else (some ((if nw r10.1 ≤ nw x3 then x3 else r10.1)) >>= fun (t13 : Int) => if 0 ≤ nw x1 ∧ nw x1 < 10 then (some ((if nw (x5 + 1) = nw (r10.2 155 (ix x1)) then 1 else 0)) >>= fun (t16 : Int) => (if nw x4 < nw t13 then some (0, r10.2) else (if nw t16 = 0 then if 0 ≤ nw (((10 * x1) + x5) + 1) ∧ nw (((10 * x1) + x5) + 1) < 100 then (if nw t13 < nw (r10.2 157 (ix (((10 * x1) + x5) + 1))) then M_between_b x1 x2 x5 t13 t16 r10.2 else some (0, r10.2)) else none else M_between_b x1 x2 x5 t13 t16 r10.2))) else none)))))
set_option synthInstance.maxHeartbeats 2000000 in
def M_canHaveBeen_b (x1 : Int) (x2 : Int) (x3 : Int) (x4 : Int) (x5 : Int) (g : AG) : Option (Int × AG) :=
  if 0 ≤ nw x1 ∧ nw x1 < 10 then (if nw (g 155 (ix x1)) ≤ nw x5 then some (0, g) else (M_between x1 x2 x3 x4 x5 g >>= fun (r3 : Int × AG) => (if nw r3.1 = 0 then M_canHaveBeen_b x1 x2 x3 x4 (x5 + 1) r3.2 else some (1, r3.2)))) else none
partial_fixpoint
def M_canHaveBeen (x1 : Int) (x2 : Int) (x3 : Int) (x4 : Int) (g : AG) : Option (Int × AG) :=
  M_canHaveBeen_b x1 x2 x3 x4 (-1) g
def M_could (x1 : Int) (x2 : Int) (x3 : Int) (x4 : Int) (g : AG) : Option (Int × AG) :=
  (((if nw (M_isBoat x1 g) = 0 then some ((-1), g) else (if nw (M_isPoint x2) = 0 then some ((-1), g) else (if nw (M_isSpan x3 x4) = 0 then some ((-1), g) else (M_canHaveBeen x1 x2 x3 x4 g >>= fun (r4 : Int × AG) => (some ((if nw r4.1 = 0 then 0 else 1)) >>= fun (t6 : Int) => some (t6, r4.2)))))) : Option (Int × AG)) >>= fun (r9 : Int × AG) => some (r9.1, r9.2))
set_option synthInstance.maxHeartbeats 2000000 in
def M_whose_b (x1 : Int) (x2 : Int) (x3 : Int) (x4 : Int) (x5 : Int) (x6 : Int) (x7 : Int) (x8 : Int) (g : AG) : Option (Int × AG) :=
  (if nw (g 117 12) ≤ nw x8 then (some ((if nw x4 = 0 then x5 else (if nw x7 = 1 then x6 else (-1)))) >>= fun (t2 : Int) => some (t2, g)) else (M_canHaveBeen x8 x1 x2 x3 g >>= fun (r6 : Int × AG) => (((if nw r6.1 = 0 then some (x5, x6, x7, r6.2) else some ((orI x5 (shlI 1 x8)), x8, (x7 + 1), r6.2)) : Option (Int × Int × Int × AG)) >>= fun (r9 : Int × Int × Int × AG) => M_whose_b x1 x2 x3 x4 r9.1 r9.2.1 r9.2.2.1 (x8 + 1) r9.2.2.2)))
partial_fixpoint
def M_whose (x1 : Int) (x2 : Int) (x3 : Int) (x4 : Int) (g : AG) : Option (Int × AG) :=
  (if nw (M_isPoint x1) = 0 then some ((-1), g) else (if nw (M_isSpan x2 x3) = 0 then some ((-1), g) else (if nw (M_isIn x4 0 1) = 0 then some ((-1), g) else M_whose_b x1 x2 x3 x4 0 (-1) 0 0 g)))
set_option synthInstance.maxHeartbeats 2000000 in
def M_tonight_b (x1 : Int) (x2 : Int) (tag : Nat) (p : Int × Int × Int × Int × Int × Int × Int) (g : AG) : Option (Int × AG) :=
  (if tag = 1 then (if 16 ≤ nw p.2.2.1 then (some ((if nw x2 = 16 then p.1 else p.2.1)) >>= fun (t2 : Int) => some (t2, g)) else M_tonight_b x1 x2 2 (p.1, p.2.1, p.2.2.1, 0, 0, 0, p.2.2.2.2.2.2) g) else (if tag = 2 then (if nw (g 117 12) ≤ nw p.2.2.2.2.2.1 then (if nw p.2.2.1 = nw x2 then some (p.2.2.2.1, g) else (some ((if nw p.2.2.2.2.1 ≤ nw p.2.1 then p.1 else p.2.2.1)) >>= fun (t3 : Int) => (some ((if nw p.2.2.2.2.1 ≤ nw p.2.1 then p.2.1 else p.2.2.2.2.1)) >>= fun (t5 : Int) => M_tonight_b x1 x2 1 (t3, t5, (p.2.2.1 + 1), p.2.2.2.1, p.2.2.2.2.1, p.2.2.2.2.2.1, p.2.2.2.2.2.2) g))) else M_tonight_b x1 x2 3 (p.1, p.2.1, p.2.2.1, p.2.2.2.1, p.2.2.2.2.1, p.2.2.2.2.2.1, (-1)) g) else (if tag = 3 then if 0 ≤ nw p.2.2.2.2.2.1 ∧ nw p.2.2.2.2.2.1 < 10 then (if nw (g 155 (ix p.2.2.2.2.2.1)) ≤ nw (p.2.2.2.2.2.2 + 1) then M_tonight_b x1 x2 4 (p.1, p.2.1, p.2.2.1, p.2.2.2.1, p.2.2.2.2.1, p.2.2.2.2.2.1, p.2.2.2.2.2.2) g else if 0 ≤ nw (((10 * p.2.2.2.2.2.1) + p.2.2.2.2.2.2) + 1) ∧ nw (((10 * p.2.2.2.2.2.1) + p.2.2.2.2.2.2) + 1) < 100 then (if nw x1 < nw (g 157 (ix (((10 * p.2.2.2.2.2.1) + p.2.2.2.2.2.2) + 1))) then M_tonight_b x1 x2 4 (p.1, p.2.1, p.2.2.1, p.2.2.2.1, p.2.2.2.2.1, p.2.2.2.2.2.1, p.2.2.2.2.2.2) g else M_tonight_b x1 x2 3 (p.1, p.2.1, p.2.2.1, p.2.2.2.1, p.2.2.2.2.1, p.2.2.2.2.2.1, (p.2.2.2.2.2.2 + 1)) g) else none) else none else (if tag = 4 then (((if nw p.2.2.2.2.2.2 = (-1) then if 0 ≤ nw p.2.2.2.2.2.1 ∧ nw p.2.2.2.2.2.1 < 10 then (M_led p.2.2.2.2.2.1 (g 126 (ix p.2.2.2.2.2.1)) p.2.2.1 0 g >>= fun (r6 : Int × AG) => some (r6.1, r6.2)) else none else if 0 ≤ nw ((10 * p.2.2.2.2.2.1) + p.2.2.2.2.2.2) ∧ nw ((10 * p.2.2.2.2.2.1) + p.2.2.2.2.2.2) < 100 then (M_led p.2.2.2.2.2.1 (g 156 (ix ((10 * p.2.2.2.2.2.1) + p.2.2.2.2.2.2))) p.2.2.1 (g 157 (ix ((10 * p.2.2.2.2.2.1) + p.2.2.2.2.2.2))) g >>= fun (r3 : Int × AG) => some (r3.1, r3.2)) else none) : Option (Int × AG)) >>= fun (r8 : Int × AG) => (((if nw r8.1 = (-1) then some (p.2.2.2.1, p.2.2.2.2.1, r8.2) else (if nw r8.1 ≤ nw x1 then some ((orI p.2.2.2.1 (shlI 1 p.2.2.2.2.2.1)), (p.2.2.2.2.1 + 1), r8.2) else some (p.2.2.2.1, p.2.2.2.2.1, r8.2))) : Option (Int × Int × AG)) >>= fun (r12 : Int × Int × AG) => M_tonight_b x1 x2 2 (p.1, p.2.1, p.2.2.1, r12.1, r12.2.1, (p.2.2.2.2.2.1 + 1), p.2.2.2.2.2.2) r12.2.2)) else none))))
partial_fixpoint
def M_tonight (x1 : Int) (x2 : Int) (g : AG) : Option (Int × AG) :=
  (if nw (M_isTime x1) = 0 then some ((-1), g) else (if nw (M_isIn x2 0 17) = 0 then some ((-1), g) else M_tonight_b x1 x2 1 (0, 0, 0, 0, 0, 0, 0) g))
set_option synthInstance.maxHeartbeats 2000000 in
def M_queue_b (x1 : Int) (x2 : Int) (g : AG) : Option (Int × AG) :=
  if 0 ≤ nw (g 117 59) ∧ nw (g 117 59) < 7 then (some (up g 158 (ix (g 117 59)) x1) >>= fun (g2 : AG) => if 0 ≤ nw (g2 117 59) ∧ nw (g2 117 59) < 7 then (some (up g2 159 (ix (g2 117 59)) x2) >>= fun (g5 : AG) => (some (up g5 117 59 ((g5 117 59) + 1)) >>= fun (g7 : AG) => some ((g7 117 59), g7))) else none) else none
partial_fixpoint
def M_queue (x1 : Int) (x2 : Int) (g : AG) : Option (Int × AG) :=
  (if nw x2 = (-1) then (some (up g 117 59 0) >>= fun (g8 : AG) => some (0, g8)) else (if nw (M_isIn x1 0 9999) = 0 then some ((-1), g) else (if nw (M_isIn x2 0 1) = 0 then some ((-1), g) else (if nw (g 117 59) = 7 then some ((-1), g) else (if nw (g 117 59) ≤ 0 then M_queue_b x1 x2 g else if 0 ≤ nw ((g 117 59) - 1) ∧ nw ((g 117 59) - 1) < 7 then (if nw (g 158 (ix ((g 117 59) - 1))) ≤ nw x1 then M_queue_b x1 x2 g else some ((-1), g)) else none)))))
set_option synthInstance.maxHeartbeats 2000000 in
def M_waits_b (g : AG) (x1 : Int) (x2 : Int) (x3 : Int) : Option Int :=
  (if nw (g 117 59) ≤ nw x3 then some x2 else if 0 ≤ nw x3 ∧ nw x3 < 7 then if 0 ≤ nw (g 160 (ix x3)) ∧ nw (g 160 (ix x3)) < 7 then (((if nw (g 158 (ix (g 160 (ix x3)))) ≤ nw x1 then some (x1) else some ((g 158 (ix (g 160 (ix x3)))))) : Option (Int)) >>= fun (r5 : Int) => (((if nw x3 ≤ 0 then some (0) else if 0 ≤ nw (x3 - 1) ∧ nw (x3 - 1) < 7 then if 0 ≤ nw (g 160 (ix (x3 - 1))) ∧ nw (g 160 (ix (x3 - 1))) < 7 then (some ((if nw (g 159 (ix (g 160 (ix (x3 - 1))))) = nw (g 159 (ix (g 160 (ix x3)))) then 5 else 0)) >>= fun (t10 : Int) => some (t10)) else none else none) : Option (Int)) >>= fun (r13 : Int) => M_waits_b g ((r5 + 15) + r13) (x2 + (r5 - (g 158 (ix (g 160 (ix x3)))))) (x3 + 1))) else none else none)
partial_fixpoint
def M_waits (g : AG) : Option Int :=
  M_waits_b g 0 0 0
set_option synthInstance.maxHeartbeats 2000000 in
def M_orders_b (rec : Int → Int → AG → Option (Int × AG)) (x1 : Int) (x2 : Int) (tag : Nat) (x3 : Int) (x4 : Int) (g : AG) : Option (Int × AG) :=
  (if tag = 1 then (some (up g 117 64 x3) >>= fun (g1 : AG) => M_orders_b rec x1 x2 2 x3 0 g1) else (if tag = 2 then (if nw (g 117 59) ≤ nw x4 then some (0, g) else if 0 ≤ nw x4 ∧ nw x4 < 7 then (some (up g 161 (ix x4) (g 160 (ix x4))) >>= fun (g3 : AG) => M_orders_b rec x1 x2 2 x3 (x4 + 1) g3) else none) else (if tag = 3 then (if nw (g 117 59) ≤ nw x3 then some (0, g) else (((if nw (andI (shrI x2 x3) 1) = 1 then some g else if 0 ≤ nw x1 ∧ nw x1 < 7 then (some (up g 160 (ix x1) x3) >>= fun (g4 : AG) => (rec (x1 + 1) (orI x2 (shlI 1 x3)) g4 >>= fun (r6 : Int × AG) => some r6.2)) else none) : Option (AG)) >>= fun (r8 : AG) => M_orders_b rec x1 x2 3 (x3 + 1) x4 r8)) else none)))
partial_fixpoint
def M_orders_s (rec : Int → Int → AG → Option (Int × AG)) (x1 : Int) (x2 : Int) (g : AG) : Option (Int × AG) :=
  (if nw x1 = nw (g 117 59) then (M_waits g >>= fun (r2 : Int) => (if nw (g 117 64) = (-1) then M_orders_b rec 0 0 1 r2 0 g else (if nw r2 < nw (g 117 64) then M_orders_b rec 0 0 1 r2 0 g else some (0, g)))) else M_orders_b rec x1 x2 3 0 0 g)
def M_orders : Nat → Int → Int → AG → Option (Int × AG)
  | 0 => fun _ _ _ => none
  | n + 1 => fun x1 x2 g => M_orders_s (M_orders n) x1 x2 g
set_option synthInstance.maxHeartbeats 2000000 in
def M_asTheyCome_b (x1 : Int) (g : AG) : Option (Int × AG) :=
  (if nw (g 117 59) ≤ nw x1 then some (0, g) else if 0 ≤ nw x1 ∧ nw x1 < 7 then (some (up g 160 (ix x1) x1) >>= fun (g3 : AG) => M_asTheyCome_b (x1 + 1) g3) else none)
partial_fixpoint
def M_asTheyCome (g : AG) : Option (Int × AG) :=
  M_asTheyCome_b 0 g
set_option synthInstance.maxHeartbeats 2000000 in
def M_lockfuls_b (g : AG) (x1 : Int) (x2 : Int) : Option Int :=
  (if nw (g 117 59) ≤ nw x2 then some x1 else if 0 ≤ nw x2 ∧ nw x2 < 7 then if 0 ≤ nw (g 160 (ix x2)) ∧ nw (g 160 (ix x2)) < 7 then if 0 ≤ nw (x2 - 1) ∧ nw (x2 - 1) < 7 then if 0 ≤ nw (g 160 (ix (x2 - 1))) ∧ nw (g 160 (ix (x2 - 1))) < 7 then (some ((if nw (g 159 (ix (g 160 (ix x2)))) = nw (g 159 (ix (g 160 (ix (x2 - 1))))) then 0 else 1)) >>= fun (t6 : Int) => M_lockfuls_b g (x1 - t6) (x2 + 1)) else none else none else none else none)
partial_fixpoint
def M_lockfuls (g : AG) : Option Int :=
  M_lockfuls_b g (g 117 59) 1
set_option synthInstance.maxHeartbeats 2000000 in
def M_lock_b (x1 : Int) (tag : Nat) (x2 : Int) (g : AG) : Option (Int × AG) :=
  (if tag = 1 then (some (up g 117 64 (-1)) >>= fun (g1 : AG) => (M_orders 9 0 0 g1 >>= fun (r3 : Int × AG) => (if nw x1 < 10 then (M_asTheyCome r3.2 >>= fun (r6 : Int × AG) => (if nw x1 = 1 then M_lock_b x1 2 x2 r6.2 else (if nw x1 = 3 then M_lock_b x1 2 x2 r6.2 else M_lock_b x1 4 x2 r6.2))) else if 0 ≤ nw (x1 - 10) ∧ nw (x1 - 10) < 7 then some ((r3.2 161 (ix (x1 - 10))), r3.2) else none))) else (if tag = 2 then M_lock_b x1 3 0 g else (if tag = 3 then (if nw (g 117 59) ≤ nw x2 then M_lock_b x1 4 x2 g else if 0 ≤ nw x2 ∧ nw x2 < 7 then (some (up g 160 (ix x2) (g 161 (ix x2))) >>= fun (g3 : AG) => M_lock_b x1 3 (x2 + 1) g3) else none) else (if tag = 4 then (((if 2 ≤ nw x1 then (M_lockfuls g >>= fun (r2 : Int) => some (r2, g)) else (M_waits g >>= fun (r4 : Int) => some (r4, g))) : Option (Int × AG)) >>= fun (r6 : Int × AG) => some (r6.1, r6.2)) else none))))
partial_fixpoint
def M_lock (x1 : Int) (g : AG) : Option (Int × AG) :=
  (if nw (M_isIn x1 0 3) = 0 then (if nw (M_isIn x1 10 (9 + (g 117 59))) = 0 then some ((-1), g) else M_lock_b x1 1 0 g) else M_lock_b x1 1 0 g)
def M_booking (x1 : Int) (x2 : Int) (x3 : Int) (x4 : Int) (g : AG) : Option (Int × AG) :=
  (if nw (M_isPoint x1) = 0 then some ((-1), g) else (if nw (M_isPoint x2) = 0 then some ((-1), g) else (if nw (M_isIn x3 0 9) = 0 then some ((-1), g) else (if nw (M_isIn x4 2 12) = 0 then some ((-1), g) else (if nw (g 117 65) = 8 then some ((-1), g) else if 0 ≤ nw (g 117 65) ∧ nw (g 117 65) < 8 then (some (up g 162 (ix (g 117 65)) x1) >>= fun (g7 : AG) => if 0 ≤ nw (g7 117 65) ∧ nw (g7 117 65) < 8 then (some (up g7 163 (ix (g7 117 65)) x2) >>= fun (g10 : AG) => if 0 ≤ nw (g10 117 65) ∧ nw (g10 117 65) < 8 then (some (up g10 164 (ix (g10 117 65)) x3) >>= fun (g13 : AG) => if 0 ≤ nw (g13 117 65) ∧ nw (g13 117 65) < 8 then (some (up g13 165 (ix (g13 117 65)) x4) >>= fun (g16 : AG) => (some (up g16 117 65 ((g16 117 65) + 1)) >>= fun (g18 : AG) => some (((g18 117 65) - 1), g18))) else none) else none) else none) else none)))))
set_option synthInstance.maxHeartbeats 2000000 in
def M_asks_b (x1 : Int) (x2 : Int) (g : AG) : Option (Int × AG) :=
  (if nw x1 ≤ nw x2 then some (0, g) else if 0 ≤ nw x2 ∧ nw x2 < 10 then if 0 ≤ nw x2 ∧ nw x2 < 4 then (some (up g 171 (ix x2) (g 124 (ix x2))) >>= fun (g4 : AG) => (some (up g4 172 (ix x2) (g4 126 (ix x2))) >>= fun (g6 : AG) => M_asks_b x1 (x2 + 1) g6)) else none else none)
partial_fixpoint
def M_asks (x1 : Int) (g : AG) : Option (Int × AG) :=
  M_asks_b x1 0 g
set_option synthInstance.maxHeartbeats 2000000 in
def M_sorts_b (tag : Nat) (x1 : Int) (x2 : Int) (g : AG) : Option (Int × AG) :=
  (if tag = 1 then (if nw (g 117 65) ≤ nw x1 then some (0, g) else M_sorts_b 2 x1 x1 g) else (if tag = 2 then (if nw x2 ≤ 0 then M_sorts_b 3 x1 x2 g else if 0 ≤ nw (x2 - 1) ∧ nw (x2 - 1) < 8 then if 0 ≤ nw (g 166 (ix (x2 - 1))) ∧ nw (g 166 (ix (x2 - 1))) < 8 then if 0 ≤ nw x1 ∧ nw x1 < 8 then (if nw (g 164 (ix (g 166 (ix (x2 - 1))))) ≤ nw (g 164 (ix x1)) then M_sorts_b 3 x1 x2 g else if 0 ≤ nw x2 ∧ nw x2 < 8 then (some (up g 166 (ix x2) (g 166 (ix (x2 - 1)))) >>= fun (g7 : AG) => M_sorts_b 2 x1 (x2 + (-1)) g7) else none) else none else none else none) else (if tag = 3 then if 0 ≤ nw x2 ∧ nw x2 < 8 then (some (up g 166 (ix x2) x1) >>= fun (g2 : AG) => M_sorts_b 1 (x1 + 1) x2 g2) else none else none)))
partial_fixpoint
def M_sorts (g : AG) : Option (Int × AG) :=
  M_sorts_b 1 0 0 g
set_option synthInstance.maxHeartbeats 2000000 in
def M_gives_b (rec : Int → Int → Int → AG → Option (Int × AG)) (x1 : Int) (x2 : Int) (x3 : Int) (tag : Nat) (x4 : Int) (x5 : Int) (g : AG) : Option (Int × AG) :=
  (if tag = 1 then (if nw x2 ≤ nw x5 then (if nw x3 < nw (g 117 66) then some (0, g) else (if nw x3 = nw (g 117 66) then (if nw (g 117 67) < nw x4 then M_gives_b rec x1 x2 x3 2 x4 x5 g else some (0, g)) else M_gives_b rec x1 x2 x3 2 x4 x5 g)) else if 0 ≤ nw x5 ∧ nw x5 < 4 then (some ((if nw (g 169 (ix x5)) = nw (g 172 (ix x5)) then 1 else 0)) >>= fun (t6 : Int) => M_gives_b rec x1 x2 x3 1 (x4 + t6) (x5 + 1) g) else none) else (if tag = 2 then (some (up g 117 66 x3) >>= fun (g1 : AG) => (some (up g1 117 67 x4) >>= fun (g3 : AG) => M_gives_b rec x1 x2 x3 3 x4 0 g3)) else (if tag = 3 then (if nw (g 117 65) ≤ nw x5 then some (0, g) else if 0 ≤ nw x5 ∧ nw x5 < 8 then (some (up g 168 (ix x5) (g 167 (ix x5))) >>= fun (g3 : AG) => M_gives_b rec x1 x2 x3 3 x4 (x5 + 1) g3) else none) else (if tag = 4 then (if nw x2 ≤ nw x5 then if 0 ≤ nw x4 ∧ nw x4 < 8 then (some (up g 167 (ix x4) (-1)) >>= fun (g3 : AG) => (rec (x1 + 1) x2 x3 g3 >>= fun (r5 : Int × AG) => some (0, r5.2))) else none else if 0 ≤ nw x5 ∧ nw x5 < 4 then if 0 ≤ nw x4 ∧ nw x4 < 8 then (((if nw (g 171 (ix x5)) < nw (g 165 (ix x4)) then some g else (if nw (g 169 (ix x5)) = nw (g 162 (ix x4)) then (if nw (g 170 (ix x5)) = nw (g 164 (ix x4)) then some g else (some (up g 169 (ix x5) (g 163 (ix x4))) >>= fun (g12 : AG) => (some (up g12 170 (ix x5) (g12 164 (ix x4))) >>= fun (g14 : AG) => (some (up g14 167 (ix x4) x5) >>= fun (g16 : AG) => (rec (x1 + 1) x2 (x3 + 1) g16 >>= fun (r18 : Int × AG) => (some (up r18.2 169 (ix x5) (g 169 (ix x5))) >>= fun (g20 : AG) => (some (up g20 170 (ix x5) (g 170 (ix x5))) >>= fun (g22 : AG) => some g22))))))) else some g)) : Option (AG)) >>= fun (r24 : AG) => M_gives_b rec x1 x2 x3 4 x4 (x5 + 1) r24) else none else none) else none))))
partial_fixpoint
def M_gives_s (rec : Int → Int → Int → AG → Option (Int × AG)) (x1 : Int) (x2 : Int) (x3 : Int) (g : AG) : Option (Int × AG) :=
  (if nw x1 = nw (g 117 65) then M_gives_b rec 0 x2 x3 1 0 0 g else if 0 ≤ nw x1 ∧ nw x1 < 8 then M_gives_b rec x1 x2 x3 4 (g 166 (ix x1)) 0 g else none)
def M_gives : Nat → Int → Int → Int → AG → Option (Int × AG)
  | 0 => fun _ _ _ _ => none
  | n + 1 => fun x1 x2 x3 g => M_gives_s (M_gives n) x1 x2 x3 g
set_option synthInstance.maxHeartbeats 2000000 in
def M_givesBest_b (x1 : Int) (x2 : Int) (g : AG) : Option (Int × AG) :=
  (if nw x1 ≤ nw x2 then (some (up g 117 66 (-1)) >>= fun (g2 : AG) => (some (up g2 117 67 (-1)) >>= fun (g4 : AG) => (M_gives 10 0 x1 0 g4 >>= fun (r6 : Int × AG) => some (0, r6.2)))) else if 0 ≤ nw x2 ∧ nw x2 < 4 then (some (up g 169 (ix x2) (g 172 (ix x2))) >>= fun (g9 : AG) => (some (up g9 170 (ix x2) (-1)) >>= fun (g11 : AG) => M_givesBest_b x1 (x2 + 1) g11)) else none)
partial_fixpoint
def M_givesBest (x1 : Int) (g : AG) : Option (Int × AG) :=
  (M_sorts g >>= fun (r1 : Int × AG) => M_givesBest_b x1 0 r1.2)
set_option synthInstance.maxHeartbeats 2000000 in
def M_given_b (x1 : Int) (x2 : Int) (g : AG) : Option (Int × AG) :=
  (M_asks x1 g >>= fun (r1 : Int × AG) => (M_givesBest x1 r1.2 >>= fun (r3 : Int × AG) => (((if nw x2 = 0 then some ((r3.2 117 66), r3.2) else (if nw x2 = 1 then some ((r3.2 117 67), r3.2) else if 0 ≤ nw (x2 - 10) ∧ nw (x2 - 10) < 8 then some ((r3.2 168 (ix (x2 - 10))), r3.2) else none)) : Option (Int × AG)) >>= fun (r8 : Int × AG) => some (r8.1, r8.2))))
partial_fixpoint
def M_given (x1 : Int) (x2 : Int) (g : AG) : Option (Int × AG) :=
  (if nw (M_isIn x1 1 4) = 0 then some ((-1), g) else (if nw (g 117 12) < nw x1 then some ((-1), g) else (if nw (M_isIn x2 0 1) = 0 then (if nw (M_isIn x2 10 (9 + (g 117 65))) = 0 then some ((-1), g) else M_given_b x1 x2 g) else M_given_b x1 x2 g)))
def M_more (x1 : Int) (x2 : Int) (x3 : Int) (g : AG) : Option (Int × AG) :=
  (if nw (M_isIn x1 1 3) = 0 then some ((-1), g) else (if nw (g 117 12) < nw x1 then some ((-1), g) else (if nw (M_isIn x2 2 12) = 0 then some ((-1), g) else (if nw (M_isPoint x3) = 0 then some ((-1), g) else (M_asks x1 g >>= fun (r5 : Int × AG) => (M_givesBest x1 r5.2 >>= fun (r7 : Int × AG) => if 0 ≤ nw x1 ∧ nw x1 < 4 then (some (up r7.2 171 (ix x1) x2) >>= fun (g10 : AG) => (some (up g10 172 (ix x1) x3) >>= fun (g12 : AG) => (M_givesBest (x1 + 1) g12 >>= fun (r14 : Int × AG) => some (((r14.2 117 66) - (r7.2 117 66)), r14.2)))) else none))))))
set_option synthInstance.maxHeartbeats 2000000 in
def M_gas_b (x1 : Int) (x2 : Int) (x3 : Int) (tag : Nat) (x4 : Int) (x5 : Int) (g : AG) : Option (Int × AG) :=
  (if tag = 1 then (if nw (g 117 12) ≤ nw x5 then (if nw x3 = 0 then M_gas_b x1 x2 x3 2 x4 x5 g else (if nw x4 = 7 then some (0, g) else M_gas_b x1 x2 x3 2 x4 x5 g)) else (((if nw x5 = nw x1 then some (0, g) else if 0 ≤ nw x5 ∧ nw x5 < 10 then (some ((if nw (g 174 (ix x5)) ≤ 0 then 0 else 1)) >>= fun (t6 : Int) => some (t6, g)) else none) : Option (Int × AG)) >>= fun (r9 : Int × AG) => M_gas_b x1 x2 x3 1 (x4 + r9.1) (x5 + 1) r9.2)) else (if tag = 2 then if 0 ≤ nw x1 ∧ nw x1 < 10 then (some (up g 173 (ix x1) x2) >>= fun (g2 : AG) => (some (up g2 174 (ix x1) x3) >>= fun (g4 : AG) => some (1, g4))) else none else none))
partial_fixpoint
def M_gas (x1 : Int) (x2 : Int) (x3 : Int) (g : AG) : Option (Int × AG) :=
  (if nw (M_isBoat x1 g) = 0 then some (0, g) else (if nw (M_isIn x2 0 999) = 0 then some (0, g) else (if nw (M_isIn x3 0 60) = 0 then some (0, g) else M_gas_b x1 x2 x3 1 0 0 g)))
set_option synthInstance.maxHeartbeats 2000000 in
def M_docksOn_b (rec : Int → Int → Int → Int → Int → AG → Option (Int × AG)) (x1 : Int) (x2 : Int) (x3 : Int) (x4 : Int) (x5 : Int) (tag : Nat) (x6 : Int) (g : AG) : Option (Int × AG) :=
  (if tag = 1 then (some (up g 117 85 x4) >>= fun (g1 : AG) => (some (up g1 117 86 x5) >>= fun (g3 : AG) => M_docksOn_b rec x1 x2 x3 x4 x5 2 0 g3)) else (if tag = 2 then (if nw (g 117 84) ≤ nw x6 then some (0, g) else if 0 ≤ nw x6 ∧ nw x6 < 7 then (some (up g 177 (ix x6) (g 176 (ix x6))) >>= fun (g3 : AG) => M_docksOn_b rec x1 x2 x3 x4 x5 2 (x6 + 1) g3) else none) else (if tag = 3 then (if nw (g 117 84) ≤ nw x6 then some (0, g) else (((if nw (andI (shrI x2 x6) 1) = 1 then some g else if 0 ≤ nw x6 ∧ nw x6 < 7 then if 0 ≤ nw (g 175 (ix x6)) ∧ nw (g 175 (ix x6)) < 10 then if 0 ≤ nw x1 ∧ nw x1 < 7 then (some (up g 176 (ix x1) (g 175 (ix x6))) >>= fun (g6 : AG) => (some ((if nw (x3 + (g 174 (ix (g 175 (ix x6))))) ≤ nw (g6 173 (ix (g 175 (ix x6)))) then 0 else 1)) >>= fun (t8 : Int) => (rec (x1 + 1) (orI x2 (shlI 1 x6)) (x3 + (g 174 (ix (g 175 (ix x6))))) (x4 + t8) (x5 + (x3 + (g 174 (ix (g 175 (ix x6)))))) g6 >>= fun (r10 : Int × AG) => some r10.2))) else none else none else none) : Option (AG)) >>= fun (r13 : AG) => M_docksOn_b rec x1 x2 x3 x4 x5 3 (x6 + 1) r13)) else none)))
partial_fixpoint
def M_docksOn_s (rec : Int → Int → Int → Int → Int → AG → Option (Int × AG)) (x1 : Int) (x2 : Int) (x3 : Int) (x4 : Int) (x5 : Int) (g : AG) : Option (Int × AG) :=
  (if nw x1 = nw (g 117 84) then (if nw (g 117 85) = (-1) then M_docksOn_b rec 0 0 0 x4 x5 1 0 g else (if nw (g 117 85) < nw x4 then some (0, g) else (if nw x4 = nw (g 117 85) then (if nw x5 < nw (g 117 86) then M_docksOn_b rec 0 0 0 x4 x5 1 0 g else some (0, g)) else M_docksOn_b rec 0 0 0 x4 x5 1 0 g))) else M_docksOn_b rec x1 x2 x3 x4 x5 3 0 g)
def M_docksOn : Nat → Int → Int → Int → Int → Int → AG → Option (Int × AG)
  | 0 => fun _ _ _ _ _ _ => none
  | n + 1 => fun x1 x2 x3 x4 x5 g => M_docksOn_s (M_docksOn n) x1 x2 x3 x4 x5 g
set_option synthInstance.maxHeartbeats 2000000 in
def M_dock_b (x1 : Int) (x2 : Int) (g : AG) : Option (Int × AG) :=
  (if nw (g 117 12) ≤ nw x2 then (some (up g 117 85 (-1)) >>= fun (g2 : AG) => (M_docksOn 9 0 0 0 0 0 g2 >>= fun (r4 : Int × AG) => (if nw (M_isIn x1 10 (9 + (r4.2 117 84))) = 0 then (some ((if nw x1 = 0 then (r4.2 117 85) else (if nw x1 = 1 then (r4.2 117 86) else (if nw x1 = 2 then (r4.2 117 84) else (-1))))) >>= fun (t7 : Int) => some (t7, r4.2)) else if 0 ≤ nw (x1 - 10) ∧ nw (x1 - 10) < 7 then some ((r4.2 177 (ix (x1 - 10))), r4.2) else none))) else if 0 ≤ nw x2 ∧ nw x2 < 10 then (((if nw (g 174 (ix x2)) = 0 then some g else if 0 ≤ nw (g 117 84) ∧ nw (g 117 84) < 7 then (some (up g 175 (ix (g 117 84)) x2) >>= fun (g16 : AG) => (some (up g16 117 84 ((g16 117 84) + 1)) >>= fun (g18 : AG) => some g18)) else none) : Option (AG)) >>= fun (r20 : AG) => M_dock_b x1 (x2 + 1) r20) else none)
partial_fixpoint
def M_dock (x1 : Int) (g : AG) : Option (Int × AG) :=
  (some (up g 117 84 0) >>= fun (g1 : AG) => M_dock_b x1 0 g1)
def M_job (x1 : Int) (g : AG) : Option (Int × AG) :=
  (if nw x1 = 0 then (some (up g 117 87 0) >>= fun (g9 : AG) => some (0, g9)) else (if nw (M_isIn x1 1 300) = 0 then some ((-1), g) else (if nw (g 117 87) = 8 then some ((-1), g) else if 0 ≤ nw (g 117 87) ∧ nw (g 117 87) < 8 then (some (up g 178 (ix (g 117 87)) x1) >>= fun (g5 : AG) => (some (up g5 117 87 ((g5 117 87) + 1)) >>= fun (g7 : AG) => some ((g7 117 87), g7))) else none)))
set_option synthInstance.maxHeartbeats 2000000 in
def M_lastEnd_b (x1 : Int) (g : AG) (x2 : Int) (x3 : Int) : Option Int :=
  (if nw x1 ≤ nw x3 then some x2 else if 0 ≤ nw x3 ∧ nw x3 < 3 then (((if nw (g 179 (ix x3)) ≤ nw x2 then some (x2) else some ((g 179 (ix x3)))) : Option (Int)) >>= fun (r4 : Int) => M_lastEnd_b x1 g r4 (x3 + 1)) else none)
partial_fixpoint
def M_lastEnd (x1 : Int) (g : AG) : Option Int :=
  M_lastEnd_b x1 g 600 0
set_option synthInstance.maxHeartbeats 2000000 in
def M_worked_b (x1 : Int) (tag : Nat) (x2 : Int) (x3 : Int) (x4 : Int) (g : AG) : Option (Int × AG) :=
  (if tag = 1 then (if nw x1 ≤ nw x2 then M_worked_b x1 2 0 x3 x4 g else if 0 ≤ nw x2 ∧ nw x2 < 3 then (some (up g 179 (ix x2) 600) >>= fun (g3 : AG) => M_worked_b x1 1 (x2 + 1) x3 x4 g3) else none) else (if tag = 2 then (if nw (g 117 87) ≤ nw x2 then (M_lastEnd x1 g >>= fun (r2 : Int) => some (r2, g)) else M_worked_b x1 3 x2 0 1 g) else (if tag = 3 then (if nw x1 ≤ nw x4 then if 0 ≤ nw x3 ∧ nw x3 < 3 then if 0 ≤ nw x2 ∧ nw x2 < 8 then (some (up g 179 (ix x3) ((g 179 (ix x3)) + (g 178 (ix x2)))) >>= fun (g4 : AG) => (some ((if nw (g4 179 (ix x3)) ≤ 900 then 0 else 1)) >>= fun (t6 : Int) => (some (up g4 117 90 ((g4 117 90) + t6)) >>= fun (g8 : AG) => M_worked_b x1 2 (x2 + 1) x3 x4 g8))) else none else none else if 0 ≤ nw x4 ∧ nw x4 < 3 then if 0 ≤ nw x3 ∧ nw x3 < 3 then (some ((if nw (g 179 (ix x3)) ≤ nw (g 179 (ix x4)) then x3 else x4)) >>= fun (t13 : Int) => M_worked_b x1 3 x2 t13 (x4 + 1) g) else none else none) else none)))
partial_fixpoint
def M_worked (x1 : Int) (g : AG) : Option (Int × AG) :=
  (some (up g 117 90 0) >>= fun (g1 : AG) => M_worked_b x1 1 0 0 0 g1)
set_option synthInstance.maxHeartbeats 2000000 in
def M_handOf_b (x2 : Int) (x3 : Int) (g : AG) (x4 : Int) (x5 : Int) : Option Int :=
  (if nw x5 ≤ nw x2 then if ¬ nw x3 = 0 then some ((nw x4).tmod (nw x3)) else none else if ¬ nw x3 = 0 then M_handOf_b x2 x3 g ((nw x4).tdiv (nw x3)) (x5 + (-1)) else none)
partial_fixpoint
def M_handOf (x1 : Int) (x2 : Int) (x3 : Int) (g : AG) : Option Int :=
  M_handOf_b x2 x3 g x1 ((g 117 87) - 1)
set_option synthInstance.maxHeartbeats 2000000 in
def M_turned_b (x1 : Int) (x2 : Int) (tag : Nat) (p : Int × Int × Int × Int × Int × Int) (g : AG) : Option (Int × AG) :=
  (if tag = 1 then (M_worked x1 g >>= fun (r1 : Int × AG) => (if nw x2 = 0 then M_turned_b x1 x2 2 (r1.1, p.2.1, p.2.2.1, p.2.2.2.1, p.2.2.2.2.1, p.2.2.2.2.2) r1.2 else (if nw x2 = 2 then M_turned_b x1 x2 2 (r1.1, p.2.1, p.2.2.1, p.2.2.2.1, p.2.2.2.2.1, p.2.2.2.2.2) r1.2 else M_turned_b x1 x2 3 (p.1, 1, 0, p.2.2.2.1, p.2.2.2.2.1, p.2.2.2.2.2) r1.2))) else (if tag = 2 then (some ((if nw x2 = 0 then p.1 else (g 117 90))) >>= fun (t1 : Int) => some (t1, g)) else (if tag = 3 then (if nw (g 117 87) ≤ nw p.2.2.1 then M_turned_b x1 x2 4 (p.1, p.2.1, (-1), 0, 0, p.2.2.2.2.2) g else M_turned_b x1 x2 3 (p.1, (p.2.1 * x1), (p.2.2.1 + 1), p.2.2.2.1, p.2.2.2.2.1, p.2.2.2.2.2) g) else (if tag = 4 then (if nw p.2.1 ≤ nw p.2.2.2.2.1 then (((if nw x2 = 1 then some (p.2.2.1, g) else (M_handOf p.2.2.2.1 (x2 - 10) x1 g >>= fun (r3 : Int) => some (r3, g))) : Option (Int × AG)) >>= fun (r5 : Int × AG) => some (r5.1, r5.2)) else M_turned_b x1 x2 5 (p.1, p.2.1, p.2.2.1, p.2.2.2.1, p.2.2.2.2.1, 0) g) else (if tag = 5 then (if nw x1 ≤ nw p.2.2.2.2.2 then M_turned_b x1 x2 6 (p.1, p.2.1, p.2.2.1, p.2.2.2.1, p.2.2.2.2.1, 0) g else if 0 ≤ nw p.2.2.2.2.2 ∧ nw p.2.2.2.2.2 < 3 then (some (up g 179 (ix p.2.2.2.2.2) 600) >>= fun (g3 : AG) => M_turned_b x1 x2 5 (p.1, p.2.1, p.2.2.1, p.2.2.2.1, p.2.2.2.2.1, (p.2.2.2.2.2 + 1)) g3) else none) else (if tag = 6 then (if nw (g 117 87) ≤ nw p.2.2.2.2.2 then (M_lastEnd x1 g >>= fun (r2 : Int) => (((if nw p.2.2.1 = (-1) then some (r2, p.2.2.2.2.1, g) else (if nw r2 < nw p.2.2.1 then some (r2, p.2.2.2.2.1, g) else some (p.2.2.1, p.2.2.2.1, g))) : Option (Int × Int × AG)) >>= fun (r6 : Int × Int × AG) => M_turned_b x1 x2 4 (p.1, p.2.1, r6.1, r6.2.1, (p.2.2.2.2.1 + 1), p.2.2.2.2.2) r6.2.2)) else (M_handOf p.2.2.2.2.1 p.2.2.2.2.2 x1 g >>= fun (r8 : Int) => if 0 ≤ nw r8 ∧ nw r8 < 3 then if 0 ≤ nw p.2.2.2.2.2 ∧ nw p.2.2.2.2.2 < 8 then (some (up g 179 (ix r8) ((g 179 (ix r8)) + (g 178 (ix p.2.2.2.2.2)))) >>= fun (g12 : AG) => M_turned_b x1 x2 6 (p.1, p.2.1, p.2.2.1, p.2.2.2.1, p.2.2.2.2.1, (p.2.2.2.2.2 + 1)) g12) else none else none)) else none))))))
partial_fixpoint
def M_turned (x1 : Int) (x2 : Int) (g : AG) : Option (Int × AG) :=
  (if nw (M_isIn x1 1 3) = 0 then some ((-1), g) else (if nw (M_isIn x2 0 2) = 0 then (if nw (M_isIn x2 10 (9 + (g 117 87))) = 0 then some ((-1), g) else M_turned_b x1 x2 1 (0, 0, 0, 0, 0, 0) g) else M_turned_b x1 x2 1 (0, 0, 0, 0, 0, 0) g))
def M_weight (x1 : Int) (x2 : Int) (g : AG) : Option (Int × AG) :=
  (if nw (M_isPoint x1) = 0 then some (0, g) else (if nw (M_isIn x2 0 99) = 0 then some (0, g) else if 0 ≤ nw x1 ∧ nw x1 < 16 then (some (up g 180 (ix x1) x2) >>= fun (g4 : AG) => some (1, g4)) else none))
set_option synthInstance.maxHeartbeats 2000000 in
def M_drive_b (x1 : Int) (x2 : Int) (g : AG) (x3 : Int) (x4 : Int) : Option Int :=
  (some ((if nw x2 ≤ nw x1 then x1 else x2)) >>= fun (t1 : Int) => (if nw t1 ≤ nw x4 then some x3 else if 0 ≤ nw x4 ∧ nw x4 < 15 then M_drive_b x1 x2 g (x3 + (g 120 (ix x4))) (x4 + 1) else none))
partial_fixpoint
def M_drive (x1 : Int) (x2 : Int) (g : AG) : Option Int :=
  (some ((if nw x2 ≤ nw x1 then x2 else x1)) >>= fun (t1 : Int) => M_drive_b x1 x2 g 0 t1)
set_option synthInstance.maxHeartbeats 2000000 in
def M_worstOf_b (x1 : Int) (g : AG) (x2 : Int) (x3 : Int) : Option Int :=
  (if 16 ≤ nw x3 then some x2 else if 0 ≤ nw x3 ∧ nw x3 < 16 then (((if nw (g 180 (ix x3)) ≤ 0 then some (x2) else (M_drive x1 x3 g >>= fun (r4 : Int) => (if nw r4 ≤ nw x2 then some (x2) else (M_drive x1 x3 g >>= fun (r7 : Int) => some (r7))))) : Option (Int)) >>= fun (r9 : Int) => M_worstOf_b x1 g r9 (x3 + 1)) else none)
partial_fixpoint
def M_worstOf (x1 : Int) (g : AG) : Option Int :=
  M_worstOf_b x1 g 0 0
set_option synthInstance.maxHeartbeats 2000000 in
def M_sumOf_b (x1 : Int) (g : AG) (x2 : Int) (x3 : Int) : Option Int :=
  (if 16 ≤ nw x3 then some x2 else if 0 ≤ nw x3 ∧ nw x3 < 16 then (M_drive x1 x3 g >>= fun (r3 : Int) => M_sumOf_b x1 g (x2 + ((g 180 (ix x3)) * r3)) (x3 + 1)) else none)
partial_fixpoint
def M_sumOf (x1 : Int) (g : AG) : Option Int :=
  M_sumOf_b x1 g 0 0
set_option synthInstance.maxHeartbeats 2000000 in
def M_van_b (x1 : Int) (g : AG) (x2 : Int) (x3 : Int) : Option Int :=
  (if 16 ≤ nw x3 then (((if nw x1 = 0 then some (x2) else (if nw x1 = 1 then (M_sumOf x2 g >>= fun (r6 : Int) => some (r6)) else (M_worstOf x2 g >>= fun (r4 : Int) => some (r4)))) : Option (Int)) >>= fun (r8 : Int) => some r8) else (M_sumOf x3 g >>= fun (r10 : Int) => (M_sumOf x2 g >>= fun (r12 : Int) => (some ((if nw r12 ≤ nw r10 then x2 else x3)) >>= fun (t14 : Int) => M_van_b x1 g t14 (x3 + 1)))))
partial_fixpoint
def M_van (x1 : Int) (g : AG) : Option Int :=
  (if nw (M_isIn x1 100 115) = 0 then (if nw (M_isIn x1 200 215) = 0 then (if nw (M_isIn x1 0 2) = 0 then some (-1) else M_van_b x1 g 0 1) else (M_worstOf (x1 - 200) g >>= fun (r4 : Int) => some r4)) else (M_sumOf (x1 - 100) g >>= fun (r6 : Int) => some r6))
def M_nearer (x1 : Int) (x2 : Int) (x3 : Int) (g : AG) : Option Int :=
  (M_drive x1 x3 g >>= fun (r1 : Int) => (M_drive x2 x3 g >>= fun (r3 : Int) => (((if nw r3 ≤ nw r1 then (M_drive x2 x3 g >>= fun (r6 : Int) => some (r6)) else (M_drive x1 x3 g >>= fun (r8 : Int) => some (r8))) : Option (Int)) >>= fun (r10 : Int) => some r10)))
set_option synthInstance.maxHeartbeats 2000000 in
def M_vans_b (x1 : Int) (g : AG) (tag : Nat) (x2 : Int) (x3 : Int) (x4 : Int) (x5 : Int) (x6 : Int) (x7 : Int) : Option Int :=
  (if tag = 1 then (if 16 ≤ nw x4 then (some ((if nw x1 = 0 then x2 else x3)) >>= fun (t2 : Int) => some t2) else M_vans_b x1 g 2 x2 x3 x4 x4 x6 x7) else (if tag = 2 then (if 16 ≤ nw x5 then M_vans_b x1 g 1 x2 x3 (x4 + 1) x5 x6 x7 else M_vans_b x1 g 3 x2 x3 x4 x5 0 0) else (if tag = 3 then (if 16 ≤ nw x7 then (((if nw x2 = (-1) then some (((16 * x4) + x5), x6) else (if nw x6 < nw x3 then some (((16 * x4) + x5), x6) else some (x2, x3))) : Option (Int × Int)) >>= fun (r4 : Int × Int) => M_vans_b x1 g 2 r4.1 r4.2 x4 (x5 + 1) x6 x7) else if 0 ≤ nw x7 ∧ nw x7 < 16 then (M_nearer x4 x5 x7 g >>= fun (r7 : Int) => M_vans_b x1 g 3 x2 x3 x4 x5 (x6 + ((g 180 (ix x7)) * r7)) (x7 + 1)) else none) else none)))
partial_fixpoint
def M_vans (x1 : Int) (g : AG) : Option Int :=
  (if nw (M_isIn x1 0 1) = 0 then some (-1) else M_vans_b x1 g 1 (-1) 0 0 0 0 0)
set_option synthInstance.maxHeartbeats 2000000 in
def M_call_b (x1 : Int) (x2 : Int) (x3 : Int) (g : AG) : Option (Int × AG) :=
  if 0 ≤ nw (g 117 92) ∧ nw (g 117 92) < 12 then (some (up g 181 (ix (g 117 92)) x1) >>= fun (g2 : AG) => if 0 ≤ nw (g2 117 92) ∧ nw (g2 117 92) < 12 then (some (up g2 182 (ix (g2 117 92)) x2) >>= fun (g5 : AG) => if 0 ≤ nw (g5 117 92) ∧ nw (g5 117 92) < 12 then (some (up g5 183 (ix (g5 117 92)) x3) >>= fun (g8 : AG) => (some (up g8 117 92 ((g8 117 92) + 1)) >>= fun (g10 : AG) => some ((g10 117 92), g10))) else none) else none) else none
partial_fixpoint
def M_call (x1 : Int) (x2 : Int) (x3 : Int) (g : AG) : Option (Int × AG) :=
  (if nw x3 = 0 then (some (up g 117 92 0) >>= fun (g9 : AG) => some (0, g9)) else (if nw (M_isIn x1 0 9999) = 0 then some ((-1), g) else (if nw (M_isPoint x2) = 0 then some ((-1), g) else (if nw (M_isIn x3 1 300) = 0 then some ((-1), g) else (if nw (g 117 92) = 12 then some ((-1), g) else (if nw (g 117 92) ≤ 0 then M_call_b x1 x2 x3 g else if 0 ≤ nw ((g 117 92) - 1) ∧ nw ((g 117 92) - 1) < 12 then (if nw (g 181 (ix ((g 117 92) - 1))) ≤ nw x1 then M_call_b x1 x2 x3 g else some ((-1), g)) else none))))))
def M_arrives (x1 : Int) (x2 : Int) (g : AG) : Option Int :=
  if 0 ≤ nw x1 ∧ nw x1 < 2 then if 0 ≤ nw x2 ∧ nw x2 < 12 then (((if nw (g 185 (ix x1)) ≤ nw (g 181 (ix x2)) then some ((g 181 (ix x2))) else some ((g 185 (ix x1)))) : Option (Int)) >>= fun (r4 : Int) => (M_drive (g 184 (ix x1)) (g 182 (ix x2)) g >>= fun (r6 : Int) => some (r4 + r6))) else none else none
set_option synthInstance.maxHeartbeats 2000000 in
def M_taken_b (x1 : Int) (x2 : Int) (x3 : Int) (tag : Nat) (x4 : Int) (x5 : Int) (x6 : Int) (x7 : Int) (g : AG) : Option (Int × AG) :=
  (if tag = 1 then (some (up g 184 (ix 0) x1) >>= fun (g1 : AG) => (some (up g1 184 (ix 1) x2) >>= fun (g3 : AG) => (some (up g3 185 (ix 0) 0) >>= fun (g5 : AG) => (some (up g5 185 (ix 1) 0) >>= fun (g7 : AG) => M_taken_b x1 x2 x3 2 0 0 0 0 g7)))) else (if tag = 2 then (if nw (g 117 92) ≤ nw x7 then (some ((if nw x3 = 0 then x4 else (if nw x3 = 1 then x5 else x6))) >>= fun (t2 : Int) => some (t2, g)) else (M_arrives 1 x7 g >>= fun (r6 : Int) => (M_arrives 0 x7 g >>= fun (r8 : Int) => (some ((if nw r8 ≤ nw r6 then 0 else 1)) >>= fun (t10 : Int) => (if nw x3 = nw (10 + x7) then some (t10, g) else (M_arrives t10 x7 g >>= fun (r13 : Int) => if 0 ≤ nw x7 ∧ nw x7 < 12 then (((if nw (r13 - (g 181 (ix x7))) ≤ nw x5 then some (x5, g) else some ((r13 - (g 181 (ix x7))), g)) : Option (Int × AG)) >>= fun (r17 : Int × AG) => if 0 ≤ nw t10 ∧ nw t10 < 2 then (some (up r17.2 185 (ix t10) (r13 + (r17.2 183 (ix x7)))) >>= fun (g20 : AG) => (some (up g20 184 (ix t10) (g20 182 (ix x7))) >>= fun (g22 : AG) => (((if nw (g22 185 (ix t10)) ≤ nw x6 then some (x6, g22) else some ((g22 185 (ix t10)), g22)) : Option (Int × AG)) >>= fun (r25 : Int × AG) => M_taken_b x1 x2 x3 2 (x4 + (r13 - (g 181 (ix x7)))) r17.1 r25.1 (x7 + 1) r25.2))) else none) else none)))))) else none))
partial_fixpoint
def M_taken (x1 : Int) (x2 : Int) (x3 : Int) (g : AG) : Option (Int × AG) :=
  (if nw (M_isPoint x1) = 0 then some ((-1), g) else (if nw (M_isPoint x2) = 0 then some ((-1), g) else (if nw (M_isIn x3 0 2) = 0 then (if nw (M_isIn x3 10 (9 + (g 117 92))) = 0 then some ((-1), g) else M_taken_b x1 x2 x3 1 0 0 0 0 g) else M_taken_b x1 x2 x3 1 0 0 0 0 g)))
def M_canAsk (x0 : Int) (x1 : Int) (x2 : Int) (x3 : Int) : Int :=
  (if nw (M_isIn x0 0 99) = 0 then 0 else (if nw (M_isIn x1 0 100) = 0 then 0 else (if nw (M_isIn x2 0 99) = 0 then 0 else (if nw (M_isIn x3 0 999) = 0 then 0 else 1))))
theorem M_canAsk_01 {x0 : Int} {x1 : Int} {x2 : Int} {x3 : Int} : (M_canAsk x0 x1 x2 x3) = 0 ∨ (M_canAsk x0 x1 x2 x3) = 1 := by
  unfold M_canAsk
  (repeat' split) <;> first | exact Or.inl rfl | exact Or.inr rfl | exact M_isIn_01
set_option synthInstance.maxHeartbeats 2000000 in
def M_starts_b (x1 : Int) (g : AG) : Option (Int × AG) :=
  (if 1000 ≤ nw x1 then some (0, g) else (some ((if nw x1 = nw (g 117 10) then 1000000 else 0)) >>= fun (t2 : Int) => if 0 ≤ nw x1 ∧ nw x1 < 1000 then (some (up g 186 (ix x1) t2) >>= fun (g5 : AG) => M_starts_b (x1 + 1) g5) else none))
partial_fixpoint
def M_starts (g : AG) : Option (Int × AG) :=
  M_starts_b 0 g
def M_falls (x1 : Int) (x2 : Int) (x3 : Int) (g : AG) : Option (Int × AG) :=
  (some ((if nw x1 ≤ 999 then x1 else 999)) >>= fun (t1 : Int) => (((if nw t1 < nw x2 then some g else if 0 ≤ nw t1 ∧ nw t1 < 1000 then (some (up g 187 (ix t1) ((g 187 (ix t1)) + x3)) >>= fun (g5 : AG) => some g5) else none) : Option (AG)) >>= fun (r7 : AG) => some (0, r7)))
set_option synthInstance.maxHeartbeats 2000000 in
def M_aDay_b (x1 : Int) (x2 : Int) (x3 : Int) (x4 : Int) (tag : Nat) (x5 : Int) (g : AG) : Option (Int × AG) :=
  (if tag = 1 then (if 1000 ≤ nw x5 then M_aDay_b x1 x2 x3 x4 2 0 g else if 0 ≤ nw x5 ∧ nw x5 < 1000 then (some (up g 187 (ix x5) 0) >>= fun (g3 : AG) => M_aDay_b x1 x2 x3 x4 1 (x5 + 1) g3) else none) else (if tag = 2 then (if 1000 ≤ nw x5 then M_aDay_b x1 x2 x3 x4 3 0 g else if 0 ≤ nw x5 ∧ nw x5 < 1000 then (((if nw (g 186 (ix x5)) = 0 then some g else (some ((if nw x1 ≤ nw x5 then (x5 - x1) else 0)) >>= fun (t4 : Int) => (M_falls (t4 + x3) x4 ((nl ((nw (g 186 (ix x5))) * (nw x2))).tdiv 100) g >>= fun (r6 : Int × AG) => (M_falls t4 x4 ((r6.2 186 (ix x5)) - ((nl ((nw (g 186 (ix x5))) * (nw x2))).tdiv 100)) r6.2 >>= fun (r8 : Int × AG) => some r8.2)))) : Option (AG)) >>= fun (r11 : AG) => M_aDay_b x1 x2 x3 x4 2 (x5 + 1) r11) else none) else (if tag = 3 then (if 1000 ≤ nw x5 then some (0, g) else if 0 ≤ nw x5 ∧ nw x5 < 1000 then (some (up g 186 (ix x5) (g 187 (ix x5))) >>= fun (g3 : AG) => M_aDay_b x1 x2 x3 x4 3 (x5 + 1) g3) else none) else none)))
partial_fixpoint
def M_aDay (x1 : Int) (x2 : Int) (x3 : Int) (x4 : Int) (g : AG) : Option (Int × AG) :=
  M_aDay_b x1 x2 x3 x4 1 0 g
set_option synthInstance.maxHeartbeats 2000000 in
def M_kept_b (g : AG) (x1 : Int) (x2 : Int) : Option Int :=
  (if 1000 ≤ nw x2 then some x1 else if 0 ≤ nw x2 ∧ nw x2 < 1000 then M_kept_b g (x1 + (g 186 (ix x2))) (x2 + 1) else none)
partial_fixpoint
def M_kept (g : AG) : Option Int :=
  M_kept_b g 0 0
set_option synthInstance.maxHeartbeats 2000000 in
def M_left_b (x1 : Int) (x2 : Int) (x3 : Int) (x4 : Int) (x5 : Int) (x6 : Int) (g : AG) : Option (Int × AG) :=
  (if nw x5 ≤ nw x6 then (M_kept g >>= fun (r2 : Int) => some (r2, g)) else (M_aDay x1 x2 x3 x4 g >>= fun (r4 : Int × AG) => M_left_b x1 x2 x3 x4 x5 (x6 + 1) r4.2))
partial_fixpoint
def M_left (x1 : Int) (x2 : Int) (x3 : Int) (x4 : Int) (x5 : Int) (g : AG) : Option (Int × AG) :=
  (if nw (M_canAsk x1 x2 x3 x4) = 0 then some ((-1), g) else (if nw (M_isIn x5 0 60) = 0 then some ((-1), g) else (if nw x4 ≤ nw (g 117 10) then (M_starts g >>= fun (r4 : Int × AG) => M_left_b x1 x2 x3 x4 x5 0 r4.2) else some (0, g))))
set_option synthInstance.maxHeartbeats 2000000 in
def M_shuts_b (x1 : Int) (x2 : Int) (x3 : Int) (x4 : Int) (x5 : Int) (g : AG) : Option (Int × AG) :=
  (if 60 < nw x5 then some ((-1), g) else (M_aDay x1 x2 x3 x4 g >>= fun (r2 : Int × AG) => (M_kept r2.2 >>= fun (r4 : Int) => (if 500000 ≤ nw r4 then M_shuts_b x1 x2 x3 x4 (x5 + 1) r2.2 else some (x5, r2.2)))))
partial_fixpoint
def M_shuts (x1 : Int) (x2 : Int) (x3 : Int) (x4 : Int) (g : AG) : Option (Int × AG) :=
  (if nw (M_canAsk x1 x2 x3 x4) = 0 then some ((-1), g) else (if nw x4 ≤ nw (g 117 10) then (M_starts g >>= fun (r3 : Int × AG) => M_shuts_b x1 x2 x3 x4 1 r3.2) else some (0, g)))
def M_held (x1 : Int) (x2 : Int) (x3 : Int) (x4 : Int) (g : AG) : Option (Int × AG) :=
  (if nw (M_isBoat x1 g) = 0 then some ((-1000000), g) else (if nw (M_isIn x2 0 99) = 0 then some ((-1000000), g) else (if nw (M_isIn x3 0 9) = 0 then some ((-1000000), g) else (if nw (M_isIn x4 0 9) = 0 then some ((-1000000), g) else (M_forgets g >>= fun (r5 : Int × AG) => (some (up r5.2 148 (ix 2) x4) >>= fun (g7 : AG) => (some (up g7 148 (ix 7) x2) >>= fun (g9 : AG) => (some (up g9 148 (ix 8) x3) >>= fun (g11 : AG) => if 0 ≤ nw x1 ∧ nw x1 < 10 then (some (up g11 148 (ix 6) (g11 125 (ix x1))) >>= fun (g14 : AG) => (M_serves 3 g14 >>= fun (r16 : Int × AG) => (((if nw r16.1 = (-1) then some (0, r16.2) else if 0 ≤ nw r16.1 ∧ nw r16.1 < 16 then (M_comesTo (r16.2 131 (ix r16.1)) (r16.2 132 (ix r16.1)) r16.2 >>= fun (r20 : Int × AG) => some (r20.1, r20.2)) else none) : Option (Int × AG)) >>= fun (r22 : Int × AG) => some (r22.1, r22.2)))) else none))))))))
def M_look (x1 : Int) (g : AG) : Int :=
  (if nw x1 = 0 then (g 117 12) else (if nw x1 = 1 then (g 117 49) else (if nw x1 = 2 then (g 117 65) else (if nw x1 = 3 then (g 117 87) else (if nw x1 = 4 then (g 117 59) else (if nw x1 = 5 then (g 117 11) else (if nw x1 = 6 then (g 117 10) else (if nw x1 = 7 then (g 117 92) else (-1)))))))))
def X_within (x0 : Int) (x1 : Int) (x2 : Int) : Int :=
  (if nw x0 < nw x1 then 0 else (if nw x2 < nw x0 then 0 else 1))
theorem X_within_01 {x0 : Int} {x1 : Int} {x2 : Int} : (X_within x0 x1 x2) = 0 ∨ (X_within x0 x1 x2) = 1 := by
  unfold X_within
  (repeat' split) <;> first | exact Or.inl rfl | exact Or.inr rfl
def X_stretch (x1 : Int) (x2 : Int) (x3 : Int) (x4 : Int) (g : AG) : Option (Int × AG) :=
  (if nw (X_within x1 0 14) = 0 then some (0, g) else (if nw (X_within x4 1 99) = 0 then some (0, g) else (if nw (X_within x2 0 9) = 0 then some (0, g) else (if nw (X_within x3 0 9) = 0 then some (0, g) else if 0 ≤ nw x1 ∧ nw x1 < 15 then (some (up g 13 (ix x1) x2) >>= fun (g6 : AG) => (some (up g6 14 (ix x1) x3) >>= fun (g8 : AG) => (some (up g8 15 (ix x1) x4) >>= fun (g10 : AG) => some (1, g10)))) else none))))
def Rules_askDay (x1 : Int) (x2 : Int) (g : AG) : Option (Int × AG) :=
  (some (fillG g 27 9 0) >>= fun (g1 : AG) => (some (up g1 27 (ix 0) ((nw x1).tmod 7)) >>= fun (g3 : AG) => (some (up g3 27 (ix 1) ((nw x1).tdiv 7)) >>= fun (g5 : AG) => (some (up g5 27 (ix 2) x2) >>= fun (g7 : AG) => some (0, g7)))))
def Rules_both (x0 : Int) (x1 : Int) (x2 : Int) : Int :=
  (if nw x0 = 42 then (x1 * x2) else (if nw x0 = 43 then (x1 + x2) else (if nw x0 = 45 then (x1 - x2) else (if nw x0 = 60 then (if nw x2 ≤ nw x1 then 0 else 1) else (if nw x0 = 61 then (if nw x1 = nw x2 then 1 else 0) else (if nw x0 = 62 then (if nw x1 ≤ nw x2 then 0 else 1) else (if nw x0 = 109 then (andI x1 x2) else (orI x1 x2))))))))
def Rules_askedOf (x1 : Int) (g : AG) : Option Int :=
  (((if nw (X_within x1 0 8) = 0 then some (0) else if 0 ≤ nw x1 ∧ nw x1 < 9 then some ((g 27 (ix x1))) else none) : Option (Int)) >>= fun (r3 : Int) => some r3)
def Rules_alone (x0 : Int) (x1 : Int) (x2 : Int) (g : AG) : Option Int :=
  (if nw x0 = 110 then some (1 - x1) else (((if nw x2 = 0 then some (0) else if ¬ nw x2 = 0 then some (((nw x1).tdiv (nw x2))) else none) : Option (Int)) >>= fun (r4 : Int) => some r4))
set_option synthInstance.maxHeartbeats 2000000 in
def Rules_run_b (x2 : Int) (tag : Nat) (x3 : Int) (x4 : Int) (x5 : Int) (g : AG) : Option (Int × AG) :=
  (if tag = 1 then (if nw x2 ≤ nw x4 then (((if nw x3 ≤ 0 then some (0, g) else if 0 ≤ nw (x3 - 1) ∧ nw (x3 - 1) < 32 then some ((g 28 (ix (x3 - 1))), g) else none) : Option (Int × AG)) >>= fun (r4 : Int × AG) => some (r4.1, r4.2)) else if 0 ≤ nw x4 ∧ nw x4 < 500 then (if nw (g 17 (ix x4)) = 2 then Rules_run_b x2 2 x3 x4 (g 17 (ix x4)) g else (if nw (g 17 (ix x4)) = 3 then Rules_run_b x2 2 x3 x4 (g 17 (ix x4)) g else (if nw (g 17 (ix x4)) = 110 then Rules_run_b x2 3 x3 x4 (g 17 (ix x4)) g else (if nw (g 17 (ix x4)) = 47 then Rules_run_b x2 3 x3 x4 (g 17 (ix x4)) g else (if 2 ≤ nw x3 then if 0 ≤ nw ((x3 + (-1)) - 1) ∧ nw ((x3 + (-1)) - 1) < 32 then if 0 ≤ nw (x3 + (-1)) ∧ nw (x3 + (-1)) < 32 then (some (up g 28 (ix ((x3 + (-1)) - 1)) (Rules_both (g 17 (ix x4)) (g 28 (ix ((x3 + (-1)) - 1))) (g 28 (ix (x3 + (-1)))))) >>= fun (g14 : AG) => Rules_run_b x2 4 (x3 + (-1)) x4 x5 g14) else none else none else some (0, g)))))) else none) else (if tag = 2 then (if nw x3 < 32 then (((if nw x5 = 2 then if 0 ≤ nw x4 ∧ nw x4 < 500 then some ((g 18 (ix x4)), g) else none else if 0 ≤ nw x4 ∧ nw x4 < 500 then (Rules_askedOf (g 18 (ix x4)) g >>= fun (r4 : Int) => some (r4, g)) else none) : Option (Int × AG)) >>= fun (r7 : Int × AG) => if 0 ≤ nw x3 ∧ nw x3 < 32 then (some (up r7.2 28 (ix x3) r7.1) >>= fun (g10 : AG) => Rules_run_b x2 4 (x3 + 1) x4 x5 g10) else none) else some (0, g)) else (if tag = 3 then (if 1 ≤ nw x3 then if 0 ≤ nw (x3 - 1) ∧ nw (x3 - 1) < 32 then if 0 ≤ nw x4 ∧ nw x4 < 500 then (Rules_alone x5 (g 28 (ix (x3 - 1))) (g 18 (ix x4)) g >>= fun (r4 : Int) => (some (up g 28 (ix (x3 - 1)) r4) >>= fun (g6 : AG) => Rules_run_b x2 4 x3 x4 x5 g6)) else none else none else some (0, g)) else (if tag = 4 then Rules_run_b x2 1 x3 (x4 + 1) x5 g else none))))
partial_fixpoint
def Rules_run (x1 : Int) (x2 : Int) (g : AG) : Option (Int × AG) :=
  Rules_run_b x2 1 0 x1 0 g
set_option synthInstance.maxHeartbeats 2000000 in
def Rules_serving_b (x1 : Int) (tag : Nat) (x2 : Int) (g : AG) : Option (Int × AG) :=
  (if tag = 1 then (if nw (g 2 3) ≤ nw x2 then some ((-1), g) else if 0 ≤ nw x2 ∧ nw x2 < 16 then (if nw (g 19 (ix x2)) = nw x1 then (if nw (g 21 (ix x2)) = nw (g 22 (ix x2)) then some (x2, g) else (Rules_run (g 21 (ix x2)) (g 22 (ix x2)) g >>= fun (r5 : Int × AG) => (if nw r5.1 = 0 then Rules_serving_b x1 2 x2 r5.2 else some (x2, r5.2)))) else Rules_serving_b x1 2 x2 g) else none) else (if tag = 2 then Rules_serving_b x1 1 (x2 + 1) g else none))
partial_fixpoint
def Rules_serving (x1 : Int) (g : AG) : Option (Int × AG) :=
  Rules_serving_b x1 1 0 g
set_option synthInstance.maxHeartbeats 2000000 in
def Voyage_learnHours_b (x1 : Int) (g : AG) : Option (Int × AG) :=
  (if 14 ≤ nw x1 then some (0, g) else (Rules_askDay x1 (g 1 5) g >>= fun (r2 : Int × AG) => (Rules_serving 100 r2.2 >>= fun (r4 : Int × AG) => (((if nw r4.1 = (-1) then some (0, r4.2) else if 0 ≤ nw r4.1 ∧ nw r4.1 < 16 then some ((r4.2 23 (ix r4.1)), r4.2) else none) : Option (Int × AG)) >>= fun (r8 : Int × AG) => if 0 ≤ nw x1 ∧ nw x1 < 14 then (some (up r8.2 44 (ix x1) r8.1) >>= fun (g11 : AG) => (((if nw r4.1 = (-1) then some (24, g11) else if 0 ≤ nw r4.1 ∧ nw r4.1 < 16 then some ((g11 24 (ix r4.1)), g11) else none) : Option (Int × AG)) >>= fun (r15 : Int × AG) => (some (up r15.2 45 (ix x1) r15.1) >>= fun (g17 : AG) => Voyage_learnHours_b (x1 + 1) g17))) else none))))
partial_fixpoint
def Voyage_learnHours (g : AG) : Option (Int × AG) :=
  Voyage_learnHours_b 0 g
def X_water (x1 : Int) (g : AG) : Option (Int × AG) :=
  (if nw (X_within x1 0 999) = 0 then some (0, g) else (some (up g 1 5 x1) >>= fun (g2 : AG) => (Voyage_learnHours g2 >>= fun (r4 : Int × AG) => some (1, r4.2))))
set_option synthInstance.maxHeartbeats 2000000 in
def Canal_stop_b (x1 : Int) (x3 : Int) (x4 : Int) (g : AG) : Option (Int × AG) :=
  (if nw x3 < nw x4 then (some (up g 1 4 ((g 1 4) + 1)) >>= fun (g2 : AG) => some (0, g2)) else if 0 ≤ nw x1 ∧ nw x1 < 15 then (some (up g 16 (ix x1) (orI (g 16 (ix x1)) (shlI 1 x4))) >>= fun (g5 : AG) => Canal_stop_b x1 x3 (x4 + 1) g5) else none)
partial_fixpoint
def Canal_stop (x1 : Int) (x2 : Int) (x3 : Int) (g : AG) : Option (Int × AG) :=
  Canal_stop_b x1 x3 x2 g
def Canal_reopen (g : AG) : Option (Int × AG) :=
  (some (fillG g 16 15 0) >>= fun (g1 : AG) => (some (up g1 1 4 0) >>= fun (g3 : AG) => some (0, g3)))
def X_stoppage (x1 : Int) (x2 : Int) (x3 : Int) (g : AG) : Option (Int × AG) :=
  (if nw x1 = (-1) then (Canal_reopen g >>= fun (r9 : Int × AG) => some (0, r9.2)) else (if nw (X_within x1 0 14) = 0 then some ((-1), g) else (if nw x2 < 0 then some ((-1), g) else (if nw x3 < nw x2 then some ((-1), g) else (if nw x3 < 14 then (if nw (g 1 4) < 8 then (Canal_stop x1 x2 x3 g >>= fun (r7 : Int × AG) => some ((r7.2 1 4), r7.2)) else some ((-1), g)) else some ((-1), g))))))
def X_isBerths (x0 : Int) : Int :=
  (X_within x0 2 12)
theorem X_isBerths_01 {x0 : Int} : (X_isBerths x0) = 0 ∨ (X_isBerths x0) = 1 := by
  unfold X_isBerths
  (repeat' split) <;> first | exact Or.inl rfl | exact Or.inr rfl | exact X_within_01
def X_isPoint (x0 : Int) : Int :=
  (X_within x0 0 15)
theorem X_isPoint_01 {x0 : Int} : (X_isPoint x0) = 0 ∨ (X_isPoint x0) = 1 := by
  unfold X_isPoint
  (repeat' split) <;> first | exact Or.inl rfl | exact Or.inr rfl | exact X_within_01
def Boats_add (x1 : Int) (x2 : Int) (x3 : Int) (x4 : Int) (g : AG) : Option (Int × AG) :=
  (if nw (g 6 7) < 10 then if 0 ≤ nw (g 6 7) ∧ nw (g 6 7) < 10 then (some (up g 48 (ix (g 6 7)) x1) >>= fun (g3 : AG) => if 0 ≤ nw (g3 6 7) ∧ nw (g3 6 7) < 10 then (some (up g3 49 (ix (g3 6 7)) x2) >>= fun (g6 : AG) => if 0 ≤ nw (g6 6 7) ∧ nw (g6 6 7) < 10 then (some (up g6 50 (ix (g6 6 7)) x3) >>= fun (g9 : AG) => if 0 ≤ nw (g9 6 7) ∧ nw (g9 6 7) < 10 then (some (up g9 51 (ix (g9 6 7)) x4) >>= fun (g12 : AG) => (some (up g12 6 7 ((g12 6 7) + 1)) >>= fun (g14 : AG) => some (((g14 6 7) - 1), g14))) else none) else none) else none) else none else some ((-1), g))
def X_boat (x1 : Int) (x2 : Int) (x3 : Int) (x4 : Int) (g : AG) : Option (Int × AG) :=
  (if nw (X_isBerths x1) = 0 then some ((-1), g) else (if nw (X_within x2 0 99) = 0 then some ((-1), g) else (if nw (X_isPoint x3) = 0 then some ((-1), g) else (if nw (X_within x4 0 60) = 0 then some ((-1), g) else (Boats_add x1 x2 x3 x4 g >>= fun (r5 : Int × AG) => some (r5.1, r5.2))))))
set_option synthInstance.maxHeartbeats 2000000 in
def Parser_put_b (x1 : Int) (x2 : Int) (g : AG) : Option (Int × AG) :=
  (if nw x2 < 0 then some (0, g) else (((if 500 ≤ nw (g 4 2) then some g else if 0 ≤ nw (g 4 2) ∧ nw (g 4 2) < 500 then (some (up g 41 (ix (g 4 2)) (andI (ushrI x1 x2) 255)) >>= fun (g4 : AG) => (some (up g4 4 2 ((g4 4 2) + 1)) >>= fun (g6 : AG) => some g6)) else none) : Option (AG)) >>= fun (r8 : AG) => Parser_put_b x1 (x2 + (-8)) r8))
partial_fixpoint
def Parser_put (x1 : Int) (g : AG) : Option (Int × AG) :=
  Parser_put_b x1 24 g
def X_feed (x1 : Int) (x2 : Int) (x3 : Int) (x4 : Int) (x5 : Int) (g : AG) : Option (Int × AG) :=
  (if nw ((g 4 2) + 20) ≤ 500 then (Parser_put x1 g >>= fun (r2 : Int × AG) => (Parser_put x2 r2.2 >>= fun (r4 : Int × AG) => (Parser_put x3 r4.2 >>= fun (r6 : Int × AG) => (Parser_put x4 r6.2 >>= fun (r8 : Int × AG) => (Parser_put x5 r8.2 >>= fun (r10 : Int × AG) => some ((r10.2 4 2), r10.2)))))) else some ((-1), g))
def X_end (x1 : Int) (g : AG) : Option (Int × AG) :=
  (if nw x1 < 0 then some (0, g) else (if nw x1 ≤ nw (g 4 2) then (some (up g 4 2 x1) >>= fun (g3 : AG) => some (1, g3)) else some (0, g)))
def Rules_clear (g : AG) : Option (Int × AG) :=
  (some (up g 3 2 0) >>= fun (g1 : AG) => (some (up g1 3 3 0) >>= fun (g3 : AG) => (some (up g3 3 10 0) >>= fun (g5 : AG) => (some (fillG g5 37 30 0) >>= fun (g7 : AG) => (some (fillG g7 38 30 0) >>= fun (g9 : AG) => some (0, g9))))))
def Parser_isLetter (x0 : Int) : Int :=
  (if nw (X_within x0 97 122) = 0 then (if nw (X_within x0 65 90) = 0 then 0 else 1) else 1)
theorem Parser_isLetter_01 {x0 : Int} : (Parser_isLetter x0) = 0 ∨ (Parser_isLetter x0) = 1 := by
  unfold Parser_isLetter
  (repeat' split) <;> first | exact Or.inl rfl | exact Or.inr rfl | exact X_within_01
def Parser_isDigit (x0 : Int) : Int :=
  (X_within x0 48 57)
theorem Parser_isDigit_01 {x0 : Int} : (Parser_isDigit x0) = 0 ∨ (Parser_isDigit x0) = 1 := by
  unfold Parser_isDigit
  (repeat' split) <;> first | exact Or.inl rfl | exact Or.inr rfl | exact X_within_01
def Parser_add (x1 : Int) (x2 : Int) (g : AG) : Option (Int × AG) :=
  (((if 501 ≤ nw (g 4 5) then some g else if 0 ≤ nw (g 4 5) ∧ nw (g 4 5) < 501 then (some (up g 42 (ix (g 4 5)) x1) >>= fun (g3 : AG) => if 0 ≤ nw (g3 4 5) ∧ nw (g3 4 5) < 501 then (some (up g3 43 (ix (g3 4 5)) x2) >>= fun (g6 : AG) => (some (up g6 4 5 ((g6 4 5) + 1)) >>= fun (g8 : AG) => some g8)) else none) else none) : Option (AG)) >>= fun (r10 : AG) => some (0, r10))
set_option synthInstance.maxHeartbeats 2000000 in
def Parser_endOfDigits_b (g : AG) (x2 : Int) (x3 : Int) : Option Int :=
  (if nw (g 4 2) ≤ nw x3 then some x2 else if 0 ≤ nw x3 ∧ nw x3 < 500 then (if nw (Parser_isDigit (g 41 (ix x3))) = 0 then some x2 else Parser_endOfDigits_b g (x3 + 1) (x3 + 1)) else none)
partial_fixpoint
def Parser_endOfDigits (x1 : Int) (g : AG) : Option Int :=
  Parser_endOfDigits_b g x1 x1
set_option synthInstance.maxHeartbeats 2000000 in
def Parser_numberOf_b (x2 : Int) (g : AG) (x3 : Int) (x4 : Int) : Option Int :=
  (if nw x2 ≤ nw x4 then some (1000 + x3) else if 0 ≤ nw x4 ∧ nw x4 < 500 then Parser_numberOf_b x2 g (((x3 * 10) + (g 41 (ix x4))) - 48) (x4 + 1) else none)
partial_fixpoint
def Parser_numberOf (x1 : Int) (x2 : Int) (g : AG) : Option Int :=
  (if nw (x2 - x1) ≤ 4 then Parser_numberOf_b x2 g 0 x1 else some 1)
set_option synthInstance.maxHeartbeats 2000000 in
def Parser_endOfWord_b (g : AG) (x2 : Int) (x3 : Int) : Option Int :=
  (if nw (g 4 2) ≤ nw x3 then some x2 else if 0 ≤ nw x3 ∧ nw x3 < 500 then (if nw (Parser_isLetter (g 41 (ix x3))) = 0 then some x2 else Parser_endOfWord_b g (x3 + 1) (x3 + 1)) else none)
partial_fixpoint
def Parser_endOfWord (x1 : Int) (g : AG) : Option Int :=
  Parser_endOfWord_b g x1 x1
set_option synthInstance.maxHeartbeats 2000000 in
def Parser_isSame_b (x1 : Int) (x2 : Int) (x3 : Int) (g : AG) (x4 : Int) : Option Int :=
  (if nw x3 ≤ nw x4 then some 1 else if 0 ≤ nw (x1 + x4) ∧ nw (x1 + x4) < 500 then if 0 ≤ nw (x2 + x4) ∧ nw (x2 + x4) < strLen 0 then (if nw (g 41 (ix (x1 + x4))) = nw (strCh 0 (ix (x2 + x4))) then Parser_isSame_b x1 x2 x3 g (x4 + 1) else some 0) else none else none)
partial_fixpoint
def Parser_isSame (x1 : Int) (x2 : Int) (x3 : Int) (g : AG) : Option Int :=
  Parser_isSame_b x1 x2 x3 g 0
set_option synthInstance.maxHeartbeats 2000000 in
def Parser_wordOf_b (x1 : Int) (x2 : Int) (g : AG) (tag : Nat) (x3 : Int) (x4 : Int) (x5 : Int) : Option Int :=
  (if tag = 1 then (if nw (strLen 0) ≤ nw x5 then some 1 else if 0 ≤ nw x5 ∧ nw x5 < strLen 0 then (if nw (strCh 0 (ix x5)) = 32 then (if nw (x5 - x4) = nw (x2 - x1) then (Parser_isSame x1 x4 (x5 - x4) g >>= fun (r5 : Int) => (if nw r5 = 0 then Parser_wordOf_b x1 x2 g 2 x3 x4 x5 else some x3)) else Parser_wordOf_b x1 x2 g 2 x3 x4 x5) else Parser_wordOf_b x1 x2 g 3 x3 x4 x5) else none) else (if tag = 2 then Parser_wordOf_b x1 x2 g 3 (x3 + 1) (x5 + 1) x5 else (if tag = 3 then Parser_wordOf_b x1 x2 g 1 x3 x4 (x5 + 1) else none)))
partial_fixpoint
def Parser_wordOf (x1 : Int) (x2 : Int) (g : AG) : Option Int :=
  Parser_wordOf_b x1 x2 g 1 100 0 0
set_option synthInstance.maxHeartbeats 2000000 in
def Parser_scan_b (tag : Nat) (x1 : Int) (x2 : Int) (g : AG) : Option (Int × AG) :=
  (if tag = 1 then (if 500 ≤ nw x2 then Parser_scan_b 2 x1 x2 g else (if nw (g 4 2) ≤ nw x1 then Parser_scan_b 2 x1 x2 g else if 0 ≤ nw x1 ∧ nw x1 < 500 then (((if nw (Parser_isLetter (g 41 (ix x1))) = 0 then (if nw (Parser_isDigit (g 41 (ix x1))) = 0 then (if nw (g 41 (ix x1)) = 32 then some ((x1 + 1), g) else (if nw (g 41 (ix x1)) = 10 then some ((x1 + 1), g) else (some ((if nw (strIx 1 (chrI (g 41 (ix x1)))) < 0 then 1 else (g 41 (ix x1)))) >>= fun (t8 : Int) => (Parser_add t8 x1 g >>= fun (r10 : Int × AG) => some ((x1 + 1), r10.2))))) else (Parser_endOfDigits x1 g >>= fun (r13 : Int) => (Parser_numberOf x1 r13 g >>= fun (r15 : Int) => (Parser_add r15 x1 g >>= fun (r17 : Int × AG) => some (r13, r17.2))))) else (Parser_endOfWord x1 g >>= fun (r19 : Int) => (Parser_wordOf x1 r19 g >>= fun (r21 : Int) => (Parser_add r21 x1 g >>= fun (r23 : Int × AG) => some (r19, r23.2))))) : Option (Int × AG)) >>= fun (r25 : Int × AG) => Parser_scan_b 1 r25.1 (x2 + 1) r25.2) else none)) else (if tag = 2 then (Parser_add 0 (g 4 2) g >>= fun (r1 : Int × AG) => some (0, r1.2)) else none))
partial_fixpoint
def Parser_scan (g : AG) : Option (Int × AG) :=
  (some (up g 4 5 0) >>= fun (g1 : AG) => Parser_scan_b 1 0 0 g1)
def Parser_goOn (g : AG) : Option (Int × AG) :=
  (((if nw ((g 4 5) - 1) ≤ nw (g 4 6) then some g else (some (up g 4 6 ((g 4 6) + 1)) >>= fun (g2 : AG) => some g2)) : Option (AG)) >>= fun (r4 : AG) => some (0, r4))
def Parser_fail (x1 : Int) (g : AG) : Option (Int × AG) :=
  (((if nw (g 4 7) = 0 then (some (up g 4 7 x1) >>= fun (g2 : AG) => if 0 ≤ nw (g2 4 6) ∧ nw (g2 4 6) < 501 then (some (up g2 4 8 (g2 43 (ix (g2 4 6)))) >>= fun (g5 : AG) => some g5) else none) else some g) : Option (AG)) >>= fun (r7 : AG) => some (0, r7))
def Rules_put (x1 : Int) (x2 : Int) (g : AG) : Option (Int × AG) :=
  (((if 500 ≤ nw (g 3 2) then some g else if 0 ≤ nw (g 3 2) ∧ nw (g 3 2) < 500 then (some (up g 29 (ix (g 3 2)) x1) >>= fun (g3 : AG) => if 0 ≤ nw (g3 3 2) ∧ nw (g3 3 2) < 500 then (some (up g3 30 (ix (g3 3 2)) x2) >>= fun (g6 : AG) => (some (up g6 3 2 ((g6 3 2) + 1)) >>= fun (g8 : AG) => some g8)) else none) else none) : Option (AG)) >>= fun (r10 : AG) => some (0, r10))
set_option synthInstance.maxHeartbeats 2000000 in
def Parser_readUnit_b (g : AG) : Option (Int × AG) :=
  (Parser_goOn g >>= fun (r1 : Int × AG) => some (0, r1.2))
partial_fixpoint
def Parser_readUnit (g : AG) : Option (Int × AG) :=
  if 0 ≤ nw (g 4 6) ∧ nw (g 4 6) < 501 then (if nw (g 4 7) = 0 then (if nw (g 42 (ix (g 4 6))) < 1000 then (if nw (X_within (g 42 (ix (g 4 6))) 111 119) = 0 then (Parser_fail 1 g >>= fun (r5 : Int × AG) => some (0, r5.2)) else (Rules_put 3 ((g 42 (ix (g 4 6))) - 111) g >>= fun (r7 : Int × AG) => Parser_readUnit_b r7.2)) else (Rules_put 2 ((g 42 (ix (g 4 6))) - 1000) g >>= fun (r9 : Int × AG) => Parser_readUnit_b r9.2)) else some (0, g)) else none
def Parser_is (x1 : Int) (g : AG) : Option Int :=
  (((if nw (g 4 7) = 0 then if 0 ≤ nw (g 4 6) ∧ nw (g 4 6) < 501 then (some ((if nw (g 42 (ix (g 4 6))) = nw x1 then 1 else 0)) >>= fun (t3 : Int) => some (t3)) else none else some (0)) : Option (Int)) >>= fun (r6 : Int) => if r6 = 0 ∨ r6 = 1 then some r6 else none)
def Parser_readPart (g : AG) : Option (Int × AG) :=
  if 0 ≤ nw (g 4 6) ∧ nw (g 4 6) < 501 then (((if 0 ≤ nw ((g 42 (ix (g 4 6))) - 1000) then (if nw ((g 42 (ix (g 4 6))) - 1000) = 0 then (Parser_fail 2 g >>= fun (r8 : Int × AG) => some r8.2) else (Rules_put 47 ((g 42 (ix (g 4 6))) - 1000) g >>= fun (r4 : Int × AG) => (Parser_goOn r4.2 >>= fun (r6 : Int × AG) => some r6.2))) else (Parser_fail 1 g >>= fun (r10 : Int × AG) => some r10.2)) : Option (AG)) >>= fun (r12 : AG) => some (0, r12)) else none
set_option synthInstance.maxHeartbeats 2000000 in
def Parser_readProduct_b (tag : Nat) (x1 : Int) (g : AG) : Option (Int × AG) :=
  (if tag = 1 then (if 500 ≤ nw x1 then some (0, g) else (Parser_is 42 g >>= fun (r2 : Int) => (if nw r2 = 0 then (Parser_is 47 g >>= fun (r5 : Int) => (if nw r5 = 0 then some (0, g) else Parser_readProduct_b 2 x1 g)) else Parser_readProduct_b 2 x1 g))) else (if tag = 2 then (Parser_is 42 g >>= fun (r1 : Int) => (Parser_goOn g >>= fun (r3 : Int × AG) => (((if nw r1 = 0 then (Parser_readPart r3.2 >>= fun (r6 : Int × AG) => some r6.2) else (Parser_readUnit r3.2 >>= fun (r8 : Int × AG) => (Rules_put 42 0 r8.2 >>= fun (r10 : Int × AG) => some r10.2))) : Option (AG)) >>= fun (r12 : AG) => Parser_readProduct_b 1 (x1 + 1) r12))) else none))
partial_fixpoint
def Parser_readProduct (g : AG) : Option (Int × AG) :=
  (Parser_readUnit g >>= fun (r1 : Int × AG) => Parser_readProduct_b 1 0 r1.2)
set_option synthInstance.maxHeartbeats 2000000 in
def Parser_readSum_b (tag : Nat) (x1 : Int) (g : AG) : Option (Int × AG) :=
  (if tag = 1 then (if 500 ≤ nw x1 then some (0, g) else (Parser_is 43 g >>= fun (r2 : Int) => (if nw r2 = 0 then (Parser_is 45 g >>= fun (r5 : Int) => (if nw r5 = 0 then some (0, g) else Parser_readSum_b 2 x1 g)) else Parser_readSum_b 2 x1 g))) else (if tag = 2 then if 0 ≤ nw (g 4 6) ∧ nw (g 4 6) < 501 then (Parser_goOn g >>= fun (r2 : Int × AG) => (Parser_readProduct r2.2 >>= fun (r4 : Int × AG) => (Rules_put (g 42 (ix (g 4 6))) 0 r4.2 >>= fun (r6 : Int × AG) => Parser_readSum_b 1 (x1 + 1) r6.2))) else none else none))
partial_fixpoint
def Parser_readSum (g : AG) : Option (Int × AG) :=
  (Parser_readProduct g >>= fun (r1 : Int × AG) => Parser_readSum_b 1 0 r1.2)
def Parser_numberUpTo (x1 : Int) (g : AG) : Option (Int × AG) :=
  if 0 ≤ nw (g 4 6) ∧ nw (g 4 6) < 501 then (((if 0 ≤ nw ((g 42 (ix (g 4 6))) - 1000) then (if nw ((g 42 (ix (g 4 6))) - 1000) ≤ nw x1 then some g else (Parser_fail 2 g >>= fun (r4 : Int × AG) => some r4.2)) else (Parser_fail 1 g >>= fun (r6 : Int × AG) => some r6.2)) : Option (AG)) >>= fun (r8 : AG) => (if nw (r8 4 7) = 0 then (Parser_goOn r8 >>= fun (r11 : Int × AG) => some (((g 42 (ix (g 4 6))) - 1000), r11.2)) else some (0, r8))) else none
def Rules_hasTunnel_3 (x1 : Int) (g : AG) : Int :=
  (if nw (andI (shrI (g 3 10) x1) 1) = 0 then 0 else 1)
theorem Rules_hasTunnel_3_01 {x1 : Int} {g : AG} : (Rules_hasTunnel_3 x1 g) = 0 ∨ (Rules_hasTunnel_3 x1 g) = 1 := by
  unfold Rules_hasTunnel_3
  (repeat' split) <;> first | exact Or.inl rfl | exact Or.inr rfl
set_option synthInstance.maxHeartbeats 2000000 in
def Parser_readTunnel_b (x1 : Int) (g : AG) : Option (Int × AG) :=
  (Parser_is 105 g >>= fun (r1 : Int) => (some ((if nw r1 = 0 then (15 + x1) else x1)) >>= fun (t3 : Int) => (if nw (Rules_hasTunnel_3 t3 g) = 0 then (Parser_goOn g >>= fun (r6 : Int × AG) => (some (up r6.2 3 10 (orI (r6.2 3 10) (shlI 1 t3))) >>= fun (g8 : AG) => (Parser_numberUpTo 24 g8 >>= fun (r10 : Int × AG) => if 0 ≤ nw t3 ∧ nw t3 < 30 then (some (up r10.2 37 (ix t3) r10.1) >>= fun (g13 : AG) => (Parser_numberUpTo 24 g13 >>= fun (r15 : Int × AG) => (some (up r15.2 38 (ix t3) r15.1) >>= fun (g17 : AG) => some (0, g17)))) else none))) else (Parser_fail 3 g >>= fun (r19 : Int × AG) => some (0, r19.2)))))
partial_fixpoint
def Parser_readTunnel (g : AG) : Option (Int × AG) :=
  (Parser_numberUpTo 14 g >>= fun (r1 : Int × AG) => (Parser_is 105 r1.2 >>= fun (r3 : Int) => (if nw r3 = 0 then (Parser_is 106 r1.2 >>= fun (r6 : Int) => (if nw r6 = 0 then (Parser_fail 1 r1.2 >>= fun (r9 : Int × AG) => some (0, r9.2)) else Parser_readTunnel_b r1.1 r1.2)) else Parser_readTunnel_b r1.1 r1.2)))
def Parser_openOneMore (x1 : Int) (g : AG) : Option (Int × AG) :=
  (((if nw x1 < 8 then (Parser_goOn g >>= fun (r2 : Int × AG) => some r2.2) else (Parser_fail 3 g >>= fun (r4 : Int × AG) => some r4.2)) : Option (AG)) >>= fun (r6 : AG) => some (0, r6))
def Parser_demandComparing (g : AG) : Option (Int × AG) :=
  (Parser_is 60 g >>= fun (r1 : Int) => (((if nw r1 = 0 then (Parser_is 61 g >>= fun (r6 : Int) => (if nw r6 = 0 then (Parser_is 62 g >>= fun (r11 : Int) => (if nw r11 = 0 then (Parser_fail 1 g >>= fun (r14 : Int × AG) => some r14.2) else (Parser_goOn g >>= fun (r16 : Int × AG) => some r16.2))) else (Parser_goOn g >>= fun (r9 : Int × AG) => some r9.2))) else (Parser_goOn g >>= fun (r4 : Int × AG) => some r4.2)) : Option (AG)) >>= fun (r18 : AG) => some (0, r18)))
def Parser_demand (x1 : Int) (g : AG) : Option (Int × AG) :=
  (Parser_is x1 g >>= fun (r1 : Int) => (((if nw r1 = 0 then (Parser_fail 1 g >>= fun (r4 : Int × AG) => some r4.2) else (Parser_goOn g >>= fun (r6 : Int × AG) => some r6.2)) : Option (AG)) >>= fun (r8 : AG) => some (0, r8)))
set_option synthInstance.maxHeartbeats 2000000 in
def Parser_readOne_b (rec : Int → AG → Option (Int × AG)) (x1 : Int) (tag : Nat) (x2 : Int) (x3 : Int) (g : AG) : Option (Int × AG) :=
  (if tag = 1 then (if 500 ≤ nw x3 then Parser_readOne_b rec x1 2 x2 x3 g else (Parser_is 110 g >>= fun (r2 : Int) => (if nw r2 = 0 then Parser_readOne_b rec x1 2 x2 x3 g else (Parser_openOneMore x2 g >>= fun (r5 : Int × AG) => Parser_readOne_b rec x1 1 (x2 + 1) (x3 + 1) r5.2)))) else (if tag = 2 then (Parser_is 40 g >>= fun (r1 : Int) => (((if nw r1 = 0 then (Parser_readSum g >>= fun (r4 : Int × AG) => if 0 ≤ nw (r4.2 4 6) ∧ nw (r4.2 4 6) < 501 then (Parser_demandComparing r4.2 >>= fun (r7 : Int × AG) => (Parser_readSum r7.2 >>= fun (r9 : Int × AG) => (Rules_put (r4.2 42 (ix (r4.2 4 6))) 0 r9.2 >>= fun (r11 : Int × AG) => some r11.2))) else none) else (Parser_openOneMore x2 g >>= fun (r13 : Int × AG) => (rec (x2 + 1) r13.2 >>= fun (r15 : Int × AG) => (Parser_demand 41 r15.2 >>= fun (r17 : Int × AG) => some r17.2)))) : Option (AG)) >>= fun (r19 : AG) => Parser_readOne_b rec x1 3 x2 x1 r19)) else (if tag = 3 then (if nw x2 ≤ nw x3 then some (0, g) else (Rules_put 110 0 g >>= fun (r2 : Int × AG) => Parser_readOne_b rec x1 3 x2 (x3 + 1) r2.2)) else none)))
partial_fixpoint
def Parser_readOne (rec : Int → AG → Option (Int × AG)) (x1 : Int) (g : AG) : Option (Int × AG) :=
  Parser_readOne_b rec x1 1 x1 0 g
set_option synthInstance.maxHeartbeats 2000000 in
def Parser_readAll_b (rec : Int → AG → Option (Int × AG)) (x1 : Int) (x2 : Int) (g : AG) : Option (Int × AG) :=
  (if 500 ≤ nw x2 then some (0, g) else (Parser_is 109 g >>= fun (r2 : Int) => (if nw r2 = 0 then some (0, g) else (Parser_goOn g >>= fun (r5 : Int × AG) => (Parser_readOne rec x1 r5.2 >>= fun (r7 : Int × AG) => (Rules_put 109 0 r7.2 >>= fun (r9 : Int × AG) => Parser_readAll_b rec x1 (x2 + 1) r9.2))))))
partial_fixpoint
def Parser_readAll (rec : Int → AG → Option (Int × AG)) (x1 : Int) (g : AG) : Option (Int × AG) :=
  (Parser_readOne rec x1 g >>= fun (r1 : Int × AG) => Parser_readAll_b rec x1 0 r1.2)
set_option synthInstance.maxHeartbeats 2000000 in
def Parser_readEither_b (rec : Int → AG → Option (Int × AG)) (x1 : Int) (x2 : Int) (g : AG) : Option (Int × AG) :=
  (if 500 ≤ nw x2 then some (0, g) else (Parser_is 108 g >>= fun (r2 : Int) => (if nw r2 = 0 then some (0, g) else (Parser_goOn g >>= fun (r5 : Int × AG) => (Parser_readAll rec x1 r5.2 >>= fun (r7 : Int × AG) => (Rules_put 108 0 r7.2 >>= fun (r9 : Int × AG) => Parser_readEither_b rec x1 (x2 + 1) r9.2))))))
partial_fixpoint
def Parser_readEither_s (rec : Int → AG → Option (Int × AG)) (x1 : Int) (g : AG) : Option (Int × AG) :=
  (if nw x1 ≤ 8 then (Parser_readAll rec x1 g >>= fun (r2 : Int × AG) => Parser_readEither_b rec x1 0 r2.2) else some (0, g))
def Parser_readEither : Nat → Int → AG → Option (Int × AG)
  | 0 => fun _ _ => none
  | n + 1 => fun x1 g => Parser_readEither_s (Parser_readEither n) x1 g
def Parser_readLine (g : AG) : Option (Int × AG) :=
  if 0 ≤ nw (g 4 6) ∧ nw (g 4 6) < 501 then (if nw (X_within (g 42 (ix (g 4 6))) 100 104) = 0 then (Parser_fail 1 g >>= fun (r47 : Int × AG) => some (0, r47.2)) else (if nw (g 3 3) < 16 then (Parser_goOn g >>= fun (r4 : Int × AG) => if 0 ≤ nw (g 3 3) ∧ nw (g 3 3) < 16 then (some (up r4.2 31 (ix (g 3 3)) (g 42 (ix (g 4 6)))) >>= fun (g7 : AG) => (some (up g7 32 (ix (g 3 3)) (g7 3 2)) >>= fun (g9 : AG) => (((if nw (g 42 (ix (g 4 6))) = 101 then (Parser_readTunnel g9 >>= fun (r23 : Int × AG) => some r23.2) else (if nw (g 42 (ix (g 4 6))) = 100 then (Parser_numberUpTo 24 g9 >>= fun (r15 : Int × AG) => (some (up r15.2 35 (ix (g 3 3)) r15.1) >>= fun (g17 : AG) => (Parser_numberUpTo 24 g17 >>= fun (r19 : Int × AG) => (some (up r19.2 36 (ix (g 3 3)) r19.1) >>= fun (g21 : AG) => some g21)))) else (Parser_readSum g9 >>= fun (r13 : Int × AG) => some r13.2))) : Option (AG)) >>= fun (r25 : AG) => (some (up r25 33 (ix (g 3 3)) (r25 3 2)) >>= fun (g27 : AG) => (((if nw (g 42 (ix (g 4 6))) = 101 then some g27 else (Parser_is 107 g27 >>= fun (r30 : Int) => (if nw r30 = 0 then some g27 else (Parser_goOn g27 >>= fun (r33 : Int × AG) => (Parser_readEither 12 0 r33.2 >>= fun (r35 : Int × AG) => some r35.2))))) : Option (AG)) >>= fun (r37 : AG) => (some (up r37 34 (ix (g 3 3)) (r37 3 2)) >>= fun (g39 : AG) => (Parser_demand 59 g39 >>= fun (r41 : Int × AG) => (some (up r41.2 3 3 ((r41.2 3 3) + 1)) >>= fun (g43 : AG) => some (0, g43))))))))) else none) else (Parser_fail 3 g >>= fun (r45 : Int × AG) => some (0, r45.2)))) else none
set_option synthInstance.maxHeartbeats 2000000 in
def Parser_read_b (tag : Nat) (x1 : Int) (g : AG) : Option (Int × AG) :=
  (if tag = 1 then (if 16 < nw x1 then Parser_read_b 2 x1 g else (if nw (g 4 7) = 0 then if 0 ≤ nw (g 4 6) ∧ nw (g 4 6) < 501 then (if nw (g 42 (ix (g 4 6))) = 0 then Parser_read_b 2 x1 g else (Parser_readLine g >>= fun (r5 : Int × AG) => Parser_read_b 1 (x1 + 1) r5.2)) else none else Parser_read_b 2 x1 g)) else (if tag = 2 then (some (up g 4 2 0) >>= fun (g1 : AG) => (some ((if nw (g1 4 7) = 0 then (g1 3 3) else (-1))) >>= fun (t3 : Int) => some (t3, g1))) else none))
partial_fixpoint
def Parser_read (g : AG) : Option (Int × AG) :=
  (some (up g 4 7 0) >>= fun (g1 : AG) => (some (up g1 4 8 (-1)) >>= fun (g3 : AG) => (some (up g3 4 6 0) >>= fun (g5 : AG) => (Rules_clear g5 >>= fun (r7 : Int × AG) => (Parser_scan r7.2 >>= fun (r9 : Int × AG) => Parser_read_b 1 0 r9.2)))))
def Rules_takeOver (g : AG) : Option (Int × AG) :=
  (some (up g 2 2 (g 3 2)) >>= fun (g1 : AG) => (some (up g1 2 3 (g1 3 3)) >>= fun (g3 : AG) => (some (up g3 2 10 (g3 3 10)) >>= fun (g5 : AG) => (some (copyG g5 29 (ix 0) 17 (ix 0) (ix 500)) >>= fun (g8 : AG) => (some (copyG g8 30 (ix 0) 18 (ix 0) (ix 500)) >>= fun (g11 : AG) => (some (copyG g11 31 (ix 0) 19 (ix 0) (ix 16)) >>= fun (g14 : AG) => (some (copyG g14 32 (ix 0) 20 (ix 0) (ix 16)) >>= fun (g17 : AG) => (some (copyG g17 33 (ix 0) 21 (ix 0) (ix 16)) >>= fun (g20 : AG) => (some (copyG g20 34 (ix 0) 22 (ix 0) (ix 16)) >>= fun (g23 : AG) => (some (copyG g23 35 (ix 0) 23 (ix 0) (ix 16)) >>= fun (g26 : AG) => (some (copyG g26 36 (ix 0) 24 (ix 0) (ix 16)) >>= fun (g29 : AG) => (some (copyG g29 37 (ix 0) 25 (ix 0) (ix 30)) >>= fun (g32 : AG) => (some (copyG g32 38 (ix 0) 26 (ix 0) (ix 30)) >>= fun (g35 : AG) => some (0, g35))))))))))))))
def X_rules (g : AG) : Option (Int × AG) :=
  (Parser_read g >>= fun (r1 : Int × AG) => (if nw r1.1 = (-1) then some ((-1), r1.2) else (Rules_takeOver r1.2 >>= fun (r4 : Int × AG) => (Voyage_learnHours r4.2 >>= fun (r6 : Int × AG) => some (r1.1, r6.2)))))
def X_fault (x1 : Int) (g : AG) : Int :=
  (if nw x1 = 0 then (g 4 7) else (if nw x1 = 1 then (g 4 8) else (-1)))
def X_open (x1 : Int) (x2 : Int) (g : AG) : Option Int :=
  (if nw (X_within x1 0 13) = 0 then some (-1) else (if nw x2 = 0 then if 0 ≤ nw x1 ∧ nw x1 < 14 then some (g 44 (ix x1)) else none else (((if nw x2 = 1 then if 0 ≤ nw x1 ∧ nw x1 < 14 then some ((g 45 (ix x1))) else none else some ((-1))) : Option (Int)) >>= fun (r5 : Int) => some r5)))
def X_isBoat (x1 : Int) (g : AG) : Int :=
  (X_within x1 0 ((g 6 7) - 1))
theorem X_isBoat_01 {x1 : Int} {g : AG} : (X_isBoat x1 g) = 0 ∨ (X_isBoat x1 g) = 1 := by
  unfold X_isBoat
  (repeat' split) <;> first | exact Or.inl rfl | exact Or.inr rfl | exact X_within_01
def X_isTime (x0 : Int) : Int :=
  (X_within x0 0 20159)
theorem X_isTime_01 {x0 : Int} : (X_isTime x0) = 0 ∨ (X_isTime x0) = 1 := by
  unfold X_isTime
  (repeat' split) <;> first | exact Or.inl rfl | exact Or.inr rfl | exact X_within_01
def X_isWay (x1 : Int) (x2 : Int) (x3 : Int) (x4 : Int) (g : AG) : Int :=
  (if nw (X_isBoat x1 g) = 0 then 0 else (if nw (X_isPoint x2) = 0 then 0 else (if nw (X_isPoint x3) = 0 then 0 else (if nw (X_isTime x4) = 0 then 0 else 1))))
theorem X_isWay_01 {x1 : Int} {x2 : Int} {x3 : Int} {x4 : Int} {g : AG} : (X_isWay x1 x2 x3 x4 g) = 0 ∨ (X_isWay x1 x2 x3 x4 g) = 1 := by
  unfold X_isWay
  (repeat' split) <;> first | exact Or.inl rfl | exact Or.inr rfl | exact X_isPoint_01 | exact X_isBoat_01 | exact X_isTime_01
def Voyage_setOut (x1 : Int) (x2 : Int) (g : AG) : Option (Int × AG) :=
  (some (up g 5 6 (15 + ((nw (60 - x1)).tdiv 6))) >>= fun (g1 : AG) => if x2 = 0 ∨ x2 = 1 then (some (up g1 5 7 x2) >>= fun (g4 : AG) => (some (fillG g4 47 14 0) >>= fun (g6 : AG) => some (0, g6))) else none)
def Rules_hasTunnel_2 (x1 : Int) (g : AG) : Int :=
  (if nw (andI (shrI (g 2 10) x1) 1) = 0 then 0 else 1)
theorem Rules_hasTunnel_2_01 {x1 : Int} {g : AG} : (Rules_hasTunnel_2 x1 g) = 0 ∨ (Rules_hasTunnel_2 x1 g) = 1 := by
  unfold Rules_hasTunnel_2
  (repeat' split) <;> first | exact Or.inl rfl | exact Or.inr rfl
def Rules_isTunnel (x1 : Int) (g : AG) : Int :=
  (if nw (Rules_hasTunnel_2 x1 g) = 0 then (if nw (Rules_hasTunnel_2 (15 + x1) g) = 0 then 0 else 1) else 1)
theorem Rules_isTunnel_01 {x1 : Int} {g : AG} : (Rules_isTunnel x1 g) = 0 ∨ (Rules_isTunnel x1 g) = 1 := by
  unfold Rules_isTunnel
  (repeat' split) <;> first | exact Or.inl rfl | exact Or.inr rfl | exact Rules_hasTunnel_2_01
def Voyage_firstHour (x1 : Int) (x2 : Int) (x3 : Int) (g : AG) : Option Int :=
  (if nw x2 = 1 then if 0 ≤ nw x3 ∧ nw x3 < 14 then some (g 44 (ix x3)) else none else (if nw x2 = 2 then if 0 ≤ nw x1 ∧ nw x1 < 30 then some (g 25 (ix x1)) else none else (if nw x2 = 3 then if 0 ≤ nw (15 + x1) ∧ nw (15 + x1) < 30 then some (g 25 (ix (15 + x1))) else none else some 0)))
def Voyage_hourBehind (x1 : Int) (x2 : Int) (x3 : Int) (g : AG) : Option Int :=
  (if nw x2 = 1 then if 0 ≤ nw x3 ∧ nw x3 < 14 then some (g 45 (ix x3)) else none else (if nw x2 = 2 then if 0 ≤ nw x1 ∧ nw x1 < 30 then some (g 26 (ix x1)) else none else (if nw x2 = 3 then if 0 ≤ nw (15 + x1) ∧ nw (15 + x1) < 30 then some (g 26 (ix (15 + x1))) else none else some 24)))
def Voyage_isStopped (x1 : Int) (x2 : Int) (g : AG) : Option Int :=
  (((if nw (g 5 7) = 0 then some (0) else if 0 ≤ nw x1 ∧ nw x1 < 15 then (some ((if nw (andI (shrI (g 16 (ix x1)) x2) 1) = 0 then 0 else 1)) >>= fun (t3 : Int) => some (t3)) else none) : Option (Int)) >>= fun (r6 : Int) => if r6 = 0 ∨ r6 = 1 then some r6 else none)
set_option synthInstance.maxHeartbeats 2000000 in
def Voyage_begins_b (x1 : Int) (x2 : Int) (x3 : Int) (g : AG) (tag : Nat) (x4 : Int) : Option Int :=
  (if tag = 1 then (if 14 ≤ nw x4 then some (-1) else (Voyage_firstHour x1 x2 x4 g >>= fun (r2 : Int) => (Voyage_hourBehind x1 x2 x4 g >>= fun (r4 : Int) => (if nw ((x4 * 1440) + ((mnI 20 r4) * 60)) ≤ nw (mxI x3 ((x4 * 1440) + ((mxI 8 r2) * 60))) then Voyage_begins_b x1 x2 x3 g 2 x4 else (Voyage_isStopped x1 x4 g >>= fun (r7 : Int) => (if nw r7 = 0 then some (mxI x3 ((x4 * 1440) + ((mxI 8 r2) * 60))) else Voyage_begins_b x1 x2 x3 g 2 x4)))))) else (if tag = 2 then Voyage_begins_b x1 x2 x3 g 1 (x4 + 1) else none))
partial_fixpoint
def Voyage_begins (x1 : Int) (x2 : Int) (x3 : Int) (g : AG) : Option Int :=
  (if 0 ≤ nw x3 then Voyage_begins_b x1 x2 x3 g 1 ((nw x3).tdiv 1440) else some (-1))
def Voyage_step (x1 : Int) (x2 : Int) (x3 : Int) (x4 : Int) (g : AG) : Option (Int × AG) :=
  (Voyage_begins x1 x2 x3 g >>= fun (r1 : Int) => (if nw r1 = (-1) then some ((-1), g) else (if nw (r1 + x4) < 20160 then (((if nw x2 = 1 then if 0 ≤ nw ((nw r1).tdiv 1440) ∧ nw ((nw r1).tdiv 1440) < 14 then (some (up g 47 (ix ((nw r1).tdiv 1440)) ((g 47 (ix ((nw r1).tdiv 1440))) + 1)) >>= fun (g7 : AG) => some g7) else none else some g) : Option (AG)) >>= fun (r9 : AG) => some ((r1 + x4), r9)) else some ((-1), g))))
set_option synthInstance.maxHeartbeats 2000000 in
def Voyage_pass_b (x1 : Int) (x4 : Int) (tag : Nat) (x5 : Int) (x6 : Int) (g : AG) : Option (Int × AG) :=
  (if tag = 1 then (if nw x4 ≤ nw x6 then Voyage_pass_b x1 x4 2 x5 x6 g else (Voyage_step x1 0 x5 20 g >>= fun (r2 : Int × AG) => Voyage_pass_b x1 x4 1 r2.1 (x6 + 1) r2.2)) else (if tag = 2 then Voyage_pass_b x1 x4 3 x5 0 g else (if tag = 3 then if 0 ≤ nw x1 ∧ nw x1 < 15 then (if nw (g 14 (ix x1)) ≤ nw x6 then some (x5, g) else (Voyage_step x1 1 x5 (g 5 6) g >>= fun (r3 : Int × AG) => Voyage_pass_b x1 x4 3 r3.1 (x6 + 1) r3.2)) else none else none)))
partial_fixpoint
def Voyage_pass (x1 : Int) (x2 : Int) (x3 : Int) (g : AG) : Option (Int × AG) :=
  if 0 ≤ nw x1 ∧ nw x1 < 15 then (if nw (Rules_isTunnel x1 g) = 0 then Voyage_pass_b x1 (g 13 (ix x1)) 1 x3 0 g else (((if nw (g 13 (ix x1)) ≤ 0 then some (x3, g) else (some ((if nw x2 = 0 then 3 else 2)) >>= fun (t4 : Int) => (Voyage_step x1 t4 x3 (20 * (g 13 (ix x1))) g >>= fun (r6 : Int × AG) => some (r6.1, r6.2)))) : Option (Int × AG)) >>= fun (r9 : Int × AG) => Voyage_pass_b x1 0 3 r9.1 0 r9.2)) else none
set_option synthInstance.maxHeartbeats 2000000 in
def Voyage_comesTo_b (x2 : Int) (x3 : Int) (tag : Nat) (x6 : Int) (x7 : Int) (g : AG) : Option (Int × AG) :=
  (if tag = 1 then (if nw x3 ≤ nw x7 then Voyage_comesTo_b x2 x3 2 x6 x2 g else (Voyage_pass x7 1 x6 g >>= fun (r2 : Int × AG) => Voyage_comesTo_b x2 x3 1 r2.1 (x7 + 1) r2.2)) else (if tag = 2 then (if nw x7 ≤ nw x3 then some (x6, g) else (Voyage_pass (x7 - 1) 0 x6 g >>= fun (r2 : Int × AG) => Voyage_comesTo_b x2 x3 2 r2.1 (x7 + (-1)) r2.2)) else none))
partial_fixpoint
def Voyage_comesTo (x1 : Int) (x2 : Int) (x3 : Int) (x4 : Int) (x5 : Int) (g : AG) : Option (Int × AG) :=
  (Voyage_setOut x1 x5 g >>= fun (r1 : Int × AG) => Voyage_comesTo_b x2 x3 1 x4 x2 r1.2)
def X_comes (x1 : Int) (x2 : Int) (x3 : Int) (x4 : Int) (g : AG) : Option (Int × AG) :=
  (if nw (X_isWay x1 x2 x3 x4 g) = 0 then some ((-1), g) else if 0 ≤ nw x1 ∧ nw x1 < 10 then (Voyage_comesTo (g 51 (ix x1)) x2 x3 x4 1 g >>= fun (r3 : Int × AG) => some (r3.1, r3.2)) else none)
set_option synthInstance.maxHeartbeats 2000000 in
def Voyage_reach_b (x2 : Int) (tag : Nat) (x4 : Int) (g : AG) : Option (Int × AG) :=
  (if tag = 1 then (if 15 ≤ nw x4 then Voyage_reach_b x2 2 x2 g else if 0 ≤ nw x4 ∧ nw x4 < 16 then (Voyage_pass x4 1 (g 46 (ix x4)) g >>= fun (r3 : Int × AG) => if 0 ≤ nw (x4 + 1) ∧ nw (x4 + 1) < 16 then (some (up r3.2 46 (ix (x4 + 1)) r3.1) >>= fun (g6 : AG) => Voyage_reach_b x2 1 (x4 + 1) g6) else none) else none) else (if tag = 2 then (if nw x4 ≤ 0 then some (0, g) else if 0 ≤ nw x4 ∧ nw x4 < 16 then (Voyage_pass (x4 - 1) 0 (g 46 (ix x4)) g >>= fun (r3 : Int × AG) => if 0 ≤ nw (x4 - 1) ∧ nw (x4 - 1) < 16 then (some (up r3.2 46 (ix (x4 - 1)) r3.1) >>= fun (g6 : AG) => Voyage_reach_b x2 2 (x4 + (-1)) g6) else none) else none) else none))
partial_fixpoint
def Voyage_reach (x1 : Int) (x2 : Int) (x3 : Int) (g : AG) : Option (Int × AG) :=
  (Voyage_setOut x1 1 g >>= fun (r1 : Int × AG) => if 0 ≤ nw x2 ∧ nw x2 < 16 then (some (up r1.2 46 (ix x2) x3) >>= fun (g4 : AG) => Voyage_reach_b x2 1 x2 g4) else none)
set_option synthInstance.maxHeartbeats 2000000 in
def Voyage_reached_b (x1 : Int) (g : AG) (x2 : Int) (x3 : Int) : Option Int :=
  (if 16 ≤ nw x3 then some x2 else if 0 ≤ nw x3 ∧ nw x3 < 16 then (((if nw (g 46 (ix x3)) = (-1) then some (x2) else (if nw x1 < nw (g 46 (ix x3)) then some (x2) else some ((orI x2 (shlI 1 x3))))) : Option (Int)) >>= fun (r5 : Int) => Voyage_reached_b x1 g r5 (x3 + 1)) else none)
partial_fixpoint
def Voyage_reached (x1 : Int) (g : AG) : Option Int :=
  Voyage_reached_b x1 g 0 0
def X_maybe (x1 : Int) (x2 : Int) (x3 : Int) (x4 : Int) (g : AG) : Option (Int × AG) :=
  (if nw (X_isWay x1 x2 x2 x3 g) = 0 then some ((-1), g) else (if nw (X_isTime x4) = 0 then some ((-1), g) else (if nw x3 ≤ nw x4 then if 0 ≤ nw x1 ∧ nw x1 < 10 then (Voyage_reach (g 51 (ix x1)) x2 x3 g >>= fun (r5 : Int × AG) => (Voyage_reached x4 r5.2 >>= fun (r7 : Int) => some (r7, r5.2))) else none else some ((-1), g))))
def Rules_valueOf (x1 : Int) (g : AG) : Option (Int × AG) :=
  (((if nw (X_within x1 0 ((g 2 3) - 1)) = 0 then some (0, g) else if 0 ≤ nw x1 ∧ nw x1 < 16 then (Rules_run (g 20 (ix x1)) (g 21 (ix x1)) g >>= fun (r3 : Int × AG) => some (r3.1, r3.2)) else none) : Option (Int × AG)) >>= fun (r5 : Int × AG) => some (r5.1, r5.2))
def Boats_harmOfLock (x1 : Int) (x2 : Int) (g : AG) : Option (Int × AG) :=
  (Rules_askDay x2 (g 1 5) g >>= fun (r1 : Int × AG) => if 0 ≤ nw x1 ∧ nw x1 < 10 then (some (up r1.2 27 (ix 3) (r1.2 48 (ix x1))) >>= fun (g4 : AG) => (some (up g4 27 (ix 5) (g4 49 (ix x1))) >>= fun (g6 : AG) => (some (up g6 27 (ix 8) (g6 51 (ix x1))) >>= fun (g8 : AG) => (Rules_serving 104 g8 >>= fun (r10 : Int × AG) => (((if nw r10.1 = (-1) then some (0, r10.2) else (Rules_valueOf r10.1 r10.2 >>= fun (r13 : Int × AG) => some ((mxI 0 (mnI 999 r13.1)), r13.2))) : Option (Int × AG)) >>= fun (r15 : Int × AG) => some (r15.1, r15.2)))))) else none)
set_option synthInstance.maxHeartbeats 2000000 in
def Boats_harmOfLatestWay_b (x1 : Int) (x2 : Int) (x3 : Int) (g : AG) : Option (Int × AG) :=
  (if 14 ≤ nw x3 then some (x2, g) else if 0 ≤ nw x3 ∧ nw x3 < 14 then (((if nw (g 47 (ix x3)) ≤ 0 then some (x2, g) else (Boats_harmOfLock x1 x3 g >>= fun (r4 : Int × AG) => some ((x2 + ((g 47 (ix x3)) * r4.1)), r4.2))) : Option (Int × AG)) >>= fun (r6 : Int × AG) => Boats_harmOfLatestWay_b x1 r6.1 (x3 + 1) r6.2) else none)
partial_fixpoint
def Boats_harmOfLatestWay (x1 : Int) (g : AG) : Option (Int × AG) :=
  Boats_harmOfLatestWay_b x1 0 0 g
def X_harm (x1 : Int) (x2 : Int) (x3 : Int) (x4 : Int) (g : AG) : Option (Int × AG) :=
  (if nw (X_isWay x1 x2 x3 x4 g) = 0 then some ((-1), g) else if 0 ≤ nw x1 ∧ nw x1 < 10 then (Voyage_comesTo (g 51 (ix x1)) x2 x3 x4 1 g >>= fun (r3 : Int × AG) => (((if nw r3.1 = (-1) then some ((-1), r3.2) else (Boats_harmOfLatestWay x1 r3.2 >>= fun (r6 : Int × AG) => some (r6.1, r6.2))) : Option (Int × AG)) >>= fun (r8 : Int × AG) => some (r8.1, r8.2))) else none)
def Trips_lateBy (x1 : Int) (x2 : Int) (g : AG) : Option (Int × AG) :=
  if 0 ≤ nw x1 ∧ nw x1 < 20 then if 0 ≤ nw (g 76 (ix x1)) ∧ nw (g 76 (ix x1)) < 10 then (Voyage_comesTo (g 51 (ix (g 76 (ix x1)))) (g 77 (ix x1)) (g 78 (ix x1)) (g 79 (ix x1)) x2 g >>= fun (r3 : Int × AG) => (((if nw r3.1 = (-1) then some (20160, r3.2) else some ((mxI 0 (r3.1 - (r3.2 80 (ix x1)))), r3.2)) : Option (Int × AG)) >>= fun (r6 : Int × AG) => some (r6.1, r6.2))) else none else none
def Rules_askWeek (x1 : Int) (g : AG) : Option (Int × AG) :=
  (some (fillG g 27 9 0) >>= fun (g1 : AG) => (some (up g1 27 (ix 1) x1) >>= fun (g3 : AG) => some (0, g3)))
def Boats_priceLine (x1 : Int) (x2 : Int) (x3 : Int) (g : AG) : Option (Int × AG) :=
  (Rules_askWeek x2 g >>= fun (r1 : Int × AG) => if 0 ≤ nw x1 ∧ nw x1 < 10 then (some (up r1.2 27 (ix 3) (r1.2 48 (ix x1))) >>= fun (g4 : AG) => (some ((if nw x3 = 0 then 0 else 1)) >>= fun (t6 : Int) => (some (up g4 27 (ix 4) t6) >>= fun (g8 : AG) => (some (up g8 27 (ix 5) (g8 49 (ix x1))) >>= fun (g10 : AG) => (Rules_serving 102 g10 >>= fun (r12 : Int × AG) => some (r12.1, r12.2)))))) else none)
def Trips_refund (x1 : Int) (g : AG) : Option (Int × AG) :=
  (Trips_lateBy x1 1 g >>= fun (r1 : Int × AG) => (if nw r1.1 = 0 then some (0, r1.2) else if 0 ≤ nw x1 ∧ nw x1 < 20 then (some ((if nw (r1.2 77 (ix x1)) = nw (r1.2 78 (ix x1)) then 0 else 1)) >>= fun (t5 : Int) => (Boats_priceLine (r1.2 76 (ix x1)) ((nw ((nw (r1.2 79 (ix x1))).tdiv 1440)).tdiv 7) t5 r1.2 >>= fun (r7 : Int × AG) => (if nw r7.1 = (-1) then some ((-1000000), r7.2) else (Rules_valueOf r7.1 r7.2 >>= fun (r10 : Int × AG) => some (((nl ((nw r10.1) * (nw (mnI 7 ((nw ((r1.1 + 1440) - 1)).tdiv 1440))))).tdiv 7), r10.2))))) else none))
def Trips_isBackInTime (x1 : Int) (x2 : Int) (g : AG) : Option (Int × AG) :=
  if 0 ≤ nw x1 ∧ nw x1 < 20 then if 0 ≤ nw (g 76 (ix x1)) ∧ nw (g 76 (ix x1)) < 10 then (Voyage_comesTo (g 51 (ix (g 76 (ix x1)))) (g 77 (ix x1)) x2 (g 79 (ix x1)) 1 g >>= fun (r3 : Int × AG) => (if nw r3.1 = (-1) then some (0, r3.2) else (Voyage_comesTo (g 51 (ix (g 76 (ix x1)))) x2 (r3.2 77 (ix x1)) r3.1 1 r3.2 >>= fun (r6 : Int × AG) => (((if nw r6.1 = (-1) then some (0, r6.2) else (some ((if nw (r6.2 80 (ix x1)) < nw r6.1 then 0 else 1)) >>= fun (t9 : Int) => some (t9, r6.2))) : Option (Int × AG)) >>= fun (r12 : Int × AG) => if r12.1 = 0 ∨ r12.1 = 1 then some (r12.1, r12.2) else none)))) else none else none
set_option synthInstance.maxHeartbeats 2000000 in
def Trips_turningBack_b (x1 : Int) (x3 : Int) (x4 : Int) (x2 : Int) (x5 : Int) (g : AG) : Option (Int × AG) :=
  (if nw x4 < nw x5 then some (x2, g) else if 0 ≤ nw x1 ∧ nw x1 < 20 then (Trips_isBackInTime x1 ((g 77 (ix x1)) + (x5 * x3)) g >>= fun (r3 : Int × AG) => (((if nw r3.1 = 0 then some (x2, r3.2) else some (((g 77 (ix x1)) + (x5 * x3)), r3.2)) : Option (Int × AG)) >>= fun (r6 : Int × AG) => Trips_turningBack_b x1 x3 x4 r6.1 (x5 + 1) r6.2)) else none)
partial_fixpoint
def Trips_turningBack (x1 : Int) (g : AG) : Option (Int × AG) :=
  if 0 ≤ nw x1 ∧ nw x1 < 20 then (some ((if nw (g 77 (ix x1)) ≤ nw (g 78 (ix x1)) then 1 else (-1))) >>= fun (t2 : Int) => Trips_turningBack_b x1 t2 (abI ((g 78 (ix x1)) - (g 77 (ix x1)))) (-1000000) 0 g) else none
def X_back (x1 : Int) (x2 : Int) (g : AG) : Option (Int × AG) :=
  (if nw (X_within x1 0 ((g 7 8) - 1)) = 0 then some ((-1000000), g) else (if nw x2 = 0 then (Trips_turningBack x1 g >>= fun (r8 : Int × AG) => some (r8.1, r8.2)) else (((if nw x2 = 1 then (Trips_refund x1 g >>= fun (r4 : Int × AG) => some (r4.1, r4.2)) else some ((-1000000), g)) : Option (Int × AG)) >>= fun (r6 : Int × AG) => some (r6.1, r6.2))))
set_option synthInstance.maxHeartbeats 2000000 in
def X_rung_b (x1 : Int) (x2 : Int) (g : AG) : Option (Int × AG) :=
  (if nw (g 7 8) ≤ nw x2 then some (x1, g) else (Trips_lateBy x2 1 g >>= fun (r2 : Int × AG) => (((if nw r2.1 ≤ 0 then some (x1, r2.2) else (Trips_lateBy x2 0 r2.2 >>= fun (r5 : Int × AG) => (if nw r5.1 = 0 then some ((orI x1 (shlI 1 x2)), r5.2) else some (x1, r5.2)))) : Option (Int × AG)) >>= fun (r8 : Int × AG) => X_rung_b r8.1 (x2 + 1) r8.2)))
partial_fixpoint
def X_rung (g : AG) : Option (Int × AG) :=
  X_rung_b 0 0 g
def Canal_setPump (x1 : Int) (x2 : Int) (g : AG) : Option (Int × AG) :=
  (((if nw x2 = 0 then (some (up g 1 6 (andI (g 1 6) (xorI (shlI 1 x1) (-1)))) >>= fun (g2 : AG) => some g2) else (some (up g 1 6 (orI (g 1 6) (shlI 1 x1))) >>= fun (g4 : AG) => some g4)) : Option (AG)) >>= fun (r6 : AG) => some (0, r6))
def X_pump (x1 : Int) (x2 : Int) (g : AG) : Option (Int × AG) :=
  (if nw (X_isPoint x1) = 0 then some (0, g) else (Canal_setPump x1 x2 g >>= fun (r2 : Int × AG) => some (1, r2.2)))
set_option synthInstance.maxHeartbeats 2000000 in
def Voyage_nextPump_b (g : AG) (x1 : Int) (x2 : Int) : Option Int :=
  (if 16 ≤ nw x2 then some x1 else (((if nw (andI (shrI (g 1 6) x2) 1) = 0 then some (0) else if 0 ≤ nw x2 ∧ nw x2 < 16 then (some ((if nw (g 46 (ix x2)) = (-1) then 0 else 1)) >>= fun (t4 : Int) => some (t4)) else none) : Option (Int)) >>= fun (r7 : Int) => (((if nw r7 = 0 then some (x1) else (if nw x1 = (-1) then some (x2) else if 0 ≤ nw x2 ∧ nw x2 < 16 then if 0 ≤ nw x1 ∧ nw x1 < 16 then (if nw (g 46 (ix x1)) ≤ nw (g 46 (ix x2)) then some (x1) else some (x2)) else none else none)) : Option (Int)) >>= fun (r14 : Int) => Voyage_nextPump_b g r14 (x2 + 1))))
partial_fixpoint
def Voyage_nextPump (g : AG) : Option Int :=
  Voyage_nextPump_b g (-1) 0
def X_pumped (x1 : Int) (x2 : Int) (x3 : Int) (x4 : Int) (x5 : Int) (g : AG) : Option (Int × AG) :=
  (if nw (X_isWay x1 x2 x2 x3 g) = 0 then some ((-1), g) else (if nw (X_isTime x4) = 0 then some ((-1), g) else (if nw x4 ≤ nw x3 then if 0 ≤ nw x1 ∧ nw x1 < 10 then (Voyage_reach (g 51 (ix x1)) x2 x3 g >>= fun (r5 : Int × AG) => (Voyage_nextPump r5.2 >>= fun (r7 : Int) => (if nw r7 = (-1) then some ((-1), r5.2) else (if nw (X_within x5 0 2) = 0 then some ((-1), r5.2) else (if nw x5 = 0 then some (r7, r5.2) else if 0 ≤ nw r7 ∧ nw r7 < 16 then (if nw x5 = 1 then some ((r5.2 46 (ix r7)), r5.2) else (some ((if nw (r5.2 46 (ix r7)) ≤ nw (x4 + 10080) then 0 else 1)) >>= fun (t14 : Int) => some (t14, r5.2))) else none))))) else none else some ((-1), g))))
set_option synthInstance.maxHeartbeats 2000000 in
def X_enough_b (x2 : Int) (x3 : Int) (x4 : Int) (x5 : Int) (tag : Nat) (x6 : Int) (g : AG) : Option (Int × AG) :=
  (if tag = 1 then (if 60 < nw x6 then some ((-1), g) else (if nw (X_isTime (x4 + x6)) = 0 then some ((-1), g) else (Voyage_comesTo x6 x2 x3 (x4 + x6) 1 g >>= fun (r3 : Int × AG) => (if nw r3.1 = (-1) then X_enough_b x2 x3 x4 x5 2 x6 r3.2 else (if nw x5 < nw r3.1 then X_enough_b x2 x3 x4 x5 2 x6 r3.2 else some (x6, r3.2)))))) else (if tag = 2 then X_enough_b x2 x3 x4 x5 1 (x6 + 1) g else none))
partial_fixpoint
def X_enough (x1 : Int) (x2 : Int) (x3 : Int) (x4 : Int) (x5 : Int) (g : AG) : Option (Int × AG) :=
  (if nw (X_isWay x1 x2 x3 x4 g) = 0 then some ((-1), g) else (if nw (X_isTime x5) = 0 then some ((-1), g) else X_enough_b x2 x3 x4 x5 1 0 g))
def Trips_add (x1 : Int) (x2 : Int) (x3 : Int) (x4 : Int) (x5 : Int) (g : AG) : Option (Int × AG) :=
  (if nw (g 7 8) < 20 then if 0 ≤ nw (g 7 8) ∧ nw (g 7 8) < 20 then (some (up g 76 (ix (g 7 8)) x1) >>= fun (g3 : AG) => if 0 ≤ nw (g3 7 8) ∧ nw (g3 7 8) < 20 then (some (up g3 77 (ix (g3 7 8)) x2) >>= fun (g6 : AG) => if 0 ≤ nw (g6 7 8) ∧ nw (g6 7 8) < 20 then (some (up g6 78 (ix (g6 7 8)) x3) >>= fun (g9 : AG) => if 0 ≤ nw (g9 7 8) ∧ nw (g9 7 8) < 20 then (some (up g9 79 (ix (g9 7 8)) x4) >>= fun (g12 : AG) => if 0 ≤ nw (g12 7 8) ∧ nw (g12 7 8) < 20 then (some (up g12 80 (ix (g12 7 8)) x5) >>= fun (g15 : AG) => (some (up g15 7 8 ((g15 7 8) + 1)) >>= fun (g17 : AG) => some (((g17 7 8) - 1), g17))) else none) else none) else none) else none) else none else some ((-1), g))
def X_trip (x1 : Int) (x2 : Int) (x3 : Int) (x4 : Int) (x5 : Int) (g : AG) : Option (Int × AG) :=
  (if nw (X_isWay x1 x2 x3 x4 g) = 0 then some ((-1), g) else (if nw (X_isTime x5) = 0 then some ((-1), g) else (Trips_add x1 x2 x3 x4 x5 g >>= fun (r3 : Int × AG) => some (r3.1, r3.2))))
set_option synthInstance.maxHeartbeats 2000000 in
def Trips_howManyLate_b (x1 : Int) (x2 : Int) (g : AG) : Option (Int × AG) :=
  (if nw (g 7 8) ≤ nw x2 then some (x1, g) else (Trips_lateBy x2 1 g >>= fun (r2 : Int × AG) => (((if nw r2.1 ≤ 0 then some (x1, r2.2) else some ((x1 + 1), r2.2)) : Option (Int × AG)) >>= fun (r5 : Int × AG) => Trips_howManyLate_b r5.1 (x2 + 1) r5.2)))
partial_fixpoint
def Trips_howManyLate (g : AG) : Option (Int × AG) :=
  Trips_howManyLate_b 0 0 g
def X_late (x1 : Int) (g : AG) : Option (Int × AG) :=
  (if nw x1 = (-1) then (Trips_howManyLate g >>= fun (r7 : Int × AG) => some (r7.1, r7.2)) else (((if nw (X_within x1 0 ((g 7 8) - 1)) = 0 then some ((-1), g) else (Trips_lateBy x1 1 g >>= fun (r3 : Int × AG) => some (r3.1, r3.2))) : Option (Int × AG)) >>= fun (r5 : Int × AG) => some (r5.1, r5.2)))
set_option synthInstance.maxHeartbeats 2000000 in
def Boats_addLog_b (x1 : Int) (x2 : Int) (x3 : Int) (x4 : Int) (g : AG) : Option (Int × AG) :=
  if 0 ≤ nw x1 ∧ nw x1 < 10 then if 0 ≤ nw x4 ∧ nw x4 < 10 then (some (up g (53 + ix x1) (ix x4) x2) >>= fun (g3 : AG) => (some (up g3 (64 + ix x1) (ix x4) x3) >>= fun (g5 : AG) => (some (up g5 74 (ix x1) (x4 + 1)) >>= fun (g7 : AG) => some ((x4 + 1), g7)))) else none else none
partial_fixpoint
def Boats_addLog (x1 : Int) (x2 : Int) (x3 : Int) (g : AG) : Option (Int × AG) :=
  if 0 ≤ nw x1 ∧ nw x1 < 10 then (if 10 ≤ nw (g 74 (ix x1)) then some ((-1), g) else (if nw (g 74 (ix x1)) ≤ 0 then Boats_addLog_b x1 x2 x3 (g 74 (ix x1)) g else if 0 ≤ nw ((g 74 (ix x1)) - 1) ∧ nw ((g 74 (ix x1)) - 1) < 10 then (if nw (g (64 + ix x1) (ix ((g 74 (ix x1)) - 1))) < nw x3 then Boats_addLog_b x1 x2 x3 (g 74 (ix x1)) g else some ((-1), g)) else none)) else none
def X_log (x1 : Int) (x2 : Int) (x3 : Int) (g : AG) : Option (Int × AG) :=
  (if nw (X_isWay x1 x2 x2 x3 g) = 0 then some ((-1), g) else (Boats_addLog x1 x2 x3 g >>= fun (r2 : Int × AG) => some (r2.1, r2.2)))
def Boats_placeOf (x1 : Int) (x2 : Int) (g : AG) : Option Int :=
  (((if 0 ≤ nw x2 then if 0 ≤ nw x1 ∧ nw x1 < 10 then if 0 ≤ nw x2 ∧ nw x2 < 10 then some ((g (53 + ix x1) (ix x2))) else none else none else if 0 ≤ nw x1 ∧ nw x1 < 10 then some ((g 50 (ix x1))) else none) : Option (Int)) >>= fun (r5 : Int) => some r5)
def Boats_timeOf (x1 : Int) (x2 : Int) (g : AG) : Option Int :=
  (((if 0 ≤ nw x2 then if 0 ≤ nw x1 ∧ nw x1 < 10 then if 0 ≤ nw x2 ∧ nw x2 < 10 then some ((g (64 + ix x1) (ix x2))) else none else none else some (0)) : Option (Int)) >>= fun (r4 : Int) => some r4)
def Boats_canBetween (x1 : Int) (x2 : Int) (x3 : Int) (x4 : Int) (x5 : Int) (g : AG) : Option (Int × AG) :=
  if 0 ≤ nw x1 ∧ nw x1 < 10 then (some ((if nw (x2 + 1) < nw (g 74 (ix x1)) then 0 else 1)) >>= fun (t2 : Int) => (((if nw t2 = 0 then if 0 ≤ nw (x2 + 1) ∧ nw (x2 + 1) < 10 then some ((g (64 + ix x1) (ix (x2 + 1))), g) else none else some (20160, g)) : Option (Int × AG)) >>= fun (r6 : Int × AG) => (Boats_placeOf x1 x2 r6.2 >>= fun (r8 : Int) => (Boats_timeOf x1 x2 r6.2 >>= fun (r10 : Int) => (Voyage_comesTo (r6.2 51 (ix x1)) r8 x3 r10 1 r6.2 >>= fun (r12 : Int × AG) => (if nw r12.1 = (-1) then some (0, r12.2) else (if nw x5 < nw (mxI r12.1 x4) then some (0, r12.2) else (if nw (mxI r12.1 x4) < nw r6.1 then (if nw t2 = 0 then if 0 ≤ nw (x2 + 1) ∧ nw (x2 + 1) < 10 then (Voyage_comesTo (r12.2 51 (ix x1)) x3 (r12.2 (53 + ix x1) (ix (x2 + 1))) (mxI r12.1 x4) 1 r12.2 >>= fun (r19 : Int × AG) => (some ((if nw r19.1 = (-1) then 0 else (if nw r6.1 < nw r19.1 then 0 else 1))) >>= fun (t21 : Int) => some (t21, r19.2))) else none else some (1, r12.2)) else some (0, r12.2))))))))) else none
set_option synthInstance.maxHeartbeats 2000000 in
def Boats_canHaveBeen_b (x1 : Int) (x2 : Int) (x3 : Int) (x4 : Int) (x5 : Int) (g : AG) : Option (Int × AG) :=
  if 0 ≤ nw x1 ∧ nw x1 < 10 then (if nw (g 74 (ix x1)) ≤ nw x5 then some (0, g) else (Boats_canBetween x1 x5 x2 x3 x4 g >>= fun (r3 : Int × AG) => (if nw r3.1 = 0 then Boats_canHaveBeen_b x1 x2 x3 x4 (x5 + 1) r3.2 else some (1, r3.2)))) else none
partial_fixpoint
def Boats_canHaveBeen (x1 : Int) (x2 : Int) (x3 : Int) (x4 : Int) (g : AG) : Option (Int × AG) :=
  Boats_canHaveBeen_b x1 x2 x3 x4 (-1) g
def X_could (x1 : Int) (x2 : Int) (x3 : Int) (x4 : Int) (g : AG) : Option (Int × AG) :=
  (if nw (X_isWay x1 x2 x2 x3 g) = 0 then some ((-1), g) else (if nw (X_isTime x4) = 0 then some ((-1), g) else (if nw x3 ≤ nw x4 then (Boats_canHaveBeen x1 x2 x3 x4 g >>= fun (r4 : Int × AG) => (some ((if nw r4.1 = 0 then 0 else 1)) >>= fun (t6 : Int) => some (t6, r4.2))) else some ((-1), g))))
set_option synthInstance.maxHeartbeats 2000000 in
def X_whose_b (x1 : Int) (x2 : Int) (x3 : Int) (x4 : Int) (x5 : Int) (x6 : Int) (x7 : Int) (g : AG) : Option (Int × AG) :=
  (if nw (g 6 7) ≤ nw x7 then (if nw x4 = 0 then some (x5, g) else (Integer_bitCount x5 g >>= fun (r3 : Int) => (some ((if nw r3 = 1 then x6 else (-1))) >>= fun (t5 : Int) => some (t5, g)))) else (Boats_canHaveBeen x7 x1 x2 x3 g >>= fun (r8 : Int × AG) => (((if nw r8.1 = 0 then some (x5, x6, r8.2) else some ((orI x5 (shlI 1 x7)), x7, r8.2)) : Option (Int × Int × AG)) >>= fun (r11 : Int × Int × AG) => X_whose_b x1 x2 x3 x4 r11.1 r11.2.1 (x7 + 1) r11.2.2)))
partial_fixpoint
def X_whose (x1 : Int) (x2 : Int) (x3 : Int) (x4 : Int) (g : AG) : Option (Int × AG) :=
  (if nw (X_isPoint x1) = 0 then some ((-1), g) else (if nw (X_isTime x2) = 0 then some ((-1), g) else (if nw (X_isTime x3) = 0 then some ((-1), g) else (if nw x2 ≤ nw x3 then (if nw (X_within x4 0 1) = 0 then some ((-1), g) else X_whose_b x1 x2 x3 x4 0 (-1) 0 g) else some ((-1), g)))))
set_option synthInstance.maxHeartbeats 2000000 in
def Boats_lastLog_b (x1 : Int) (x2 : Int) (g : AG) (x3 : Int) (x4 : Int) : Option Int :=
  if 0 ≤ nw x1 ∧ nw x1 < 10 then (if nw (g 74 (ix x1)) ≤ nw x4 then some x3 else if 0 ≤ nw x4 ∧ nw x4 < 10 then (if nw x2 < nw (g (64 + ix x1) (ix x4)) then some x3 else Boats_lastLog_b x1 x2 g x4 (x4 + 1)) else none) else none
partial_fixpoint
def Boats_lastLog (x1 : Int) (x2 : Int) (g : AG) : Option Int :=
  Boats_lastLog_b x1 x2 g (-1) 0
set_option synthInstance.maxHeartbeats 2000000 in
def Boats_settleTonight_b (x1 : Int) (tag : Nat) (x2 : Int) (x4 : Int) (x5 : Int) (g : AG) : Option (Int × AG) :=
  (if tag = 1 then (if nw (g 6 7) ≤ nw x2 then some (0, g) else (Boats_lastLog x2 x1 g >>= fun (r2 : Int) => if 0 ≤ nw x2 ∧ nw x2 < 10 then (Boats_placeOf x2 r2 g >>= fun (r5 : Int) => (Boats_timeOf x2 r2 g >>= fun (r7 : Int) => (Voyage_reach (g 51 (ix x2)) r5 r7 g >>= fun (r9 : Int × AG) => (Voyage_reached x1 r9.2 >>= fun (r11 : Int) => Boats_settleTonight_b x1 2 x2 r11 0 r9.2)))) else none)) else (if tag = 2 then (if 16 ≤ nw x5 then Boats_settleTonight_b x1 1 (x2 + 1) x4 x5 g else if 0 ≤ nw x5 ∧ nw x5 < 16 then (some (up g 75 (ix x5) (orI (g 75 (ix x5)) (shlI (andI (shrI x4 x5) 1) x2))) >>= fun (g3 : AG) => Boats_settleTonight_b x1 2 x2 x4 (x5 + 1) g3) else none) else none))
partial_fixpoint
def Boats_settleTonight (x1 : Int) (g : AG) : Option (Int × AG) :=
  (some (fillG g 75 16 0) >>= fun (g1 : AG) => Boats_settleTonight_b x1 1 0 0 0 g1)
set_option synthInstance.maxHeartbeats 2000000 in
def Boats_crowd_b (g : AG) (x1 : Int) (x2 : Int) : Option Int :=
  (if 16 ≤ nw x2 then some x1 else if 0 ≤ nw x2 ∧ nw x2 < 16 then (Integer_bitCount (g 75 (ix x2)) g >>= fun (r3 : Int) => if 0 ≤ nw x1 ∧ nw x1 < 16 then (Integer_bitCount (g 75 (ix x1)) g >>= fun (r6 : Int) => (((if nw r3 ≤ nw r6 then some (x1) else some (x2)) : Option (Int)) >>= fun (r9 : Int) => Boats_crowd_b g r9 (x2 + 1))) else none) else none)
partial_fixpoint
def Boats_crowd (g : AG) : Option Int :=
  Boats_crowd_b g 0 1
def X_tonight (x1 : Int) (x2 : Int) (g : AG) : Option (Int × AG) :=
  (if nw (X_isTime x1) = 0 then some ((-1), g) else (if nw (X_within x2 0 17) = 0 then some ((-1), g) else (Boats_settleTonight x1 g >>= fun (r3 : Int × AG) => (if 16 ≤ nw x2 then (Boats_crowd r3.2 >>= fun (r6 : Int) => (((if nw x2 = 16 then some (r6, r3.2) else if 0 ≤ nw r6 ∧ nw r6 < 16 then (Integer_bitCount (r3.2 75 (ix r6)) r3.2 >>= fun (r10 : Int) => some (r10, r3.2)) else none) : Option (Int × AG)) >>= fun (r12 : Int × AG) => some (r12.1, r12.2))) else if 0 ≤ nw x2 ∧ nw x2 < 16 then some ((r3.2 75 (ix x2)), r3.2) else none))))
def LockQueue_minutesOf_8_84 (x2 : Int) (g : AG) : Option Int :=
  (((if nw x2 ≤ 0 then some (15) else if 0 ≤ nw x2 ∧ nw x2 < 7 then if 0 ≤ nw (g 84 (ix x2)) ∧ nw (g 84 (ix x2)) < 7 then if 0 ≤ nw (x2 - 1) ∧ nw (x2 - 1) < 7 then if 0 ≤ nw (g 84 (ix (x2 - 1))) ∧ nw (g 84 (ix (x2 - 1))) < 7 then (some ((if nw (g 82 (ix (g 84 (ix x2)))) = nw (g 82 (ix (g 84 (ix (x2 - 1))))) then 20 else 15)) >>= fun (t6 : Int) => some (t6)) else none else none else none else none) : Option (Int)) >>= fun (r9 : Int) => some r9)
set_option synthInstance.maxHeartbeats 2000000 in
def LockQueue_waitOf_b (g : AG) (x2 : Int) (x3 : Int) (x4 : Int) : Option Int :=
  (if nw (g 8 2) ≤ nw x4 then some x2 else if 0 ≤ nw x4 ∧ nw x4 < 7 then if 0 ≤ nw (g 84 (ix x4)) ∧ nw (g 84 (ix x4)) < 7 then (some (x2 + ((mxI (g 81 (ix (g 84 (ix x4)))) x3) - (g 81 (ix (g 84 (ix x4)))))) >>= fun (t4 : Int) => (LockQueue_minutesOf_8_84 x4 g >>= fun (r6 : Int) => LockQueue_waitOf_b g t4 ((mxI (g 81 (ix (g 84 (ix x4)))) x3) + r6) (x4 + 1))) else none else none)
partial_fixpoint
def LockQueue_waitOf (g : AG) : Option Int :=
  LockQueue_waitOf_b g 0 0 0
def LockQueue_minutesOf_8_83 (x2 : Int) (g : AG) : Option Int :=
  (((if nw x2 ≤ 0 then some (15) else if 0 ≤ nw x2 ∧ nw x2 < 7 then if 0 ≤ nw (g 83 (ix x2)) ∧ nw (g 83 (ix x2)) < 7 then if 0 ≤ nw (x2 - 1) ∧ nw (x2 - 1) < 7 then if 0 ≤ nw (g 83 (ix (x2 - 1))) ∧ nw (g 83 (ix (x2 - 1))) < 7 then (some ((if nw (g 82 (ix (g 83 (ix x2)))) = nw (g 82 (ix (g 83 (ix (x2 - 1))))) then 20 else 15)) >>= fun (t6 : Int) => some (t6)) else none else none else none else none) : Option (Int)) >>= fun (r9 : Int) => some r9)
set_option synthInstance.maxHeartbeats 2000000 in
def LockQueue_putNext_b (rec : Int → Int → Int → Int → AG → Option (Int × AG)) (x1 : Int) (x2 : Int) (x3 : Int) (x4 : Int) (x5 : Int) (g : AG) : Option (Int × AG) :=
  (if nw (g 8 2) ≤ nw x5 then some (0, g) else if 0 ≤ nw x5 ∧ nw x5 < 7 then (((if nw (andI (shrI x2 x5) 1) = 0 then (if nw (g 8 4) ≤ nw ((x4 + (mxI (g 81 (ix x5)) x3)) - (g 81 (ix x5))) then some g else if 0 ≤ nw x1 ∧ nw x1 < 7 then (some (up g 83 (ix x1) x5) >>= fun (g6 : AG) => (LockQueue_minutesOf_8_83 x1 g6 >>= fun (r8 : Int) => (rec (x1 + 1) (orI x2 (shlI 1 x5)) ((mxI (g 81 (ix x5)) x3) + r8) ((x4 + (mxI (g 81 (ix x5)) x3)) - (g 81 (ix x5))) g6 >>= fun (r10 : Int × AG) => some r10.2))) else none) else some g) : Option (AG)) >>= fun (r12 : AG) => LockQueue_putNext_b rec x1 x2 x3 x4 (x5 + 1) r12) else none)
partial_fixpoint
def LockQueue_putNext_s (rec : Int → Int → Int → Int → AG → Option (Int × AG)) (x1 : Int) (x2 : Int) (x3 : Int) (x4 : Int) (g : AG) : Option (Int × AG) :=
  (if nw x1 < nw (g 8 2) then LockQueue_putNext_b rec x1 x2 x3 x4 0 g else (some (up g 8 4 x4) >>= fun (g2 : AG) => if 0 ≤ 0 ∧ 0 ≤ 0 ∧ 0 ≤ nw (g2 8 2) ∧ 0 + nw (g2 8 2) ≤ 7 ∧ 0 + nw (g2 8 2) ≤ 7 then (some (copyG g2 83 (ix 0) 84 (ix 0) (ix (g2 8 2))) >>= fun (g5 : AG) => some (0, g5)) else none))
def LockQueue_putNext : Nat → Int → Int → Int → Int → AG → Option (Int × AG)
  | 0 => fun _ _ _ _ _ => none
  | n + 1 => fun x1 x2 x3 x4 g => LockQueue_putNext_s (LockQueue_putNext n) x1 x2 x3 x4 g
set_option synthInstance.maxHeartbeats 2000000 in
def LockQueue_findBest_b (x1 : Int) (g : AG) : Option (Int × AG) :=
  (if nw (g 8 2) ≤ nw x1 then (LockQueue_waitOf g >>= fun (r2 : Int) => (some (up g 8 3 r2) >>= fun (g4 : AG) => (some (up g4 8 4 (g4 8 3)) >>= fun (g6 : AG) => (LockQueue_putNext 9 0 0 0 0 g6 >>= fun (r8 : Int × AG) => some (0, r8.2))))) else if 0 ≤ nw x1 ∧ nw x1 < 7 then (some (up g 84 (ix x1) x1) >>= fun (g11 : AG) => LockQueue_findBest_b (x1 + 1) g11) else none)
partial_fixpoint
def LockQueue_findBest (g : AG) : Option (Int × AG) :=
  LockQueue_findBest_b 0 g
set_option synthInstance.maxHeartbeats 2000000 in
def LockQueue_add_b (x1 : Int) (x2 : Int) (g : AG) : Option (Int × AG) :=
  if 0 ≤ nw (g 8 2) ∧ nw (g 8 2) < 7 then (some (up g 81 (ix (g 8 2)) x1) >>= fun (g2 : AG) => if 0 ≤ nw (g2 8 2) ∧ nw (g2 8 2) < 7 then (some (up g2 82 (ix (g2 8 2)) x2) >>= fun (g5 : AG) => (some (up g5 8 2 ((g5 8 2) + 1)) >>= fun (g7 : AG) => (LockQueue_findBest g7 >>= fun (r9 : Int × AG) => some ((r9.2 8 2), r9.2)))) else none) else none
partial_fixpoint
def LockQueue_add (x1 : Int) (x2 : Int) (g : AG) : Option (Int × AG) :=
  (if 7 ≤ nw (g 8 2) then some ((-1), g) else (if nw (g 8 2) ≤ 0 then LockQueue_add_b x1 x2 g else if 0 ≤ nw ((g 8 2) - 1) ∧ nw ((g 8 2) - 1) < 7 then (if nw (g 81 (ix ((g 8 2) - 1))) ≤ nw x1 then LockQueue_add_b x1 x2 g else some ((-1), g)) else none))
def LockQueue_clear (g : AG) : Option (Int × AG) :=
  (some (up g 8 2 0) >>= fun (g1 : AG) => (some (up g1 8 3 0) >>= fun (g3 : AG) => (some (up g3 8 4 0) >>= fun (g5 : AG) => some (0, g5))))
def X_queue (x1 : Int) (x2 : Int) (g : AG) : Option (Int × AG) :=
  (if nw x2 = (-1) then (LockQueue_clear g >>= fun (r6 : Int × AG) => some (0, r6.2)) else (if nw (X_within x2 0 1) = 0 then some ((-1), g) else (if nw (X_within x1 0 9999) = 0 then some ((-1), g) else (LockQueue_add x1 x2 g >>= fun (r4 : Int × AG) => some (r4.1, r4.2)))))
set_option synthInstance.maxHeartbeats 2000000 in
def LockQueue_lockfulsAsCome_b (g : AG) (x1 : Int) (x2 : Int) : Option Int :=
  (if nw (g 8 2) ≤ nw x2 then some x1 else if 0 ≤ nw x2 ∧ nw x2 < 7 then if 0 ≤ nw (x2 - 1) ∧ nw (x2 - 1) < 7 then (some ((if nw (g 82 (ix x2)) = nw (g 82 (ix (x2 - 1))) then 0 else 1)) >>= fun (t4 : Int) => LockQueue_lockfulsAsCome_b g (x1 - t4) (x2 + 1)) else none else none)
partial_fixpoint
def LockQueue_lockfulsAsCome (g : AG) : Option Int :=
  LockQueue_lockfulsAsCome_b g (g 8 2) 1
set_option synthInstance.maxHeartbeats 2000000 in
def LockQueue_lockfulsAtBest_b (g : AG) (x1 : Int) (x2 : Int) : Option Int :=
  (if nw (g 8 2) ≤ nw x2 then some x1 else if 0 ≤ nw x2 ∧ nw x2 < 7 then if 0 ≤ nw (g 84 (ix x2)) ∧ nw (g 84 (ix x2)) < 7 then if 0 ≤ nw (x2 - 1) ∧ nw (x2 - 1) < 7 then if 0 ≤ nw (g 84 (ix (x2 - 1))) ∧ nw (g 84 (ix (x2 - 1))) < 7 then (some ((if nw (g 82 (ix (g 84 (ix x2)))) = nw (g 82 (ix (g 84 (ix (x2 - 1))))) then 0 else 1)) >>= fun (t6 : Int) => LockQueue_lockfulsAtBest_b g (x1 - t6) (x2 + 1)) else none else none else none else none)
partial_fixpoint
def LockQueue_lockfulsAtBest (g : AG) : Option Int :=
  LockQueue_lockfulsAtBest_b g (g 8 2) 1
def LockQueue_atBest (x1 : Int) (g : AG) : Option Int :=
  (((if nw (X_within (x1 - 10) 0 ((g 8 2) - 1)) = 0 then some ((-1)) else if 0 ≤ nw (x1 - 10) ∧ nw (x1 - 10) < 7 then some ((g 84 (ix (x1 - 10)))) else none) : Option (Int)) >>= fun (r3 : Int) => some r3)
def X_lock (x1 : Int) (g : AG) : Option Int :=
  (if nw x1 = 0 then some (g 8 3) else (if nw x1 = 1 then some (g 8 4) else (if nw x1 = 2 then (LockQueue_lockfulsAsCome g >>= fun (r4 : Int) => some r4) else (if nw x1 = 3 then (LockQueue_lockfulsAtBest g >>= fun (r7 : Int) => some r7) else (LockQueue_atBest x1 g >>= fun (r9 : Int) => some r9)))))
def X_isWeek (x0 : Int) : Int :=
  (X_within x0 0 9)
theorem X_isWeek_01 {x0 : Int} : (X_isWeek x0) = 0 ∨ (X_isWeek x0) = 1 := by
  unfold X_isWeek
  (repeat' split) <;> first | exact Or.inl rfl | exact Or.inr rfl | exact X_within_01
set_option synthInstance.maxHeartbeats 2000000 in
def Bookings_putInOrder_b (tag : Nat) (x1 : Int) (x2 : Int) (x3 : Int) (g : AG) : Option (Int × AG) :=
  (if tag = 1 then (if 10 ≤ nw x2 then some (0, g) else Bookings_putInOrder_b 2 x1 x2 0 g) else (if tag = 2 then (if nw (g 9 4) ≤ nw x3 then Bookings_putInOrder_b 1 x1 (x2 + 1) x3 g else if 0 ≤ nw x3 ∧ nw x3 < 8 then (((if nw (g 87 (ix x3)) = nw x2 then if 0 ≤ nw x1 ∧ nw x1 < 8 then (some (up g 89 (ix x1) x3) >>= fun (g5 : AG) => some ((x1 + 1), g5)) else none else some (x1, g)) : Option (Int × AG)) >>= fun (r7 : Int × AG) => Bookings_putInOrder_b 2 r7.1 x2 (x3 + 1) r7.2) else none) else none))
partial_fixpoint
def Bookings_putInOrder (g : AG) : Option (Int × AG) :=
  Bookings_putInOrder_b 1 0 0 0 g
def Bookings_add (x1 : Int) (x2 : Int) (x3 : Int) (x4 : Int) (g : AG) : Option (Int × AG) :=
  (if nw (g 9 4) < 8 then if 0 ≤ nw (g 9 4) ∧ nw (g 9 4) < 8 then (some (up g 85 (ix (g 9 4)) x1) >>= fun (g3 : AG) => if 0 ≤ nw (g3 9 4) ∧ nw (g3 9 4) < 8 then (some (up g3 86 (ix (g3 9 4)) x2) >>= fun (g6 : AG) => if 0 ≤ nw (g6 9 4) ∧ nw (g6 9 4) < 8 then (some (up g6 87 (ix (g6 9 4)) x3) >>= fun (g9 : AG) => if 0 ≤ nw (g9 9 4) ∧ nw (g9 9 4) < 8 then (some (up g9 88 (ix (g9 9 4)) x4) >>= fun (g12 : AG) => (some (up g12 9 4 ((g12 9 4) + 1)) >>= fun (g14 : AG) => (some (up g14 9 11 0) >>= fun (g16 : AG) => (Bookings_putInOrder g16 >>= fun (r18 : Int × AG) => some (((r18.2 9 4) - 1), r18.2))))) else none) else none) else none) else none else some ((-1), g))
def X_booking (x1 : Int) (x2 : Int) (x3 : Int) (x4 : Int) (g : AG) : Option (Int × AG) :=
  (if nw (X_isPoint x1) = 0 then some ((-1), g) else (if nw (X_isPoint x2) = 0 then some ((-1), g) else (if nw (X_isWeek x3) = 0 then some ((-1), g) else (if nw (X_isBerths x4) = 0 then some ((-1), g) else (Bookings_add x1 x2 x3 x4 g >>= fun (r5 : Int × AG) => some (r5.1, r5.2))))))
def Bookings_hire (x1 : Int) (x2 : Int) (x3 : Int) (g : AG) : Option (Int × AG) :=
  if 0 ≤ nw x1 ∧ nw x1 < 4 then (((if nw (g 90 (ix x1)) = nw x2 then (if nw (g 91 (ix x1)) = nw x3 then some g else (some (up g 9 11 0) >>= fun (g6 : AG) => some g6)) else (some (up g 9 11 0) >>= fun (g3 : AG) => some g3)) : Option (AG)) >>= fun (r8 : AG) => (some (up r8 90 (ix x1) x2) >>= fun (g10 : AG) => (some (up g10 91 (ix x1) x3) >>= fun (g12 : AG) => some (0, g12)))) else none
set_option synthInstance.maxHeartbeats 2000000 in
def X_hireFirst_b (x1 : Int) (x2 : Int) (g : AG) : Option (Int × AG) :=
  (if nw x1 ≤ nw x2 then some (0, g) else if 0 ≤ nw x2 ∧ nw x2 < 10 then (Bookings_hire x2 (g 48 (ix x2)) (g 50 (ix x2)) g >>= fun (r3 : Int × AG) => X_hireFirst_b x1 (x2 + 1) r3.2) else none)
partial_fixpoint
def X_hireFirst (x1 : Int) (g : AG) : Option (Int × AG) :=
  X_hireFirst_b x1 0 g
set_option synthInstance.maxHeartbeats 2000000 in
def Bookings_canCome_b (x2 : Int) (g : AG) (tag : Nat) (x3 : Int) : Option Int :=
  (if tag = 1 then (if nw (g 9 4) ≤ nw x3 then some 0 else if 0 ≤ nw x3 ∧ nw x3 < 8 then if 0 ≤ nw x2 ∧ nw x2 < 8 then (if nw (g 87 (ix x2)) ≤ nw (g 87 (ix x3)) then Bookings_canCome_b x2 g 2 x3 else (if nw (g 86 (ix x3)) = nw (g 85 (ix x2)) then some 1 else Bookings_canCome_b x2 g 2 x3)) else none else none) else (if tag = 2 then Bookings_canCome_b x2 g 1 (x3 + 1) else none))
partial_fixpoint
def Bookings_canCome (x1 : Int) (x2 : Int) (g : AG) : Option Int :=
  if 0 ≤ nw x1 ∧ nw x1 < 4 then if 0 ≤ nw x2 ∧ nw x2 < 8 then (if nw (g 91 (ix x1)) = nw (g 85 (ix x2)) then some 1 else Bookings_canCome_b x2 g 1 0) else none else none
set_option synthInstance.maxHeartbeats 2000000 in
def Bookings_canEverBeGiven_b (x1 : Int) (g : AG) (tag : Nat) (x2 : Int) : Option Int :=
  (if tag = 1 then (if nw (g 9 10) ≤ nw x2 then some 0 else if 0 ≤ nw x2 ∧ nw x2 < 4 then if 0 ≤ nw x1 ∧ nw x1 < 8 then (if nw (g 90 (ix x2)) < nw (g 88 (ix x1)) then Bookings_canEverBeGiven_b x1 g 2 x2 else (Bookings_canCome x2 x1 g >>= fun (r5 : Int) => (if nw r5 = 0 then Bookings_canEverBeGiven_b x1 g 2 x2 else some 1))) else none else none) else (if tag = 2 then Bookings_canEverBeGiven_b x1 g 1 (x2 + 1) else none))
partial_fixpoint
def Bookings_canEverBeGiven (x1 : Int) (g : AG) : Option Int :=
  Bookings_canEverBeGiven_b x1 g 1 0
set_option synthInstance.maxHeartbeats 2000000 in
def Bookings_compare_b (x1 : Int) (g : AG) (x2 : Int) (x3 : Int) : Option (Int × AG) :=
  (if nw (g 9 10) ≤ nw x3 then (((if nw (g 9 15) < nw x1 then (some (up g 9 15 x1) >>= fun (g3 : AG) => (some (up g3 9 16 x2) >>= fun (g5 : AG) => if 0 ≤ 0 ∧ 0 ≤ 0 ∧ 0 ≤ nw (g5 9 4) ∧ 0 + nw (g5 9 4) ≤ 8 ∧ 0 + nw (g5 9 4) ≤ 8 then (some (copyG g5 95 (ix 0) 96 (ix 0) (ix (g5 9 4))) >>= fun (g8 : AG) => some g8) else none)) else (if nw x1 = nw (g 9 15) then (if nw x2 ≤ nw (g 9 16) then some g else (some (up g 9 15 x1) >>= fun (g12 : AG) => (some (up g12 9 16 x2) >>= fun (g14 : AG) => if 0 ≤ 0 ∧ 0 ≤ 0 ∧ 0 ≤ nw (g14 9 4) ∧ 0 + nw (g14 9 4) ≤ 8 ∧ 0 + nw (g14 9 4) ≤ 8 then (some (copyG g14 95 (ix 0) 96 (ix 0) (ix (g14 9 4))) >>= fun (g17 : AG) => some g17) else none))) else some g)) : Option (AG)) >>= fun (r19 : AG) => some (0, r19)) else if 0 ≤ nw x3 ∧ nw x3 < 4 then (some ((if nw (g 92 (ix x3)) = nw (g 91 (ix x3)) then 1 else 0)) >>= fun (t22 : Int) => Bookings_compare_b x1 g (x2 + t22) (x3 + 1)) else none)
partial_fixpoint
def Bookings_compare (x1 : Int) (g : AG) : Option (Int × AG) :=
  Bookings_compare_b x1 g 0 0
def Bookings_canHave (x1 : Int) (x2 : Int) (g : AG) : Option Int :=
  if 0 ≤ nw x1 ∧ nw x1 < 4 then if 0 ≤ nw x2 ∧ nw x2 < 8 then (((if nw (g 90 (ix x1)) < nw (g 88 (ix x2)) then some (0) else (if nw (g 92 (ix x1)) = nw (g 85 (ix x2)) then (some ((if nw (g 87 (ix x2)) ≤ nw (g 93 (ix x1)) then 0 else 1)) >>= fun (t5 : Int) => some (t5)) else some (0))) : Option (Int)) >>= fun (r8 : Int) => if r8 = 0 ∨ r8 = 1 then some r8 else none) else none else none
set_option synthInstance.maxHeartbeats 2000000 in
def Bookings_giveNext_b (rec : Int → Int → AG → Option (Int × AG)) (x1 : Int) (x2 : Int) (tag : Nat) (x4 : Int) (x5 : Int) (g : AG) : Option (Int × AG) :=
  (if tag = 1 then (if nw x1 < nw (g 9 4) then if 0 ≤ nw x1 ∧ nw x1 < 8 then Bookings_giveNext_b rec x1 x2 2 (g 89 (ix x1)) 0 g else none else (Bookings_compare x2 g >>= fun (r3 : Int × AG) => some (0, r3.2))) else (if tag = 2 then (if nw (g 9 10) ≤ nw x5 then if 0 ≤ nw x4 ∧ nw x4 < 8 then (some (up g 95 (ix x4) (-1)) >>= fun (g3 : AG) => (rec (x1 + 1) x2 g3 >>= fun (r5 : Int × AG) => some (0, r5.2))) else none else (Bookings_canHave x5 x4 g >>= fun (r7 : Int) => (((if nw r7 = 0 then some g else if 0 ≤ nw x5 ∧ nw x5 < 4 then if 0 ≤ nw x4 ∧ nw x4 < 8 then (some (up g 95 (ix x4) x5) >>= fun (g12 : AG) => (some (up g12 92 (ix x5) (g12 86 (ix x4))) >>= fun (g14 : AG) => (some (up g14 93 (ix x5) (g14 87 (ix x4))) >>= fun (g16 : AG) => (rec (x1 + 1) (x2 + 1) g16 >>= fun (r18 : Int × AG) => (some (up r18.2 92 (ix x5) (g 92 (ix x5))) >>= fun (g20 : AG) => (some (up g20 93 (ix x5) (g 93 (ix x5))) >>= fun (g22 : AG) => some g22)))))) else none else none) : Option (AG)) >>= fun (r24 : AG) => Bookings_giveNext_b rec x1 x2 2 x4 (x5 + 1) r24))) else none))
partial_fixpoint
def Bookings_giveNext_s (rec : Int → Int → AG → Option (Int × AG)) (x1 : Int) (x2 : Int) (g : AG) : Option (Int × AG) :=
  if 0 ≤ nw x1 ∧ nw x1 < 9 then (if nw (x2 + (g 94 (ix x1))) < nw (g 9 15) then some (0, g) else (if nw (x2 + (g 94 (ix x1))) = nw (g 9 15) then (if nw (g 9 16) < nw (g 9 10) then Bookings_giveNext_b rec x1 x2 1 0 0 g else some (0, g)) else Bookings_giveNext_b rec x1 x2 1 0 0 g)) else none
def Bookings_giveNext : Nat → Int → Int → AG → Option (Int × AG)
  | 0 => fun _ _ _ => none
  | n + 1 => fun x1 x2 g => Bookings_giveNext_s (Bookings_giveNext n) x1 x2 g
set_option synthInstance.maxHeartbeats 2000000 in
def Bookings_giveBest_b (tag : Nat) (x2 : Int) (g : AG) : Option (Int × AG) :=
  (if tag = 1 then (if nw (g 9 10) ≤ nw x2 then if 0 ≤ nw (g 9 4) ∧ nw (g 9 4) < 9 then (some (up g 94 (ix (g 9 4)) 0) >>= fun (g3 : AG) => Bookings_giveBest_b 2 ((g3 9 4) - 1) g3) else none else if 0 ≤ nw x2 ∧ nw x2 < 4 then (some (up g 92 (ix x2) (g 91 (ix x2))) >>= fun (g6 : AG) => (some (up g6 93 (ix x2) (-1)) >>= fun (g8 : AG) => Bookings_giveBest_b 1 (x2 + 1) g8)) else none) else (if tag = 2 then (if nw x2 < 0 then (Bookings_giveNext 10 0 0 g >>= fun (r2 : Int × AG) => some (0, r2.2)) else if 0 ≤ nw (x2 + 1) ∧ nw (x2 + 1) < 9 then if 0 ≤ nw x2 ∧ nw x2 < 8 then (Bookings_canEverBeGiven (g 89 (ix x2)) g >>= fun (r6 : Int) => (some ((if nw r6 = 0 then 0 else 1)) >>= fun (t8 : Int) => if 0 ≤ nw x2 ∧ nw x2 < 9 then (some (up g 94 (ix x2) ((g 94 (ix (x2 + 1))) + t8)) >>= fun (g11 : AG) => Bookings_giveBest_b 2 (x2 + (-1)) g11) else none)) else none else none) else none))
partial_fixpoint
def Bookings_giveBest (x1 : Int) (g : AG) : Option (Int × AG) :=
  (if nw x1 = nw (g 9 11) then some (0, g) else (some (up g 9 10 (mnI x1 4)) >>= fun (g2 : AG) => (some (up g2 9 11 x1) >>= fun (g4 : AG) => (some (up g4 9 15 (-1)) >>= fun (g6 : AG) => (some (up g6 9 16 (-1)) >>= fun (g8 : AG) => Bookings_giveBest_b 1 0 g8)))))
def X_given (x1 : Int) (x2 : Int) (g : AG) : Option (Int × AG) :=
  (if nw (X_within x1 1 4) = 0 then some ((-1), g) else (if nw x1 ≤ nw (g 6 7) then (X_hireFirst x1 g >>= fun (r3 : Int × AG) => (Bookings_giveBest x1 r3.2 >>= fun (r5 : Int × AG) => (if nw x2 = 0 then some ((r5.2 9 15), r5.2) else (if nw x2 = 1 then some ((r5.2 9 16), r5.2) else (if nw x2 < 10 then some ((-1), r5.2) else (if nw (x2 - 10) < nw (r5.2 9 4) then if 0 ≤ nw (x2 - 10) ∧ nw (x2 - 10) < 8 then some ((r5.2 96 (ix (x2 - 10))), r5.2) else none else some ((-1), r5.2))))))) else some ((-1), g)))
def X_more (x1 : Int) (x2 : Int) (x3 : Int) (g : AG) : Option (Int × AG) :=
  (if nw (X_within x1 1 3) = 0 then some ((-1), g) else (if nw x1 ≤ nw (g 6 7) then (if nw (X_isBerths x2) = 0 then some ((-1), g) else (if nw (X_isPoint x3) = 0 then some ((-1), g) else (X_hireFirst x1 g >>= fun (r5 : Int × AG) => (Bookings_hire x1 x2 x3 r5.2 >>= fun (r7 : Int × AG) => (Bookings_giveBest x1 r7.2 >>= fun (r9 : Int × AG) => (Bookings_giveBest (x1 + 1) r9.2 >>= fun (r11 : Int × AG) => some (((r11.2 9 15) - (r9.2 9 15)), r11.2))))))) else some ((-1), g)))
set_option synthInstance.maxHeartbeats 2000000 in
def Yard_othersInDock_b (x1 : Int) (g : AG) (x2 : Int) (x3 : Int) : Option Int :=
  (if 10 ≤ nw x3 then some x2 else (((if nw x3 = nw x1 then some (0) else if 0 ≤ nw x3 ∧ nw x3 < 10 then (some ((if nw (g 98 (ix x3)) ≤ 0 then 0 else 1)) >>= fun (t4 : Int) => some (t4)) else none) : Option (Int)) >>= fun (r7 : Int) => Yard_othersInDock_b x1 g (x2 + r7) (x3 + 1)))
partial_fixpoint
def Yard_othersInDock (x1 : Int) (g : AG) : Option Int :=
  Yard_othersInDock_b x1 g 0 0
def Yard_tellDock (x1 : Int) (x2 : Int) (x3 : Int) (g : AG) : Option (Int × AG) :=
  (Yard_othersInDock x1 g >>= fun (r1 : Int) => (if nw r1 < 7 then if 0 ≤ nw x1 ∧ nw x1 < 10 then (some (up g 97 (ix x1) x2) >>= fun (g5 : AG) => (some (up g5 98 (ix x1) x3) >>= fun (g7 : AG) => some (1, g7))) else none else some (0, g)))
def X_gas (x1 : Int) (x2 : Int) (x3 : Int) (g : AG) : Option (Int × AG) :=
  (if nw (X_isBoat x1 g) = 0 then some (0, g) else (if nw (X_within x2 0 999) = 0 then some (0, g) else (if nw (X_within x3 0 60) = 0 then some (0, g) else (Yard_tellDock x1 x2 x3 g >>= fun (r4 : Int × AG) => if r4.1 = 0 ∨ r4.1 = 1 then some (r4.1, r4.2) else none))))
def Yard_isBetter (x1 : Int) (x2 : Int) (x3 : Int) (g : AG) : Option Int :=
  if 0 ≤ nw x1 ∧ nw x1 < 128 then (((if nw (g 102 (ix x1)) = (-1) then some (1) else (if nw x2 < nw (g 100 (ix x1)) then some (1) else (if nw x2 = nw (g 100 (ix x1)) then (some ((if nw (g 101 (ix x1)) ≤ nw x3 then 0 else 1)) >>= fun (t5 : Int) => some (t5)) else some (0)))) : Option (Int)) >>= fun (r8 : Int) => if r8 = 0 ∨ r8 = 1 then some r8 else none) else none
set_option synthInstance.maxHeartbeats 2000000 in
def Yard_chooseNext_b (x1 : Int) (tag : Nat) (x2 : Int) (x3 : Int) (g : AG) : Option (Int × AG) :=
  (if tag = 1 then (if nw (g 10 2) ≤ nw x3 then if 0 ≤ nw x1 ∧ nw x1 < 128 then (some (up g 102 (ix x1) (-1)) >>= fun (g3 : AG) => Yard_chooseNext_b x1 2 x2 0 g3) else none else (((if nw (andI (shrI x1 x3) 1) = 0 then some (0, g) else if 0 ≤ nw x3 ∧ nw x3 < 7 then if 0 ≤ nw (g 99 (ix x3)) ∧ nw (g 99 (ix x3)) < 10 then some ((g 98 (ix (g 99 (ix x3)))), g) else none else none) : Option (Int × AG)) >>= fun (r8 : Int × AG) => Yard_chooseNext_b x1 1 (x2 + r8.1) (x3 + 1) r8.2)) else (if tag = 2 then (if nw (g 10 2) ≤ nw x3 then some (0, g) else (((if nw (andI (shrI x1 x3) 1) = 0 then if 0 ≤ nw x3 ∧ nw x3 < 7 then if 0 ≤ nw (g 99 (ix x3)) ∧ nw (g 99 (ix x3)) < 10 then if 0 ≤ nw (orI x1 (shlI 1 x3)) ∧ nw (orI x1 (shlI 1 x3)) < 128 then (some ((if nw (x2 + (g 98 (ix (g 99 (ix x3))))) ≤ nw (g 97 (ix (g 99 (ix x3)))) then 0 else 1)) >>= fun (t6 : Int) => (some ((g 101 (ix (orI x1 (shlI 1 x3)))) + (x2 + (g 98 (ix (g 99 (ix x3)))))) >>= fun (t8 : Int) => (Yard_isBetter x1 ((g 100 (ix (orI x1 (shlI 1 x3)))) + t6) t8 g >>= fun (r10 : Int) => (if nw r10 = 0 then some g else if 0 ≤ nw x1 ∧ nw x1 < 128 then (some (up g 100 (ix x1) ((g 100 (ix (orI x1 (shlI 1 x3)))) + t6)) >>= fun (g14 : AG) => (some (up g14 101 (ix x1) t8) >>= fun (g16 : AG) => (some (up g16 102 (ix x1) x3) >>= fun (g18 : AG) => some g18))) else none)))) else none else none else none else some g) : Option (AG)) >>= fun (r21 : AG) => Yard_chooseNext_b x1 2 x2 (x3 + 1) r21)) else none))
partial_fixpoint
def Yard_chooseNext (x1 : Int) (g : AG) : Option (Int × AG) :=
  Yard_chooseNext_b x1 1 0 0 g
set_option synthInstance.maxHeartbeats 2000000 in
def Yard_orderDock_b (tag : Nat) (x1 : Int) (x2 : Int) (g : AG) : Option (Int × AG) :=
  (if tag = 1 then (if 10 ≤ nw x1 then if 0 ≤ nw ((shlI 1 (g 10 2)) - 1) ∧ nw ((shlI 1 (g 10 2)) - 1) < 128 then (some (up g 100 (ix ((shlI 1 (g 10 2)) - 1)) 0) >>= fun (g3 : AG) => (some (up g3 101 (ix ((shlI 1 (g 10 2)) - 1)) 0) >>= fun (g5 : AG) => Yard_orderDock_b 2 x1 (((shlI 1 (g 10 2)) - 1) - 1) g5)) else none else if 0 ≤ nw x1 ∧ nw x1 < 10 then (((if nw (g 98 (ix x1)) ≤ 0 then some g else (if 7 ≤ nw (g 10 2) then some g else if 0 ≤ nw (g 10 2) ∧ nw (g 10 2) < 7 then (some (up g 99 (ix (g 10 2)) x1) >>= fun (g11 : AG) => (some (up g11 10 2 ((g11 10 2) + 1)) >>= fun (g13 : AG) => some g13)) else none)) : Option (AG)) >>= fun (r15 : AG) => Yard_orderDock_b 1 (x1 + 1) x2 r15) else none) else (if tag = 2 then (if nw x2 < 0 then some (0, g) else (Yard_chooseNext x2 g >>= fun (r2 : Int × AG) => Yard_orderDock_b 2 x1 (x2 + (-1)) r2.2)) else none))
partial_fixpoint
def Yard_orderDock (g : AG) : Option (Int × AG) :=
  (some (up g 10 2 0) >>= fun (g1 : AG) => Yard_orderDock_b 1 0 0 g1)
set_option synthInstance.maxHeartbeats 2000000 in
def Yard_dockedAt_b (x1 : Int) (g : AG) (x2 : Int) (x3 : Int) : Option Int :=
  (if nw (x1 - 10) ≤ nw x3 then if 0 ≤ nw x2 ∧ nw x2 < 128 then if 0 ≤ nw (g 102 (ix x2)) ∧ nw (g 102 (ix x2)) < 7 then some (g 99 (ix (g 102 (ix x2)))) else none else none else if 0 ≤ nw x2 ∧ nw x2 < 128 then Yard_dockedAt_b x1 g (orI x2 (shlI 1 (g 102 (ix x2)))) (x3 + 1) else none)
partial_fixpoint
def Yard_dockedAt (x1 : Int) (g : AG) : Option Int :=
  (if nw (X_within (x1 - 10) 0 ((g 10 2) - 1)) = 0 then some (-1) else Yard_dockedAt_b x1 g 0 0)
def X_dock (x1 : Int) (g : AG) : Option (Int × AG) :=
  (Yard_orderDock g >>= fun (r1 : Int × AG) => (if nw x1 = 0 then some ((r1.2 100 (ix 0)), r1.2) else (if nw x1 = 1 then some ((r1.2 101 (ix 0)), r1.2) else (if nw x1 = 2 then some ((r1.2 10 2), r1.2) else (Yard_dockedAt x1 r1.2 >>= fun (r6 : Int) => some (r6, r1.2))))))
def Yard_addJob (x1 : Int) (g : AG) : Option (Int × AG) :=
  (if nw (g 10 7) < 8 then if 0 ≤ nw (g 10 7) ∧ nw (g 10 7) < 8 then (some (up g 103 (ix (g 10 7)) x1) >>= fun (g3 : AG) => (some (up g3 10 7 ((g3 10 7) + 1)) >>= fun (g5 : AG) => some ((g5 10 7), g5))) else none else some ((-1), g))
def X_job (x1 : Int) (g : AG) : Option (Int × AG) :=
  (if nw x1 = 0 then (some (up g 10 7 0) >>= fun (g5 : AG) => some (0, g5)) else (if nw (X_within x1 1 300) = 0 then some ((-1), g) else (Yard_addJob x1 g >>= fun (r3 : Int × AG) => some (r3.1, r3.2))))
set_option synthInstance.maxHeartbeats 2000000 in
def Yard_workInOrder_b (x1 : Int) (tag : Nat) (x2 : Int) (x3 : Int) (x4 : Int) (g : AG) : Option (Int × AG) :=
  (if tag = 1 then (if nw (g 10 7) ≤ nw x2 then some (0, g) else Yard_workInOrder_b x1 2 x2 0 1 g) else (if tag = 2 then (if nw x1 ≤ nw x4 then if 0 ≤ nw x3 ∧ nw x3 < 3 then if 0 ≤ nw x2 ∧ nw x2 < 8 then (some (up g 104 (ix x3) ((g 104 (ix x3)) + (g 103 (ix x2)))) >>= fun (g4 : AG) => (some (up g4 10 13 (mxI (g4 10 13) (g4 104 (ix x3)))) >>= fun (g6 : AG) => (some ((if nw (g6 104 (ix x3)) ≤ 900 then 0 else 1)) >>= fun (t8 : Int) => (some (up g6 10 14 ((g6 10 14) + t8)) >>= fun (g10 : AG) => Yard_workInOrder_b x1 1 (x2 + 1) x3 x4 g10)))) else none else none else if 0 ≤ nw x4 ∧ nw x4 < 3 then if 0 ≤ nw x3 ∧ nw x3 < 3 then (some ((if nw (g 104 (ix x3)) ≤ nw (g 104 (ix x4)) then x3 else x4)) >>= fun (t15 : Int) => Yard_workInOrder_b x1 2 x2 t15 (x4 + 1) g) else none else none) else none))
partial_fixpoint
def Yard_workInOrder (x1 : Int) (g : AG) : Option (Int × AG) :=
  (some (fillG g 104 3 600) >>= fun (g1 : AG) => (some (up g1 10 13 600) >>= fun (g3 : AG) => (some (up g3 10 14 0) >>= fun (g5 : AG) => Yard_workInOrder_b x1 1 0 0 0 g5)))
set_option synthInstance.maxHeartbeats 2000000 in
def Yard_shareNext_b (rec : Int → Int → Int → AG → Option (Int × AG)) (x1 : Int) (x2 : Int) (x3 : Int) (x4 : Int) (g : AG) : Option (Int × AG) :=
  (if nw x2 ≤ nw x4 then some (0, g) else if 0 ≤ nw x1 ∧ nw x1 < 8 then (some (up g 105 (ix x1) x4) >>= fun (g3 : AG) => if 0 ≤ nw x4 ∧ nw x4 < 3 then (some (up g3 104 (ix x4) ((g3 104 (ix x4)) + (g3 103 (ix x1)))) >>= fun (g6 : AG) => (rec (x1 + 1) x2 (mxI x3 (g6 104 (ix x4))) g6 >>= fun (r8 : Int × AG) => (some (up r8.2 104 (ix x4) ((r8.2 104 (ix x4)) - (r8.2 103 (ix x1)))) >>= fun (g10 : AG) => Yard_shareNext_b rec x1 x2 x3 (x4 + 1) g10))) else none) else none)
partial_fixpoint
def Yard_shareNext_s (rec : Int → Int → Int → AG → Option (Int × AG)) (x1 : Int) (x2 : Int) (x3 : Int) (g : AG) : Option (Int × AG) :=
  (if nw x3 < nw (g 10 12) then (if nw x1 < nw (g 10 7) then Yard_shareNext_b rec x1 x2 x3 0 g else (some (up g 10 12 x3) >>= fun (g3 : AG) => if 0 ≤ 0 ∧ 0 ≤ 0 ∧ 0 ≤ nw (g3 10 7) ∧ 0 + nw (g3 10 7) ≤ 8 ∧ 0 + nw (g3 10 7) ≤ 8 then (some (copyG g3 105 (ix 0) 106 (ix 0) (ix (g3 10 7))) >>= fun (g6 : AG) => some (0, g6)) else none)) else some (0, g))
def Yard_shareNext : Nat → Int → Int → Int → AG → Option (Int × AG)
  | 0 => fun _ _ _ _ => none
  | n + 1 => fun x1 x2 x3 g => Yard_shareNext_s (Yard_shareNext n) x1 x2 x3 g
def Yard_shareBest (x1 : Int) (g : AG) : Option (Int × AG) :=
  (some (fillG g 104 3 600) >>= fun (g1 : AG) => (some (up g1 10 12 3001) >>= fun (g3 : AG) => (Yard_shareNext 10 0 x1 600 g3 >>= fun (r5 : Int × AG) => some (0, r5.2))))
set_option synthInstance.maxHeartbeats 2000000 in
def X_turned_b (tag : Nat) (x1 : Int) (x2 : Int) (g : AG) : Option (Int × AG) :=
  (if tag = 1 then (Yard_workInOrder x1 g >>= fun (r1 : Int × AG) => (some ((if nw x2 = 0 then (r1.2 10 13) else (r1.2 10 14))) >>= fun (t3 : Int) => some (t3, r1.2))) else (if tag = 2 then (Yard_shareBest x1 g >>= fun (r1 : Int × AG) => (((if nw x2 = 1 then some ((r1.2 10 12), r1.2) else if 0 ≤ nw (x2 - 10) ∧ nw (x2 - 10) < 8 then some ((r1.2 106 (ix (x2 - 10))), r1.2) else none) : Option (Int × AG)) >>= fun (r5 : Int × AG) => some (r5.1, r5.2))) else none))
partial_fixpoint
def X_turned (x1 : Int) (x2 : Int) (g : AG) : Option (Int × AG) :=
  (if nw (X_within x1 1 3) = 0 then some ((-1), g) else (if nw x2 = 0 then X_turned_b 1 x1 x2 g else (if nw x2 = 2 then X_turned_b 1 x1 x2 g else (if nw x2 = 1 then X_turned_b 2 x1 x2 g else (if nw x2 < 10 then some ((-1), g) else (if nw (x2 - 10) < nw (g 10 7) then X_turned_b 2 x1 x2 g else some ((-1), g)))))))
def X_weight (x1 : Int) (x2 : Int) (g : AG) : Option (Int × AG) :=
  (if nw (X_isPoint x1) = 0 then some (0, g) else (if nw (X_within x2 0 99) = 0 then some (0, g) else if 0 ≤ nw x1 ∧ nw x1 < 16 then (some (up g 107 (ix x1) x2) >>= fun (g4 : AG) => some (1, g4)) else none))
set_option synthInstance.maxHeartbeats 2000000 in
def Vans_measure_b (x1 : Int) (g : AG) : Option (Int × AG) :=
  (if 15 ≤ nw x1 then some (0, g) else if 0 ≤ nw x1 ∧ nw x1 < 16 then if 0 ≤ nw x1 ∧ nw x1 < 15 then if 0 ≤ nw (x1 + 1) ∧ nw (x1 + 1) < 16 then (some (up g 108 (ix (x1 + 1)) ((g 108 (ix x1)) + (g 15 (ix x1)))) >>= fun (g5 : AG) => Vans_measure_b (x1 + 1) g5) else none else none else none)
partial_fixpoint
def Vans_measure (g : AG) : Option (Int × AG) :=
  Vans_measure_b 0 g
def Vans_minutes (x1 : Int) (x2 : Int) (g : AG) : Option Int :=
  if 0 ≤ nw x1 ∧ nw x1 < 16 then if 0 ≤ nw x2 ∧ nw x2 < 16 then some (abI ((g 108 (ix x1)) - (g 108 (ix x2)))) else none else none
set_option synthInstance.maxHeartbeats 2000000 in
def Vans_worstFrom_b (x1 : Int) (g : AG) (x2 : Int) (x3 : Int) : Option Int :=
  (if 16 ≤ nw x3 then some x2 else if 0 ≤ nw x3 ∧ nw x3 < 16 then (((if nw (g 107 (ix x3)) ≤ 0 then some (x2) else (Vans_minutes x1 x3 g >>= fun (r4 : Int) => some ((mxI x2 r4)))) : Option (Int)) >>= fun (r6 : Int) => Vans_worstFrom_b x1 g r6 (x3 + 1)) else none)
partial_fixpoint
def Vans_worstFrom (x1 : Int) (g : AG) : Option Int :=
  Vans_worstFrom_b x1 g 0 0
set_option synthInstance.maxHeartbeats 2000000 in
def Vans_sumFrom_b (x1 : Int) (x2 : Int) (g : AG) (x3 : Int) (x4 : Int) : Option Int :=
  (if 16 ≤ nw x4 then some x3 else if 0 ≤ nw x4 ∧ nw x4 < 16 then (Vans_minutes x1 x4 g >>= fun (r3 : Int) => (Vans_minutes x2 x4 g >>= fun (r5 : Int) => Vans_sumFrom_b x1 x2 g (x3 + ((g 107 (ix x4)) * (mnI r3 r5))) (x4 + 1))) else none)
partial_fixpoint
def Vans_sumFrom (x1 : Int) (x2 : Int) (g : AG) : Option Int :=
  Vans_sumFrom_b x1 x2 g 0 0
set_option synthInstance.maxHeartbeats 2000000 in
def Vans_bestPoint_b (g : AG) (x1 : Int) (x2 : Int) : Option Int :=
  (if 16 ≤ nw x2 then some x1 else (Vans_sumFrom x2 x2 g >>= fun (r2 : Int) => (Vans_sumFrom x1 x1 g >>= fun (r4 : Int) => (some ((if nw r4 ≤ nw r2 then x1 else x2)) >>= fun (t6 : Int) => Vans_bestPoint_b g t6 (x2 + 1)))))
partial_fixpoint
def Vans_bestPoint (g : AG) : Option Int :=
  Vans_bestPoint_b g 0 1
def X_van (x1 : Int) (g : AG) : Option (Int × AG) :=
  (Vans_measure g >>= fun (r1 : Int × AG) => (if nw (X_within x1 0 2) = 0 then (if nw (X_isPoint (x1 - 100)) = 0 then (((if nw (X_isPoint (x1 - 200)) = 0 then some ((-1), r1.2) else (Vans_worstFrom (x1 - 200) r1.2 >>= fun (r6 : Int) => some (r6, r1.2))) : Option (Int × AG)) >>= fun (r8 : Int × AG) => some (r8.1, r8.2)) else (Vans_sumFrom (x1 - 100) (x1 - 100) r1.2 >>= fun (r10 : Int) => some (r10, r1.2))) else (Vans_bestPoint r1.2 >>= fun (r12 : Int) => (if nw x1 = 0 then some (r12, r1.2) else (((if nw x1 = 1 then (Vans_sumFrom r12 r12 r1.2 >>= fun (r18 : Int) => some (r18, r1.2)) else (Vans_worstFrom r12 r1.2 >>= fun (r16 : Int) => some (r16, r1.2))) : Option (Int × AG)) >>= fun (r20 : Int × AG) => some (r20.1, r20.2))))))
set_option synthInstance.maxHeartbeats 2000000 in
def Vans_findCouple_b (tag : Nat) (x1 : Int) (x2 : Int) (g : AG) : Option (Int × AG) :=
  (if tag = 1 then (if 16 ≤ nw x1 then some (0, g) else Vans_findCouple_b 2 x1 x1 g) else (if tag = 2 then (if 16 ≤ nw x2 then Vans_findCouple_b 1 (x1 + 1) x2 g else (Vans_sumFrom x1 x2 g >>= fun (r2 : Int) => (((if nw (g 11 4) ≤ nw r2 then some g else (some (up g 11 3 ((16 * x1) + x2)) >>= fun (g5 : AG) => (some (up g5 11 4 r2) >>= fun (g7 : AG) => some g7))) : Option (AG)) >>= fun (r9 : AG) => Vans_findCouple_b 2 x1 (x2 + 1) r9))) else none))
partial_fixpoint
def Vans_findCouple (g : AG) : Option (Int × AG) :=
  (some (up g 11 3 0) >>= fun (g1 : AG) => (Vans_sumFrom 0 0 g1 >>= fun (r3 : Int) => (some (up g1 11 4 r3) >>= fun (g5 : AG) => Vans_findCouple_b 1 0 0 g5)))
def X_vans (x1 : Int) (g : AG) : Option (Int × AG) :=
  (if nw (X_within x1 0 1) = 0 then some ((-1), g) else (Vans_measure g >>= fun (r2 : Int × AG) => (Vans_findCouple r2.2 >>= fun (r4 : Int × AG) => (some ((if nw x1 = 0 then (r4.2 11 3) else (r4.2 11 4))) >>= fun (t6 : Int) => some (t6, r4.2)))))
set_option synthInstance.maxHeartbeats 2000000 in
def Vans_addCall_b (x1 : Int) (x2 : Int) (x3 : Int) (g : AG) : Option (Int × AG) :=
  if 0 ≤ nw (g 11 5) ∧ nw (g 11 5) < 12 then (some (up g 109 (ix (g 11 5)) x1) >>= fun (g2 : AG) => if 0 ≤ nw (g2 11 5) ∧ nw (g2 11 5) < 12 then (some (up g2 110 (ix (g2 11 5)) x2) >>= fun (g5 : AG) => if 0 ≤ nw (g5 11 5) ∧ nw (g5 11 5) < 12 then (some (up g5 111 (ix (g5 11 5)) x3) >>= fun (g8 : AG) => (some (up g8 11 5 ((g8 11 5) + 1)) >>= fun (g10 : AG) => some ((g10 11 5), g10))) else none) else none) else none
partial_fixpoint
def Vans_addCall (x1 : Int) (x2 : Int) (x3 : Int) (g : AG) : Option (Int × AG) :=
  (if 12 ≤ nw (g 11 5) then some ((-1), g) else (if nw (g 11 5) ≤ 0 then Vans_addCall_b x1 x2 x3 g else if 0 ≤ nw ((g 11 5) - 1) ∧ nw ((g 11 5) - 1) < 12 then (if nw (g 109 (ix ((g 11 5) - 1))) ≤ nw x1 then Vans_addCall_b x1 x2 x3 g else some ((-1), g)) else none))
def X_call (x1 : Int) (x2 : Int) (x3 : Int) (g : AG) : Option (Int × AG) :=
  (if nw x3 = 0 then (some (up g 11 5 0) >>= fun (g7 : AG) => some (0, g7)) else (if nw (X_within x1 0 9999) = 0 then some ((-1), g) else (if nw (X_isPoint x2) = 0 then some ((-1), g) else (if nw (X_within x3 1 300) = 0 then some ((-1), g) else (Vans_addCall x1 x2 x3 g >>= fun (r5 : Int × AG) => some (r5.1, r5.2))))))
def Vans_comesAt (x1 : Int) (x2 : Int) (g : AG) : Option Int :=
  if 0 ≤ nw x2 ∧ nw x2 < 12 then if 0 ≤ nw x1 ∧ nw x1 < 2 then (Vans_minutes (g 113 (ix x1)) (g 110 (ix x2)) g >>= fun (r3 : Int) => some ((mxI (g 109 (ix x2)) (g 114 (ix x1))) + r3)) else none else none
set_option synthInstance.maxHeartbeats 2000000 in
def Vans_takeCalls_b (x3 : Int) (g : AG) : Option (Int × AG) :=
  (if nw (g 11 5) ≤ nw x3 then some (0, g) else (Vans_comesAt 1 x3 g >>= fun (r2 : Int) => (Vans_comesAt 0 x3 g >>= fun (r4 : Int) => (some ((if nw r4 ≤ nw r2 then 0 else 1)) >>= fun (t6 : Int) => (Vans_comesAt t6 x3 g >>= fun (r8 : Int) => if 0 ≤ nw x3 ∧ nw x3 < 12 then (some (up g 112 (ix x3) t6) >>= fun (g11 : AG) => if 0 ≤ nw t6 ∧ nw t6 < 2 then (some (up g11 113 (ix t6) (g11 110 (ix x3))) >>= fun (g14 : AG) => (some (up g14 114 (ix t6) (r8 + (g14 111 (ix x3)))) >>= fun (g16 : AG) => (some (up g16 11 12 ((g16 11 12) + (r8 - (g16 109 (ix x3))))) >>= fun (g18 : AG) => (some (up g18 11 13 (mxI (g18 11 13) (r8 - (g18 109 (ix x3))))) >>= fun (g20 : AG) => (some (up g20 11 14 (mxI (g20 11 14) (g20 114 (ix t6)))) >>= fun (g22 : AG) => Vans_takeCalls_b (x3 + 1) g22))))) else none) else none)))))
partial_fixpoint
def Vans_takeCalls (x1 : Int) (x2 : Int) (g : AG) : Option (Int × AG) :=
  (some (up g 113 (ix 0) x1) >>= fun (g1 : AG) => (some (up g1 113 (ix 1) x2) >>= fun (g3 : AG) => (some (fillG g3 114 2 0) >>= fun (g5 : AG) => (some (up g5 11 12 0) >>= fun (g7 : AG) => (some (up g7 11 13 0) >>= fun (g9 : AG) => (some (up g9 11 14 0) >>= fun (g11 : AG) => Vans_takeCalls_b 0 g11))))))
def Vans_takerOf (x1 : Int) (g : AG) : Option Int :=
  (((if nw (X_within (x1 - 10) 0 ((g 11 5) - 1)) = 0 then some ((-1)) else if 0 ≤ nw (x1 - 10) ∧ nw (x1 - 10) < 12 then some ((g 112 (ix (x1 - 10)))) else none) : Option (Int)) >>= fun (r3 : Int) => some r3)
def X_taken (x1 : Int) (x2 : Int) (x3 : Int) (g : AG) : Option (Int × AG) :=
  (if nw (X_isPoint x1) = 0 then some ((-1), g) else (if nw (X_isPoint x2) = 0 then some ((-1), g) else (Vans_measure g >>= fun (r3 : Int × AG) => (Vans_takeCalls x1 x2 r3.2 >>= fun (r5 : Int × AG) => (if nw x3 = 0 then some ((r5.2 11 12), r5.2) else (if nw x3 = 1 then some ((r5.2 11 13), r5.2) else (if nw x3 = 2 then some ((r5.2 11 14), r5.2) else (Vans_takerOf x3 r5.2 >>= fun (r10 : Int) => some (r10, r5.2)))))))))
def X_isWeather (x0 : Int) (x1 : Int) (x2 : Int) (x3 : Int) : Int :=
  (if nw (X_within x0 0 99) = 0 then 0 else (if nw (X_within x1 0 100) = 0 then 0 else (if nw (X_within x2 0 99) = 0 then 0 else (if nw (X_within x3 0 999) = 0 then 0 else 1))))
theorem X_isWeather_01 {x0 : Int} {x1 : Int} {x2 : Int} {x3 : Int} : (X_isWeather x0 x1 x2 x3) = 0 ∨ (X_isWeather x0 x1 x2 x3) = 1 := by
  unfold X_isWeather
  (repeat' split) <;> first | exact Or.inl rfl | exact Or.inr rfl | exact X_within_01
def Rain_start (x1 : Int) (x2 : Int) (g : AG) : Option (Int × AG) :=
  if g 12 0 = 115 ∨ g 12 0 = 116 then (some (fillG g (g 12 0).toNat 1000 0) >>= fun (g2 : AG) => (some ((if nw x2 ≤ nw x1 then 1000000 else 0)) >>= fun (t4 : Int) => (some (up g2 12 2 t4) >>= fun (g6 : AG) => if g6 12 0 = 115 ∨ g6 12 0 = 116 then if 0 ≤ nw x1 ∧ nw x1 < 1000 then (some (up g6 (g6 12 0).toNat (ix x1) (g6 12 2)) >>= fun (g10 : AG) => some (0, g10)) else none else none))) else none
set_option synthInstance.maxHeartbeats 2000000 in
def Rain_passDay_b (x1 : Int) (x2 : Int) (x3 : Int) (x4 : Int) (tag : Nat) (x5 : Int) (g : AG) : Option (Int × AG) :=
  (if tag = 1 then (if 1000 ≤ nw x5 then (some (up g 12 2 0) >>= fun (g2 : AG) => Rain_passDay_b x1 x2 x3 x4 2 0 g2) else if g 12 0 = 115 ∨ g 12 0 = 116 then if 0 ≤ nw x5 ∧ nw x5 < 1000 then (((if nw (g (g 12 0).toNat (ix x5)) ≤ 0 then some g else if g 12 0 = 115 ∨ g 12 0 = 116 then if g 12 1 = 115 ∨ g 12 1 = 116 then if 0 ≤ nw (mnI 999 ((mxI 0 (x5 - x1)) + x3)) ∧ nw (mnI 999 ((mxI 0 (x5 - x1)) + x3)) < 1000 then (some (up g (g 12 1).toNat (ix (mnI 999 ((mxI 0 (x5 - x1)) + x3))) ((g (g 12 1).toNat (ix (mnI 999 ((mxI 0 (x5 - x1)) + x3)))) + ((nw ((g (g 12 0).toNat (ix x5)) * x2)).tdiv 100))) >>= fun (g10 : AG) => if g10 12 1 = 115 ∨ g10 12 1 = 116 then if 0 ≤ nw (mxI 0 (x5 - x1)) ∧ nw (mxI 0 (x5 - x1)) < 1000 then if g10 12 0 = 115 ∨ g10 12 0 = 116 then (some (up g10 (g10 12 1).toNat (ix (mxI 0 (x5 - x1))) ((g10 (g10 12 1).toNat (ix (mxI 0 (x5 - x1)))) + ((g10 (g10 12 0).toNat (ix x5)) - ((nw ((g (g 12 0).toNat (ix x5)) * x2)).tdiv 100)))) >>= fun (g15 : AG) => some g15) else none else none else none) else none else none else none) : Option (AG)) >>= fun (r17 : AG) => Rain_passDay_b x1 x2 x3 x4 1 (x5 + 1) r17) else none else none) else (if tag = 2 then (if 1000 ≤ nw x5 then if g 12 0 = 115 ∨ g 12 0 = 116 then if g 12 1 = 115 ∨ g 12 1 = 116 then (some (up g 12 0 (g 12 1)) >>= fun (g4 : AG) => (some (up g4 12 1 (g 12 0)) >>= fun (g6 : AG) => some (0, g6))) else none else none else if g 12 1 = 115 ∨ g 12 1 = 116 then (((if nw x4 ≤ nw x5 then if g 12 1 = 115 ∨ g 12 1 = 116 then if 0 ≤ nw x5 ∧ nw x5 < 1000 then some ((g (g 12 1).toNat (ix x5)), g) else none else none else some (0, g)) : Option (Int × AG)) >>= fun (r12 : Int × AG) => if 0 ≤ nw x5 ∧ nw x5 < 1000 then (some (up r12.2 (g 12 1).toNat (ix x5) r12.1) >>= fun (g15 : AG) => if g15 12 1 = 115 ∨ g15 12 1 = 116 then (some (up g15 12 2 ((g15 12 2) + (g15 (g15 12 1).toNat (ix x5)))) >>= fun (g18 : AG) => Rain_passDay_b x1 x2 x3 x4 2 (x5 + 1) g18) else none) else none) else none) else none))
partial_fixpoint
def Rain_passDay (x1 : Int) (x2 : Int) (x3 : Int) (x4 : Int) (g : AG) : Option (Int × AG) :=
  if g 12 1 = 115 ∨ g 12 1 = 116 then (some (fillG g (g 12 1).toNat 1000 0) >>= fun (g2 : AG) => Rain_passDay_b x1 x2 x3 x4 1 0 g2) else none
set_option synthInstance.maxHeartbeats 2000000 in
def X_left_b (x1 : Int) (x2 : Int) (x3 : Int) (x4 : Int) (x5 : Int) (x6 : Int) (g : AG) : Option (Int × AG) :=
  (if nw x5 ≤ nw x6 then some ((g 12 2), g) else (Rain_passDay x1 x2 x3 x4 g >>= fun (r2 : Int × AG) => X_left_b x1 x2 x3 x4 x5 (x6 + 1) r2.2))
partial_fixpoint
def X_left (x1 : Int) (x2 : Int) (x3 : Int) (x4 : Int) (x5 : Int) (g : AG) : Option (Int × AG) :=
  (if nw (X_isWeather x1 x2 x3 x4) = 0 then some ((-1), g) else (if nw (X_within x5 0 60) = 0 then some ((-1), g) else (Rain_start (g 1 5) x4 g >>= fun (r3 : Int × AG) => X_left_b x1 x2 x3 x4 x5 0 r3.2)))
set_option synthInstance.maxHeartbeats 2000000 in
def X_shuts_b (x1 : Int) (x2 : Int) (x3 : Int) (x4 : Int) (x5 : Int) (g : AG) : Option (Int × AG) :=
  (if 60 < nw x5 then some ((-1), g) else (if 500000 ≤ nw (g 12 2) then (Rain_passDay x1 x2 x3 x4 g >>= fun (r3 : Int × AG) => X_shuts_b x1 x2 x3 x4 (x5 + 1) r3.2) else some (x5, g)))
partial_fixpoint
def X_shuts (x1 : Int) (x2 : Int) (x3 : Int) (x4 : Int) (g : AG) : Option (Int × AG) :=
  (if nw (X_isWeather x1 x2 x3 x4) = 0 then some ((-1), g) else (Rain_start (g 1 5) x4 g >>= fun (r2 : Int × AG) => X_shuts_b x1 x2 x3 x4 0 r2.2))
def X_price (x1 : Int) (x2 : Int) (x3 : Int) (g : AG) : Option (Int × AG) :=
  (if nw (X_isBoat x1 g) = 0 then some ((-1000000), g) else (if nw (X_isWeek x2) = 0 then some ((-1000000), g) else (Boats_priceLine x1 x2 x3 g >>= fun (r3 : Int × AG) => (((if nw r3.1 = (-1) then some ((-1000000), r3.2) else (Rules_valueOf r3.1 r3.2 >>= fun (r6 : Int × AG) => some (r6.1, r6.2))) : Option (Int × AG)) >>= fun (r8 : Int × AG) => some (r8.1, r8.2)))))
def Boats_holdLine (x1 : Int) (x2 : Int) (x3 : Int) (x4 : Int) (g : AG) : Option (Int × AG) :=
  (Rules_askWeek x4 g >>= fun (r1 : Int × AG) => (some (up r1.2 27 (ix 6) x2) >>= fun (g3 : AG) => (some (up g3 27 (ix 7) x3) >>= fun (g5 : AG) => if 0 ≤ nw x1 ∧ nw x1 < 10 then (some (up g5 27 (ix 5) (g5 49 (ix x1))) >>= fun (g8 : AG) => (Rules_serving 103 g8 >>= fun (r10 : Int × AG) => some (r10.1, r10.2))) else none)))
def X_held (x1 : Int) (x2 : Int) (x3 : Int) (x4 : Int) (g : AG) : Option (Int × AG) :=
  (if nw (X_isBoat x1 g) = 0 then some ((-1000000), g) else (if nw (X_isWeek x4) = 0 then some ((-1000000), g) else (if nw (X_within x2 0 99) = 0 then some ((-1000000), g) else (if nw (X_within x3 0 9) = 0 then some ((-1000000), g) else (Boats_holdLine x1 x2 x3 x4 g >>= fun (r5 : Int × AG) => (((if nw r5.1 = (-1) then some (0, r5.2) else (Rules_valueOf r5.1 r5.2 >>= fun (r8 : Int × AG) => some (r8.1, r8.2))) : Option (Int × AG)) >>= fun (r10 : Int × AG) => some (r10.1, r10.2)))))))
def X_look (x1 : Int) (g : AG) : Int :=
  (if nw x1 = 0 then (g 6 7) else (if nw x1 = 1 then (g 7 8) else (if nw x1 = 2 then (g 9 4) else (if nw x1 = 3 then (g 10 7) else (if nw x1 = 4 then (g 8 2) else (if nw x1 = 5 then (g 1 4) else (if nw x1 = 6 then (g 1 5) else (if nw x1 = 7 then (g 11 5) else (-1)))))))))
