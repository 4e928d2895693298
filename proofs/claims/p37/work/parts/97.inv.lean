/-! plain programs: all that holds, behind every call -/
theorem JFlag.cg {g g' : AG} (h : ∀ k i, inR [(117, 48)] k i = true → g' k i = g k i) (q : JFlag g) : JFlag g' := by
  unfold JFlag
  rw [h 117 47 rfl]
  exact q
theorem JArr.cg {g g' : AG} (h : ∀ k i, inR [(46, 0)] k i = true → g' k i = g k i) (q : JArr g) : JArr g' := by
  intro p hp
  rw [h 46 p rfl]
  exact q p hp
theorem JAlong.cg {g g' : AG} (h : ∀ k i, inR [(108, 1)] k i = true → g' k i = g k i) (q : JAlong g) : JAlong g' := by
  unfold JAlong
  rw [h 108 0 rfl]
  exact q
theorem JFault.cg {g g' : AG} (h : ∀ k i, inR [(117, 45), (4, 8), (117, 47), (4, 9)] k i = true → g' k i = g k i) (q : JFault g) : JFault g' := by
  unfold JFault
  rw [h 117 44 rfl, h 4 7 rfl, h 117 46 rfl, h 4 8 rfl]
  exact q
theorem JRain.cg {g g' : AG} (h : ∀ k i, inR [(12, 1), (12, 2)] k i = true → g' k i = g k i) (q : JRain g) : JRain g' := by
  unfold JRain
  rw [h 12 0 rfl, h 12 1 rfl]
  exact q
theorem JVal.cg {g g' : AG} (h : ∀ k i, inR [(117, 42)] k i = true → g' k i = g k i) (q : JVal g) : JVal g' := by
  unfold JVal
  rw [h 117 41 rfl]
  exact q
def Inv (g : AG) : Prop := JWay g ∧ JTrip g ∧ JBoat g ∧ JWgt g ∧ JPump g ∧ JJob g ∧ JCall g ∧ JTape g ∧ JLog g ∧ JYard g ∧ JRule g ∧ JWat g ∧ JHour g ∧ JStop g ∧ JFlag g ∧ JArr g ∧ JAlong g ∧ JFault g ∧ JRain g ∧ JQueue g ∧ JBook g ∧ JVal g
theorem iv_stretch : ∀ (x1 x2 x3 x4 : Int) (g : AG), I32 x1 → I32 x2 → I32 x3 → I32 x4 → Inv g → ∃ (r1 : Int × AG) (r2 : Int × AG), X_stretch x1 x2 x3 x4 g = some r1 ∧ M_stretch x1 x2 x3 x4 r1.2 = some r2 ∧ nw (r1.1) = nw (r2.1) ∧ Inv (r2.2) := by
  intro x1 x2 x3 x4 g h1 h2 h3 h4 hI
  obtain ⟨iWay, iTrip, iBoat, iWgt, iPump, iJob, iCall, iTape, iLog, iYard, iRule, iWat, iHour, iStop, iFlag, iArr, iAlong, iFault, iRain, iQueue, iBook, iVal⟩ := hI
  obtain ⟨r1, r2, e1, e2, e3, nWay, f⟩ := sm_stretch (g := g) h1 h2 h3 h4 iWay
  exact ⟨r1, r2, e1, e2, e3, nWay, iTrip.cg (f.cg rfl), iBoat.cg (f.cg rfl), iWgt.cg (f.cg rfl), iPump.cg (f.cg rfl), iJob.cg (f.cg rfl), iCall.cg (f.cg rfl), iTape.cg (f.cg rfl), iLog.cg (f.cg rfl), iYard.cg (f.cg rfl), iRule.cg (f.cg rfl), iWat.cg (f.cg rfl), iHour.cg (f.cg rfl), iStop.cg (f.cg rfl), iFlag.cg (f.cg rfl), iArr.cg (f.cg rfl), iAlong.cg (f.cg rfl), iFault.cg (f.cg rfl), iRain.cg (f.cg rfl), iQueue.cg (f.cg rfl), iBook.cg (f.cg rfl), iVal.cg (f.cg rfl)⟩
theorem iv_water : ∀ (x1 : Int) (g : AG), I32 x1 → Inv g → ∃ (r1 : Int × AG) (r2 : Int × AG), X_water x1 g = some r1 ∧ M_water x1 r1.2 = some r2 ∧ nw (r1.1) = nw (r2.1) ∧ Inv (r2.2) := by
  intro x1 g h1 hI
  obtain ⟨iWay, iTrip, iBoat, iWgt, iPump, iJob, iCall, iTape, iLog, iYard, iRule, iWat, iHour, iStop, iFlag, iArr, iAlong, iFault, iRain, iQueue, iBook, iVal⟩ := hI
  obtain ⟨r1, r2, e1, e2, e3, nWat, nHour, f⟩ := sm_water (g := g) h1 iRule iWat iHour
  exact ⟨r1, r2, e1, e2, e3, iWay.cg (f.cg rfl), iTrip.cg (f.cg rfl), iBoat.cg (f.cg rfl), iWgt.cg (f.cg rfl), iPump.cg (f.cg rfl), iJob.cg (f.cg rfl), iCall.cg (f.cg rfl), iTape.cg (f.cg rfl), iLog.cg (f.cg rfl), iYard.cg (f.cg rfl), iRule.cg (f.cg rfl), nWat, nHour, iStop.cg (f.cg rfl), iFlag.cg (f.cg rfl), iArr.cg (f.cg rfl), iAlong.cg (f.cg rfl), iFault.cg (f.cg rfl), iRain.cg (f.cg rfl), iQueue.cg (f.cg rfl), iBook.cg (f.cg rfl), iVal.cg (f.cg rfl)⟩
theorem iv_stoppage : ∀ (x1 x2 x3 : Int) (g : AG), I32 x1 → I32 x2 → I32 x3 → Inv g → ∃ (r1 : Int × AG) (r2 : Int × AG), X_stoppage x1 x2 x3 g = some r1 ∧ M_stoppage x1 x2 x3 r1.2 = some r2 ∧ nw (r1.1) = nw (r2.1) ∧ Inv (r2.2) := by
  intro x1 x2 x3 g h1 h2 h3 hI
  obtain ⟨iWay, iTrip, iBoat, iWgt, iPump, iJob, iCall, iTape, iLog, iYard, iRule, iWat, iHour, iStop, iFlag, iArr, iAlong, iFault, iRain, iQueue, iBook, iVal⟩ := hI
  obtain ⟨r1, r2, e1, e2, e3, nStop, f⟩ := sm_stoppage (g := g) h1 h2 h3 iStop
  exact ⟨r1, r2, e1, e2, e3, iWay.cg (f.cg rfl), iTrip.cg (f.cg rfl), iBoat.cg (f.cg rfl), iWgt.cg (f.cg rfl), iPump.cg (f.cg rfl), iJob.cg (f.cg rfl), iCall.cg (f.cg rfl), iTape.cg (f.cg rfl), iLog.cg (f.cg rfl), iYard.cg (f.cg rfl), iRule.cg (f.cg rfl), iWat.cg (f.cg rfl), iHour.cg (f.cg rfl), nStop, iFlag.cg (f.cg rfl), iArr.cg (f.cg rfl), iAlong.cg (f.cg rfl), iFault.cg (f.cg rfl), iRain.cg (f.cg rfl), iQueue.cg (f.cg rfl), iBook.cg (f.cg rfl), iVal.cg (f.cg rfl)⟩
theorem iv_boat : ∀ (x1 x2 x3 x4 : Int) (g : AG), I32 x1 → I32 x2 → I32 x3 → I32 x4 → Inv g → ∃ (r1 : Int × AG) (r2 : Int × AG), X_boat x1 x2 x3 x4 g = some r1 ∧ M_boat x1 x2 x3 x4 r1.2 = some r2 ∧ nw (r1.1) = nw (r2.1) ∧ Inv (r2.2) := by
  intro x1 x2 x3 x4 g h1 h2 h3 h4 hI
  obtain ⟨iWay, iTrip, iBoat, iWgt, iPump, iJob, iCall, iTape, iLog, iYard, iRule, iWat, iHour, iStop, iFlag, iArr, iAlong, iFault, iRain, iQueue, iBook, iVal⟩ := hI
  obtain ⟨r1, r2, e1, e2, e3, nBoat, f⟩ := sm_boat (g := g) h1 h2 h3 h4 iBoat.1 iBoat
  exact ⟨r1, r2, e1, e2, e3, iWay.cg (f.cg rfl), iTrip.mono (f.cg rfl) (boat_up h1 h2 h3 h4 iBoat.1 e1 e2), nBoat, iWgt.cg (f.cg rfl), iPump.cg (f.cg rfl), iJob.cg (f.cg rfl), iCall.cg (f.cg rfl), iTape.cg (f.cg rfl), iLog.cg (f.cg rfl), iYard.mono (f.cg rfl) (boat_up h1 h2 h3 h4 iBoat.1 e1 e2), iRule.cg (f.cg rfl), iWat.cg (f.cg rfl), iHour.cg (f.cg rfl), iStop.cg (f.cg rfl), iFlag.cg (f.cg rfl), iArr.cg (f.cg rfl), iAlong.cg (f.cg rfl), iFault.cg (f.cg rfl), iRain.cg (f.cg rfl), iQueue.cg (f.cg rfl), iBook.cg (f.cg rfl), iVal.cg (f.cg rfl)⟩
theorem iv_feed : ∀ (x1 x2 x3 x4 x5 : Int) (g : AG), I32 x1 → I32 x2 → I32 x3 → I32 x4 → I32 x5 → Inv g → ∃ (r1 : Int × AG) (r2 : Int × AG), X_feed x1 x2 x3 x4 x5 g = some r1 ∧ M_feed x1 x2 x3 x4 x5 r1.2 = some r2 ∧ nw (r1.1) = nw (r2.1) ∧ Inv (r2.2) := by
  intro x1 x2 x3 x4 x5 g h1 h2 h3 h4 h5 hI
  obtain ⟨iWay, iTrip, iBoat, iWgt, iPump, iJob, iCall, iTape, iLog, iYard, iRule, iWat, iHour, iStop, iFlag, iArr, iAlong, iFault, iRain, iQueue, iBook, iVal⟩ := hI
  obtain ⟨r1, r2, e1, e2, e3, nTape, f⟩ := sm_feed (x1 := x1) (x2 := x2) (x3 := x3) (x4 := x4) (x5 := x5) (g := g) iTape
  exact ⟨r1, r2, e1, e2, e3, iWay.cg (f.cg rfl), iTrip.cg (f.cg rfl), iBoat.cg (f.cg rfl), iWgt.cg (f.cg rfl), iPump.cg (f.cg rfl), iJob.cg (f.cg rfl), iCall.cg (f.cg rfl), nTape, iLog.cg (f.cg rfl), iYard.cg (f.cg rfl), iRule.cg (f.cg rfl), iWat.cg (f.cg rfl), iHour.cg (f.cg rfl), iStop.cg (f.cg rfl), iFlag.cg (f.cg rfl), iArr.cg (f.cg rfl), iAlong.cg (f.cg rfl), iFault.cg (f.cg rfl), iRain.cg (f.cg rfl), iQueue.cg (f.cg rfl), iBook.cg (f.cg rfl), iVal.cg (f.cg rfl)⟩
theorem iv_end : ∀ (x1 : Int) (g : AG), I32 x1 → Inv g → ∃ (r1 : Int × AG) (r2 : Int × AG), X_end x1 g = some r1 ∧ M_end x1 r1.2 = some r2 ∧ nw (r1.1) = nw (r2.1) ∧ Inv (r2.2) := by
  intro x1 g h1 hI
  obtain ⟨iWay, iTrip, iBoat, iWgt, iPump, iJob, iCall, iTape, iLog, iYard, iRule, iWat, iHour, iStop, iFlag, iArr, iAlong, iFault, iRain, iQueue, iBook, iVal⟩ := hI
  obtain ⟨r1, r2, e1, e2, e3, nTape, f⟩ := sm_end (g := g) h1 iTape
  exact ⟨r1, r2, e1, e2, e3, iWay.cg (f.cg rfl), iTrip.cg (f.cg rfl), iBoat.cg (f.cg rfl), iWgt.cg (f.cg rfl), iPump.cg (f.cg rfl), iJob.cg (f.cg rfl), iCall.cg (f.cg rfl), nTape, iLog.cg (f.cg rfl), iYard.cg (f.cg rfl), iRule.cg (f.cg rfl), iWat.cg (f.cg rfl), iHour.cg (f.cg rfl), iStop.cg (f.cg rfl), iFlag.cg (f.cg rfl), iArr.cg (f.cg rfl), iAlong.cg (f.cg rfl), iFault.cg (f.cg rfl), iRain.cg (f.cg rfl), iQueue.cg (f.cg rfl), iBook.cg (f.cg rfl), iVal.cg (f.cg rfl)⟩
theorem iv_rules : ∀ (g : AG), Inv g → ∃ (r1 : Int × AG) (r2 : Int × AG), X_rules g = some r1 ∧ M_rules r1.2 = some r2 ∧ nw (r1.1) = nw (r2.1) ∧ Inv (r2.2) := by
  intro g hI
  obtain ⟨iWay, iTrip, iBoat, iWgt, iPump, iJob, iCall, iTape, iLog, iYard, iRule, iWat, iHour, iStop, iFlag, iArr, iAlong, iFault, iRain, iQueue, iBook, iVal⟩ := hI
  obtain ⟨r1, r2, e1, e2, e3, nTape, nRule, nHour, nFault, nVal, f⟩ := sm_rules (g := g)  iTape iRule iHour iWat iVal
  exact ⟨r1, r2, e1, e2, e3, iWay.cg (f.cg rfl), iTrip.cg (f.cg rfl), iBoat.cg (f.cg rfl), iWgt.cg (f.cg rfl), iPump.cg (f.cg rfl), iJob.cg (f.cg rfl), iCall.cg (f.cg rfl), nTape, iLog.cg (f.cg rfl), iYard.cg (f.cg rfl), nRule, iWat.cg (f.cg rfl), nHour, iStop.cg (f.cg rfl), iFlag.cg (f.cg rfl), iArr.cg (f.cg rfl), iAlong.cg (f.cg rfl), nFault, iRain.cg (f.cg rfl), iQueue.cg (f.cg rfl), iBook.cg (f.cg rfl), nVal⟩
theorem iv_fault : ∀ (x1 : Int) (g : AG), I32 x1 → Inv g → nw (X_fault x1 g) = nw (M_fault x1 g) ∧ Inv g := by
  intro x1 g _ hI
  have hI0 := hI
  obtain ⟨iWay, iTrip, iBoat, iWgt, iPump, iJob, iCall, iTape, iLog, iYard, iRule, iWat, iHour, iStop, iFlag, iArr, iAlong, iFault, iRain, iQueue, iBook, iVal⟩ := hI
  exact ⟨sm_fault iFault, hI0⟩
theorem iv_open : ∀ (x1 x2 : Int) (g : AG), I32 x1 → I32 x2 → Inv g → ∃ (v1 : Int) (r2 : Int × AG), X_open x1 x2 g = some v1 ∧ M_open x1 x2 g = some r2 ∧ nw (v1) = nw (r2.1) ∧ Inv (r2.2) := by
  intro x1 x2 g h1 h2 hI
  obtain ⟨iWay, iTrip, iBoat, iWgt, iPump, iJob, iCall, iTape, iLog, iYard, iRule, iWat, iHour, iStop, iFlag, iArr, iAlong, iFault, iRain, iQueue, iBook, iVal⟩ := hI
  obtain ⟨r1, r2, e1, e2, e3, f⟩ := sm_open (g := g) h1 h2 iRule iHour
  exact ⟨r1, r2, e1, e2, e3, iWay.cg (f.cg rfl), iTrip.cg (f.cg rfl), iBoat.cg (f.cg rfl), iWgt.cg (f.cg rfl), iPump.cg (f.cg rfl), iJob.cg (f.cg rfl), iCall.cg (f.cg rfl), iTape.cg (f.cg rfl), iLog.cg (f.cg rfl), iYard.cg (f.cg rfl), iRule.cg (f.cg rfl), iWat.cg (f.cg rfl), iHour.cg (f.cg rfl), iStop.cg (f.cg rfl), iFlag.cg (f.cg rfl), iArr.cg (f.cg rfl), iAlong.cg (f.cg rfl), iFault.cg (f.cg rfl), iRain.cg (f.cg rfl), iQueue.cg (f.cg rfl), iBook.cg (f.cg rfl), iVal.cg (f.cg rfl)⟩
theorem iv_comes : ∀ (x1 x2 x3 x4 : Int) (g : AG), I32 x1 → I32 x2 → I32 x3 → I32 x4 → Inv g → ∃ (r1 : Int × AG) (r2 : Int × AG), X_comes x1 x2 x3 x4 g = some r1 ∧ M_comes x1 x2 x3 x4 r1.2 = some r2 ∧ nw (r1.1) = nw (r2.1) ∧ Inv (r2.2) := by
  intro x1 x2 x3 x4 g h1 h2 h3 h4 hI
  obtain ⟨iWay, iTrip, iBoat, iWgt, iPump, iJob, iCall, iTape, iLog, iYard, iRule, iWat, iHour, iStop, iFlag, iArr, iAlong, iFault, iRain, iQueue, iBook, iVal⟩ := hI
  obtain ⟨r1, r2, e1, e2, e3, f⟩ := sm_comes (g := g) h1 h2 h3 h4 ⟨iWay, iRule, iHour, iStop, iWat⟩ iBoat iFlag
  exact ⟨r1, r2, e1, e2, e3, iWay.cg (f.cg rfl), iTrip.cg (f.cg rfl), iBoat.cg (f.cg rfl), iWgt.cg (f.cg rfl), iPump.cg (f.cg rfl), iJob.cg (f.cg rfl), iCall.cg (f.cg rfl), iTape.cg (f.cg rfl), iLog.cg (f.cg rfl), iYard.cg (f.cg rfl), iRule.cg (f.cg rfl), iWat.cg (f.cg rfl), iHour.cg (f.cg rfl), iStop.cg (f.cg rfl), iFlag.cg (f.cg rfl), iArr.cg (f.cg rfl), iAlong.cg (f.cg rfl), iFault.cg (f.cg rfl), iRain.cg (f.cg rfl), iQueue.cg (f.cg rfl), iBook.cg (f.cg rfl), iVal.cg (f.cg rfl)⟩
theorem iv_maybe : ∀ (x1 x2 x3 x4 : Int) (g : AG), I32 x1 → I32 x2 → I32 x3 → I32 x4 → Inv g → ∃ (r1 : Int × AG) (r2 : Int × AG), X_maybe x1 x2 x3 x4 g = some r1 ∧ M_maybe x1 x2 x3 x4 r1.2 = some r2 ∧ nw (r1.1) = nw (r2.1) ∧ Inv (r2.2) := by
  intro x1 x2 x3 x4 g h1 h2 h3 h4 hI
  obtain ⟨iWay, iTrip, iBoat, iWgt, iPump, iJob, iCall, iTape, iLog, iYard, iRule, iWat, iHour, iStop, iFlag, iArr, iAlong, iFault, iRain, iQueue, iBook, iVal⟩ := hI
  obtain ⟨r1, r2, e1, e2, e3, f, nArr⟩ := sm_maybe (g := g) h1 h2 h3 h4 ⟨iWay, iRule, iHour, iStop, iWat⟩ iBoat iFlag iArr
  exact ⟨r1, r2, e1, e2, e3, iWay.cg (f.cg rfl), iTrip.cg (f.cg rfl), iBoat.cg (f.cg rfl), iWgt.cg (f.cg rfl), iPump.cg (f.cg rfl), iJob.cg (f.cg rfl), iCall.cg (f.cg rfl), iTape.cg (f.cg rfl), iLog.cg (f.cg rfl), iYard.cg (f.cg rfl), iRule.cg (f.cg rfl), iWat.cg (f.cg rfl), iHour.cg (f.cg rfl), iStop.cg (f.cg rfl), iFlag.cg (f.cg rfl), nArr, iAlong.cg (f.cg rfl), iFault.cg (f.cg rfl), iRain.cg (f.cg rfl), iQueue.cg (f.cg rfl), iBook.cg (f.cg rfl), iVal.cg (f.cg rfl)⟩
theorem iv_harm : ∀ (x1 x2 x3 x4 : Int) (g : AG), I32 x1 → I32 x2 → I32 x3 → I32 x4 → Inv g → ∃ (r1 : Int × AG) (r2 : Int × AG), X_harm x1 x2 x3 x4 g = some r1 ∧ M_harm x1 x2 x3 x4 r1.2 = some r2 ∧ nw (r1.1) = nw (r2.1) ∧ Inv (r2.2) := by
  intro x1 x2 x3 x4 g h1 h2 h3 h4 hI
  obtain ⟨iWay, iTrip, iBoat, iWgt, iPump, iJob, iCall, iTape, iLog, iYard, iRule, iWat, iHour, iStop, iFlag, iArr, iAlong, iFault, iRain, iQueue, iBook, iVal⟩ := hI
  obtain ⟨r1, r2, e1, e2, e3, f⟩ := sm_harm (g := g) h1 h2 h3 h4 ⟨iWay, iRule, iHour, iStop, iWat⟩ iBoat iFlag
  exact ⟨r1, r2, e1, e2, e3, iWay.cg (f.cg rfl), iTrip.cg (f.cg rfl), iBoat.cg (f.cg rfl), iWgt.cg (f.cg rfl), iPump.cg (f.cg rfl), iJob.cg (f.cg rfl), iCall.cg (f.cg rfl), iTape.cg (f.cg rfl), iLog.cg (f.cg rfl), iYard.cg (f.cg rfl), iRule.cg (f.cg rfl), iWat.cg (f.cg rfl), iHour.cg (f.cg rfl), iStop.cg (f.cg rfl), iFlag.cg (f.cg rfl), iArr.cg (f.cg rfl), iAlong.cg (f.cg rfl), iFault.cg (f.cg rfl), iRain.cg (f.cg rfl), iQueue.cg (f.cg rfl), iBook.cg (f.cg rfl), iVal.cg (f.cg rfl)⟩
theorem iv_back : ∀ (x1 x2 : Int) (g : AG), I32 x1 → I32 x2 → Inv g → ∃ (r1 : Int × AG) (r2 : Int × AG), X_back x1 x2 g = some r1 ∧ M_back x1 x2 r1.2 = some r2 ∧ nw (r1.1) = nw (r2.1) ∧ Inv (r2.2) := by
  intro x1 x2 g h1 h2 hI
  obtain ⟨iWay, iTrip, iBoat, iWgt, iPump, iJob, iCall, iTape, iLog, iYard, iRule, iWat, iHour, iStop, iFlag, iArr, iAlong, iFault, iRain, iQueue, iBook, iVal⟩ := hI
  obtain ⟨r1, r2, e1, e2, e3, f⟩ := sm_back (g := g) h1 h2 ⟨⟨iWay, iRule, iHour, iStop, iWat⟩, iBoat, iTrip⟩ iFlag
  exact ⟨r1, r2, e1, e2, e3, iWay.cg (f.cg rfl), iTrip.cg (f.cg rfl), iBoat.cg (f.cg rfl), iWgt.cg (f.cg rfl), iPump.cg (f.cg rfl), iJob.cg (f.cg rfl), iCall.cg (f.cg rfl), iTape.cg (f.cg rfl), iLog.cg (f.cg rfl), iYard.cg (f.cg rfl), iRule.cg (f.cg rfl), iWat.cg (f.cg rfl), iHour.cg (f.cg rfl), iStop.cg (f.cg rfl), iFlag.cg (f.cg rfl), iArr.cg (f.cg rfl), iAlong.cg (f.cg rfl), iFault.cg (f.cg rfl), iRain.cg (f.cg rfl), iQueue.cg (f.cg rfl), iBook.cg (f.cg rfl), iVal.cg (f.cg rfl)⟩
theorem iv_rung : ∀ (g : AG), Inv g → ∃ (r1 : Int × AG) (r2 : Int × AG), X_rung g = some r1 ∧ M_rung r1.2 = some r2 ∧ nw (r1.1) = nw (r2.1) ∧ Inv (r2.2) := by
  intro g hI
  obtain ⟨iWay, iTrip, iBoat, iWgt, iPump, iJob, iCall, iTape, iLog, iYard, iRule, iWat, iHour, iStop, iFlag, iArr, iAlong, iFault, iRain, iQueue, iBook, iVal⟩ := hI
  obtain ⟨r1, r2, e1, e2, e3, f⟩ := sm_rung (g := g)  ⟨⟨iWay, iRule, iHour, iStop, iWat⟩, iBoat, iTrip⟩ iFlag
  exact ⟨r1, r2, e1, e2, e3, iWay.cg (f.cg rfl), iTrip.cg (f.cg rfl), iBoat.cg (f.cg rfl), iWgt.cg (f.cg rfl), iPump.cg (f.cg rfl), iJob.cg (f.cg rfl), iCall.cg (f.cg rfl), iTape.cg (f.cg rfl), iLog.cg (f.cg rfl), iYard.cg (f.cg rfl), iRule.cg (f.cg rfl), iWat.cg (f.cg rfl), iHour.cg (f.cg rfl), iStop.cg (f.cg rfl), iFlag.cg (f.cg rfl), iArr.cg (f.cg rfl), iAlong.cg (f.cg rfl), iFault.cg (f.cg rfl), iRain.cg (f.cg rfl), iQueue.cg (f.cg rfl), iBook.cg (f.cg rfl), iVal.cg (f.cg rfl)⟩
theorem iv_pump : ∀ (x1 x2 : Int) (g : AG), I32 x1 → (x2 = 0 ∨ x2 = 1) → Inv g → ∃ (r1 : Int × AG) (r2 : Int × AG), X_pump x1 x2 g = some r1 ∧ M_pump x1 x2 r1.2 = some r2 ∧ nw (r1.1) = nw (r2.1) ∧ Inv (r2.2) := by
  intro x1 x2 g h1 h2 hI
  obtain ⟨iWay, iTrip, iBoat, iWgt, iPump, iJob, iCall, iTape, iLog, iYard, iRule, iWat, iHour, iStop, iFlag, iArr, iAlong, iFault, iRain, iQueue, iBook, iVal⟩ := hI
  obtain ⟨r1, r2, e1, e2, e3, nPump, f⟩ := sm_pump (g := g) h1 h2 iPump
  exact ⟨r1, r2, e1, e2, e3, iWay.cg (f.cg rfl), iTrip.cg (f.cg rfl), iBoat.cg (f.cg rfl), iWgt.cg (f.cg rfl), nPump, iJob.cg (f.cg rfl), iCall.cg (f.cg rfl), iTape.cg (f.cg rfl), iLog.cg (f.cg rfl), iYard.cg (f.cg rfl), iRule.cg (f.cg rfl), iWat.cg (f.cg rfl), iHour.cg (f.cg rfl), iStop.cg (f.cg rfl), iFlag.cg (f.cg rfl), iArr.cg (f.cg rfl), iAlong.cg (f.cg rfl), iFault.cg (f.cg rfl), iRain.cg (f.cg rfl), iQueue.cg (f.cg rfl), iBook.cg (f.cg rfl), iVal.cg (f.cg rfl)⟩
theorem iv_pumped : ∀ (x1 x2 x3 x4 x5 : Int) (g : AG), I32 x1 → I32 x2 → I32 x3 → I32 x4 → I32 x5 → Inv g → ∃ (r1 : Int × AG) (r2 : Int × AG), X_pumped x1 x2 x3 x4 x5 g = some r1 ∧ M_pumped x1 x2 x3 x4 x5 r1.2 = some r2 ∧ nw (r1.1) = nw (r2.1) ∧ Inv (r2.2) := by
  intro x1 x2 x3 x4 x5 g h1 h2 h3 h4 h5 hI
  obtain ⟨iWay, iTrip, iBoat, iWgt, iPump, iJob, iCall, iTape, iLog, iYard, iRule, iWat, iHour, iStop, iFlag, iArr, iAlong, iFault, iRain, iQueue, iBook, iVal⟩ := hI
  obtain ⟨r1, r2, e1, e2, e3, f, nArr⟩ := sm_pumped (g := g) h1 h2 h3 h4 h5 ⟨iWay, iRule, iHour, iStop, iWat⟩ iBoat iFlag iArr iPump
  exact ⟨r1, r2, e1, e2, e3, iWay.cg (f.cg rfl), iTrip.cg (f.cg rfl), iBoat.cg (f.cg rfl), iWgt.cg (f.cg rfl), iPump.cg (f.cg rfl), iJob.cg (f.cg rfl), iCall.cg (f.cg rfl), iTape.cg (f.cg rfl), iLog.cg (f.cg rfl), iYard.cg (f.cg rfl), iRule.cg (f.cg rfl), iWat.cg (f.cg rfl), iHour.cg (f.cg rfl), iStop.cg (f.cg rfl), iFlag.cg (f.cg rfl), nArr, iAlong.cg (f.cg rfl), iFault.cg (f.cg rfl), iRain.cg (f.cg rfl), iQueue.cg (f.cg rfl), iBook.cg (f.cg rfl), iVal.cg (f.cg rfl)⟩
theorem iv_enough : ∀ (x1 x2 x3 x4 x5 : Int) (g : AG), I32 x1 → I32 x2 → I32 x3 → I32 x4 → I32 x5 → Inv g → ∃ (r1 : Int × AG) (r2 : Int × AG), X_enough x1 x2 x3 x4 x5 g = some r1 ∧ M_enough x1 x2 x3 x4 x5 r1.2 = some r2 ∧ nw (r1.1) = nw (r2.1) ∧ Inv (r2.2) := by
  intro x1 x2 x3 x4 x5 g h1 h2 h3 h4 h5 hI
  obtain ⟨iWay, iTrip, iBoat, iWgt, iPump, iJob, iCall, iTape, iLog, iYard, iRule, iWat, iHour, iStop, iFlag, iArr, iAlong, iFault, iRain, iQueue, iBook, iVal⟩ := hI
  obtain ⟨r1, r2, e1, e2, e3, f⟩ := sm_enough (g := g) h1 h2 h3 h4 h5 ⟨iWay, iRule, iHour, iStop, iWat⟩ iBoat iFlag
  exact ⟨r1, r2, e1, e2, e3, iWay.cg (f.cg rfl), iTrip.cg (f.cg rfl), iBoat.cg (f.cg rfl), iWgt.cg (f.cg rfl), iPump.cg (f.cg rfl), iJob.cg (f.cg rfl), iCall.cg (f.cg rfl), iTape.cg (f.cg rfl), iLog.cg (f.cg rfl), iYard.cg (f.cg rfl), iRule.cg (f.cg rfl), iWat.cg (f.cg rfl), iHour.cg (f.cg rfl), iStop.cg (f.cg rfl), iFlag.cg (f.cg rfl), iArr.cg (f.cg rfl), iAlong.cg (f.cg rfl), iFault.cg (f.cg rfl), iRain.cg (f.cg rfl), iQueue.cg (f.cg rfl), iBook.cg (f.cg rfl), iVal.cg (f.cg rfl)⟩
theorem iv_trip : ∀ (x1 x2 x3 x4 x5 : Int) (g : AG), I32 x1 → I32 x2 → I32 x3 → I32 x4 → I32 x5 → Inv g → ∃ (r1 : Int × AG) (r2 : Int × AG), X_trip x1 x2 x3 x4 x5 g = some r1 ∧ M_trip x1 x2 x3 x4 x5 r1.2 = some r2 ∧ nw (r1.1) = nw (r2.1) ∧ Inv (r2.2) := by
  intro x1 x2 x3 x4 x5 g h1 h2 h3 h4 h5 hI
  obtain ⟨iWay, iTrip, iBoat, iWgt, iPump, iJob, iCall, iTape, iLog, iYard, iRule, iWat, iHour, iStop, iFlag, iArr, iAlong, iFault, iRain, iQueue, iBook, iVal⟩ := hI
  obtain ⟨r1, r2, e1, e2, e3, nTrip, f⟩ := sm_trip (g := g) h1 h2 h3 h4 h5 iBoat.1 iTrip
  exact ⟨r1, r2, e1, e2, e3, iWay.cg (f.cg rfl), nTrip, iBoat.cg (f.cg rfl), iWgt.cg (f.cg rfl), iPump.cg (f.cg rfl), iJob.cg (f.cg rfl), iCall.cg (f.cg rfl), iTape.cg (f.cg rfl), iLog.cg (f.cg rfl), iYard.cg (f.cg rfl), iRule.cg (f.cg rfl), iWat.cg (f.cg rfl), iHour.cg (f.cg rfl), iStop.cg (f.cg rfl), iFlag.cg (f.cg rfl), iArr.cg (f.cg rfl), iAlong.cg (f.cg rfl), iFault.cg (f.cg rfl), iRain.cg (f.cg rfl), iQueue.cg (f.cg rfl), iBook.cg (f.cg rfl), iVal.cg (f.cg rfl)⟩
theorem iv_late : ∀ (x1 : Int) (g : AG), I32 x1 → Inv g → ∃ (r1 : Int × AG) (r2 : Int × AG), X_late x1 g = some r1 ∧ M_late x1 r1.2 = some r2 ∧ nw (r1.1) = nw (r2.1) ∧ Inv (r2.2) := by
  intro x1 g h1 hI
  obtain ⟨iWay, iTrip, iBoat, iWgt, iPump, iJob, iCall, iTape, iLog, iYard, iRule, iWat, iHour, iStop, iFlag, iArr, iAlong, iFault, iRain, iQueue, iBook, iVal⟩ := hI
  obtain ⟨r1, r2, e1, e2, e3, f⟩ := sm_late (g := g) h1 ⟨⟨iWay, iRule, iHour, iStop, iWat⟩, iBoat, iTrip⟩ iFlag
  exact ⟨r1, r2, e1, e2, e3, iWay.cg (f.cg rfl), iTrip.cg (f.cg rfl), iBoat.cg (f.cg rfl), iWgt.cg (f.cg rfl), iPump.cg (f.cg rfl), iJob.cg (f.cg rfl), iCall.cg (f.cg rfl), iTape.cg (f.cg rfl), iLog.cg (f.cg rfl), iYard.cg (f.cg rfl), iRule.cg (f.cg rfl), iWat.cg (f.cg rfl), iHour.cg (f.cg rfl), iStop.cg (f.cg rfl), iFlag.cg (f.cg rfl), iArr.cg (f.cg rfl), iAlong.cg (f.cg rfl), iFault.cg (f.cg rfl), iRain.cg (f.cg rfl), iQueue.cg (f.cg rfl), iBook.cg (f.cg rfl), iVal.cg (f.cg rfl)⟩
theorem iv_log : ∀ (x1 x2 x3 : Int) (g : AG), I32 x1 → I32 x2 → I32 x3 → Inv g → ∃ (r1 : Int × AG) (r2 : Int × AG), X_log x1 x2 x3 g = some r1 ∧ M_log x1 x2 x3 r1.2 = some r2 ∧ nw (r1.1) = nw (r2.1) ∧ Inv (r2.2) := by
  intro x1 x2 x3 g h1 h2 h3 hI
  obtain ⟨iWay, iTrip, iBoat, iWgt, iPump, iJob, iCall, iTape, iLog, iYard, iRule, iWat, iHour, iStop, iFlag, iArr, iAlong, iFault, iRain, iQueue, iBook, iVal⟩ := hI
  obtain ⟨r1, r2, e1, e2, e3, nLog, f⟩ := sm_log (g := g) h1 h2 h3 iBoat.1 iLog
  exact ⟨r1, r2, e1, e2, e3, iWay.cg (f.cg rfl), iTrip.cg (f.cg rfl), iBoat.cg (f.cg rfl), iWgt.cg (f.cg rfl), iPump.cg (f.cg rfl), iJob.cg (f.cg rfl), iCall.cg (f.cg rfl), iTape.cg (f.cg rfl), nLog, iYard.cg (f.cg rfl), iRule.cg (f.cg rfl), iWat.cg (f.cg rfl), iHour.cg (f.cg rfl), iStop.cg (f.cg rfl), iFlag.cg (f.cg rfl), iArr.cg (f.cg rfl), iAlong.cg (f.cg rfl), iFault.cg (f.cg rfl), iRain.cg (f.cg rfl), iQueue.cg (f.cg rfl), iBook.cg (f.cg rfl), iVal.cg (f.cg rfl)⟩
theorem iv_could : ∀ (x1 x2 x3 x4 : Int) (g : AG), I32 x1 → I32 x2 → I32 x3 → I32 x4 → Inv g → ∃ (r1 : Int × AG) (r2 : Int × AG), X_could x1 x2 x3 x4 g = some r1 ∧ M_could x1 x2 x3 x4 r1.2 = some r2 ∧ nw (r1.1) = nw (r2.1) ∧ Inv (r2.2) := by
  intro x1 x2 x3 x4 g h1 h2 h3 h4 hI
  obtain ⟨iWay, iTrip, iBoat, iWgt, iPump, iJob, iCall, iTape, iLog, iYard, iRule, iWat, iHour, iStop, iFlag, iArr, iAlong, iFault, iRain, iQueue, iBook, iVal⟩ := hI
  obtain ⟨r1, r2, e1, e2, e3, f⟩ := sm_could (g := g) h1 h2 h3 h4 ⟨⟨iWay, iRule, iHour, iStop, iWat⟩, iBoat, iLog⟩ iFlag
  exact ⟨r1, r2, e1, e2, e3, iWay.cg (f.cg rfl), iTrip.cg (f.cg rfl), iBoat.cg (f.cg rfl), iWgt.cg (f.cg rfl), iPump.cg (f.cg rfl), iJob.cg (f.cg rfl), iCall.cg (f.cg rfl), iTape.cg (f.cg rfl), iLog.cg (f.cg rfl), iYard.cg (f.cg rfl), iRule.cg (f.cg rfl), iWat.cg (f.cg rfl), iHour.cg (f.cg rfl), iStop.cg (f.cg rfl), iFlag.cg (f.cg rfl), iArr.cg (f.cg rfl), iAlong.cg (f.cg rfl), iFault.cg (f.cg rfl), iRain.cg (f.cg rfl), iQueue.cg (f.cg rfl), iBook.cg (f.cg rfl), iVal.cg (f.cg rfl)⟩
theorem iv_whose : ∀ (x1 x2 x3 x4 : Int) (g : AG), I32 x1 → I32 x2 → I32 x3 → I32 x4 → Inv g → ∃ (r1 : Int × AG) (r2 : Int × AG), X_whose x1 x2 x3 x4 g = some r1 ∧ M_whose x1 x2 x3 x4 r1.2 = some r2 ∧ nw (r1.1) = nw (r2.1) ∧ Inv (r2.2) := by
  intro x1 x2 x3 x4 g h1 h2 h3 h4 hI
  obtain ⟨iWay, iTrip, iBoat, iWgt, iPump, iJob, iCall, iTape, iLog, iYard, iRule, iWat, iHour, iStop, iFlag, iArr, iAlong, iFault, iRain, iQueue, iBook, iVal⟩ := hI
  obtain ⟨r1, r2, e1, e2, e3, f⟩ := sm_whose (g := g) h1 h2 h3 h4 ⟨⟨iWay, iRule, iHour, iStop, iWat⟩, iBoat, iLog⟩ iFlag
  exact ⟨r1, r2, e1, e2, e3, iWay.cg (f.cg rfl), iTrip.cg (f.cg rfl), iBoat.cg (f.cg rfl), iWgt.cg (f.cg rfl), iPump.cg (f.cg rfl), iJob.cg (f.cg rfl), iCall.cg (f.cg rfl), iTape.cg (f.cg rfl), iLog.cg (f.cg rfl), iYard.cg (f.cg rfl), iRule.cg (f.cg rfl), iWat.cg (f.cg rfl), iHour.cg (f.cg rfl), iStop.cg (f.cg rfl), iFlag.cg (f.cg rfl), iArr.cg (f.cg rfl), iAlong.cg (f.cg rfl), iFault.cg (f.cg rfl), iRain.cg (f.cg rfl), iQueue.cg (f.cg rfl), iBook.cg (f.cg rfl), iVal.cg (f.cg rfl)⟩
theorem iv_tonight : ∀ (x1 x2 : Int) (g : AG), I32 x1 → I32 x2 → Inv g → ∃ (r1 : Int × AG) (r2 : Int × AG), X_tonight x1 x2 g = some r1 ∧ M_tonight x1 x2 r1.2 = some r2 ∧ nw (r1.1) = nw (r2.1) ∧ Inv (r2.2) := by
  intro x1 x2 g h1 h2 hI
  obtain ⟨iWay, iTrip, iBoat, iWgt, iPump, iJob, iCall, iTape, iLog, iYard, iRule, iWat, iHour, iStop, iFlag, iArr, iAlong, iFault, iRain, iQueue, iBook, iVal⟩ := hI
  obtain ⟨r1, r2, e1, e2, e3, f, nArr⟩ := sm_tonight (g := g) h1 h2 ⟨⟨iWay, iRule, iHour, iStop, iWat⟩, iBoat, iLog⟩ iFlag iArr
  exact ⟨r1, r2, e1, e2, e3, iWay.cg (f.cg rfl), iTrip.cg (f.cg rfl), iBoat.cg (f.cg rfl), iWgt.cg (f.cg rfl), iPump.cg (f.cg rfl), iJob.cg (f.cg rfl), iCall.cg (f.cg rfl), iTape.cg (f.cg rfl), iLog.cg (f.cg rfl), iYard.cg (f.cg rfl), iRule.cg (f.cg rfl), iWat.cg (f.cg rfl), iHour.cg (f.cg rfl), iStop.cg (f.cg rfl), iFlag.cg (f.cg rfl), nArr, iAlong.cg (f.cg rfl), iFault.cg (f.cg rfl), iRain.cg (f.cg rfl), iQueue.cg (f.cg rfl), iBook.cg (f.cg rfl), iVal.cg (f.cg rfl)⟩
theorem iv_queue : ∀ (x1 x2 : Int) (g : AG), I32 x1 → I32 x2 → Inv g → ∃ (r1 : Int × AG) (r2 : Int × AG), X_queue x1 x2 g = some r1 ∧ M_queue x1 x2 r1.2 = some r2 ∧ nw (r1.1) = nw (r2.1) ∧ Inv (r2.2) := by
  intro x1 x2 g h1 h2 hI
  obtain ⟨iWay, iTrip, iBoat, iWgt, iPump, iJob, iCall, iTape, iLog, iYard, iRule, iWat, iHour, iStop, iFlag, iArr, iAlong, iFault, iRain, iQueue, iBook, iVal⟩ := hI
  obtain ⟨r1, r2, e1, e2, e3, nQueue, f⟩ := sm_queue (g := g) h1 h2 iQueue
  exact ⟨r1, r2, e1, e2, e3, iWay.cg (f.cg rfl), iTrip.cg (f.cg rfl), iBoat.cg (f.cg rfl), iWgt.cg (f.cg rfl), iPump.cg (f.cg rfl), iJob.cg (f.cg rfl), iCall.cg (f.cg rfl), iTape.cg (f.cg rfl), iLog.cg (f.cg rfl), iYard.cg (f.cg rfl), iRule.cg (f.cg rfl), iWat.cg (f.cg rfl), iHour.cg (f.cg rfl), iStop.cg (f.cg rfl), iFlag.cg (f.cg rfl), iArr.cg (f.cg rfl), iAlong.cg (f.cg rfl), iFault.cg (f.cg rfl), iRain.cg (f.cg rfl), nQueue, iBook.cg (f.cg rfl), iVal.cg (f.cg rfl)⟩
theorem iv_lock : ∀ (x1 : Int) (g : AG), I32 x1 → Inv g → ∃ (v1 : Int) (r2 : Int × AG), X_lock x1 g = some v1 ∧ M_lock x1 g = some r2 ∧ nw (v1) = nw (r2.1) ∧ Inv (r2.2) := by
  intro x1 g h1 hI
  obtain ⟨iWay, iTrip, iBoat, iWgt, iPump, iJob, iCall, iTape, iLog, iYard, iRule, iWat, iHour, iStop, iFlag, iArr, iAlong, iFault, iRain, iQueue, iBook, iVal⟩ := hI
  obtain ⟨r1, r2, e1, e2, e3, f⟩ := sm_lock (g := g) h1 iQueue
  exact ⟨r1, r2, e1, e2, e3, iWay.cg (f.cg rfl), iTrip.cg (f.cg rfl), iBoat.cg (f.cg rfl), iWgt.cg (f.cg rfl), iPump.cg (f.cg rfl), iJob.cg (f.cg rfl), iCall.cg (f.cg rfl), iTape.cg (f.cg rfl), iLog.cg (f.cg rfl), iYard.cg (f.cg rfl), iRule.cg (f.cg rfl), iWat.cg (f.cg rfl), iHour.cg (f.cg rfl), iStop.cg (f.cg rfl), iFlag.cg (f.cg rfl), iArr.cg (f.cg rfl), iAlong.cg (f.cg rfl), iFault.cg (f.cg rfl), iRain.cg (f.cg rfl), iQueue.cg (f.cg rfl), iBook.cg (f.cg rfl), iVal.cg (f.cg rfl)⟩
theorem iv_booking : ∀ (x1 x2 x3 x4 : Int) (g : AG), I32 x1 → I32 x2 → I32 x3 → I32 x4 → Inv g → ∃ (r1 : Int × AG) (r2 : Int × AG), X_booking x1 x2 x3 x4 g = some r1 ∧ M_booking x1 x2 x3 x4 r1.2 = some r2 ∧ nw (r1.1) = nw (r2.1) ∧ Inv (r2.2) := by
  intro x1 x2 x3 x4 g h1 h2 h3 h4 hI
  obtain ⟨iWay, iTrip, iBoat, iWgt, iPump, iJob, iCall, iTape, iLog, iYard, iRule, iWat, iHour, iStop, iFlag, iArr, iAlong, iFault, iRain, iQueue, iBook, iVal⟩ := hI
  obtain ⟨r1, r2, e1, e2, e3, nBook, f⟩ := sm_booking (g := g) h1 h2 h3 h4 iBook
  exact ⟨r1, r2, e1, e2, e3, iWay.cg (f.cg rfl), iTrip.cg (f.cg rfl), iBoat.cg (f.cg rfl), iWgt.cg (f.cg rfl), iPump.cg (f.cg rfl), iJob.cg (f.cg rfl), iCall.cg (f.cg rfl), iTape.cg (f.cg rfl), iLog.cg (f.cg rfl), iYard.cg (f.cg rfl), iRule.cg (f.cg rfl), iWat.cg (f.cg rfl), iHour.cg (f.cg rfl), iStop.cg (f.cg rfl), iFlag.cg (f.cg rfl), iArr.cg (f.cg rfl), iAlong.cg (f.cg rfl), iFault.cg (f.cg rfl), iRain.cg (f.cg rfl), iQueue.cg (f.cg rfl), nBook, iVal.cg (f.cg rfl)⟩
theorem iv_given : ∀ (x1 x2 : Int) (g : AG), I32 x1 → I32 x2 → Inv g → ∃ (r1 : Int × AG) (r2 : Int × AG), X_given x1 x2 g = some r1 ∧ M_given x1 x2 r1.2 = some r2 ∧ nw (r1.1) = nw (r2.1) ∧ Inv (r2.2) := by
  intro x1 x2 g h1 h2 hI
  obtain ⟨iWay, iTrip, iBoat, iWgt, iPump, iJob, iCall, iTape, iLog, iYard, iRule, iWat, iHour, iStop, iFlag, iArr, iAlong, iFault, iRain, iQueue, iBook, iVal⟩ := hI
  obtain ⟨r1, r2, e1, e2, e3, nBook, f⟩ := sm_given (g := g) h1 h2 iBoat iBook
  exact ⟨r1, r2, e1, e2, e3, iWay.cg (f.cg rfl), iTrip.cg (f.cg rfl), iBoat.cg (f.cg rfl), iWgt.cg (f.cg rfl), iPump.cg (f.cg rfl), iJob.cg (f.cg rfl), iCall.cg (f.cg rfl), iTape.cg (f.cg rfl), iLog.cg (f.cg rfl), iYard.cg (f.cg rfl), iRule.cg (f.cg rfl), iWat.cg (f.cg rfl), iHour.cg (f.cg rfl), iStop.cg (f.cg rfl), iFlag.cg (f.cg rfl), iArr.cg (f.cg rfl), iAlong.cg (f.cg rfl), iFault.cg (f.cg rfl), iRain.cg (f.cg rfl), iQueue.cg (f.cg rfl), nBook, iVal.cg (f.cg rfl)⟩
theorem iv_more : ∀ (x1 x2 x3 : Int) (g : AG), I32 x1 → I32 x2 → I32 x3 → Inv g → ∃ (r1 : Int × AG) (r2 : Int × AG), X_more x1 x2 x3 g = some r1 ∧ M_more x1 x2 x3 r1.2 = some r2 ∧ nw (r1.1) = nw (r2.1) ∧ Inv (r2.2) := by
  intro x1 x2 x3 g h1 h2 h3 hI
  obtain ⟨iWay, iTrip, iBoat, iWgt, iPump, iJob, iCall, iTape, iLog, iYard, iRule, iWat, iHour, iStop, iFlag, iArr, iAlong, iFault, iRain, iQueue, iBook, iVal⟩ := hI
  obtain ⟨r1, r2, e1, e2, e3, nBook, f⟩ := sm_more (g := g) h1 h2 h3 iBoat iBook
  exact ⟨r1, r2, e1, e2, e3, iWay.cg (f.cg rfl), iTrip.cg (f.cg rfl), iBoat.cg (f.cg rfl), iWgt.cg (f.cg rfl), iPump.cg (f.cg rfl), iJob.cg (f.cg rfl), iCall.cg (f.cg rfl), iTape.cg (f.cg rfl), iLog.cg (f.cg rfl), iYard.cg (f.cg rfl), iRule.cg (f.cg rfl), iWat.cg (f.cg rfl), iHour.cg (f.cg rfl), iStop.cg (f.cg rfl), iFlag.cg (f.cg rfl), iArr.cg (f.cg rfl), iAlong.cg (f.cg rfl), iFault.cg (f.cg rfl), iRain.cg (f.cg rfl), iQueue.cg (f.cg rfl), nBook, iVal.cg (f.cg rfl)⟩
theorem iv_gas : ∀ (x1 x2 x3 : Int) (g : AG), I32 x1 → I32 x2 → I32 x3 → Inv g → ∃ (r1 : Int × AG) (r2 : Int × AG), X_gas x1 x2 x3 g = some r1 ∧ M_gas x1 x2 x3 r1.2 = some r2 ∧ ((x3 ≠ 0 ∨ sm (dkF g) 10 < 7) → nw (r1.1) = nw (r2.1)) ∧ Inv (r2.2) := by
  intro x1 x2 x3 g h1 h2 h3 hI
  obtain ⟨iWay, iTrip, iBoat, iWgt, iPump, iJob, iCall, iTape, iLog, iYard, iRule, iWat, iHour, iStop, iFlag, iArr, iAlong, iFault, iRain, iQueue, iBook, iVal⟩ := hI
  obtain ⟨r1, r2, e1, e2, e3, nYard, f⟩ := sm_gas (g := g) h1 h2 h3 iBoat.1 iYard
  exact ⟨r1, r2, e1, e2, e3, iWay.cg (f.cg rfl), iTrip.cg (f.cg rfl), iBoat.cg (f.cg rfl), iWgt.cg (f.cg rfl), iPump.cg (f.cg rfl), iJob.cg (f.cg rfl), iCall.cg (f.cg rfl), iTape.cg (f.cg rfl), iLog.cg (f.cg rfl), nYard, iRule.cg (f.cg rfl), iWat.cg (f.cg rfl), iHour.cg (f.cg rfl), iStop.cg (f.cg rfl), iFlag.cg (f.cg rfl), iArr.cg (f.cg rfl), iAlong.cg (f.cg rfl), iFault.cg (f.cg rfl), iRain.cg (f.cg rfl), iQueue.cg (f.cg rfl), iBook.cg (f.cg rfl), iVal.cg (f.cg rfl)⟩
theorem iv_dock : ∀ (x1 : Int) (g : AG), I32 x1 → Inv g → ∃ (r1 : Int × AG) (r2 : Int × AG), X_dock x1 g = some r1 ∧ M_dock x1 r1.2 = some r2 ∧ nw (r1.1) = nw (r2.1) ∧ Inv (r2.2) := by
  intro x1 g h1 hI
  obtain ⟨iWay, iTrip, iBoat, iWgt, iPump, iJob, iCall, iTape, iLog, iYard, iRule, iWat, iHour, iStop, iFlag, iArr, iAlong, iFault, iRain, iQueue, iBook, iVal⟩ := hI
  obtain ⟨r1, r2, e1, e2, e3, f⟩ := sm_dock (g := g) h1 iBoat.1 iYard
  exact ⟨r1, r2, e1, e2, e3, iWay.cg (f.cg rfl), iTrip.cg (f.cg rfl), iBoat.cg (f.cg rfl), iWgt.cg (f.cg rfl), iPump.cg (f.cg rfl), iJob.cg (f.cg rfl), iCall.cg (f.cg rfl), iTape.cg (f.cg rfl), iLog.cg (f.cg rfl), iYard.cg (f.cg rfl), iRule.cg (f.cg rfl), iWat.cg (f.cg rfl), iHour.cg (f.cg rfl), iStop.cg (f.cg rfl), iFlag.cg (f.cg rfl), iArr.cg (f.cg rfl), iAlong.cg (f.cg rfl), iFault.cg (f.cg rfl), iRain.cg (f.cg rfl), iQueue.cg (f.cg rfl), iBook.cg (f.cg rfl), iVal.cg (f.cg rfl)⟩
theorem iv_job : ∀ (x1 : Int) (g : AG), I32 x1 → Inv g → ∃ (r1 : Int × AG) (r2 : Int × AG), X_job x1 g = some r1 ∧ M_job x1 r1.2 = some r2 ∧ nw (r1.1) = nw (r2.1) ∧ Inv (r2.2) := by
  intro x1 g h1 hI
  obtain ⟨iWay, iTrip, iBoat, iWgt, iPump, iJob, iCall, iTape, iLog, iYard, iRule, iWat, iHour, iStop, iFlag, iArr, iAlong, iFault, iRain, iQueue, iBook, iVal⟩ := hI
  obtain ⟨r1, r2, e1, e2, e3, nJob, f⟩ := sm_job (g := g) h1 iJob
  exact ⟨r1, r2, e1, e2, e3, iWay.cg (f.cg rfl), iTrip.cg (f.cg rfl), iBoat.cg (f.cg rfl), iWgt.cg (f.cg rfl), iPump.cg (f.cg rfl), nJob, iCall.cg (f.cg rfl), iTape.cg (f.cg rfl), iLog.cg (f.cg rfl), iYard.cg (f.cg rfl), iRule.cg (f.cg rfl), iWat.cg (f.cg rfl), iHour.cg (f.cg rfl), iStop.cg (f.cg rfl), iFlag.cg (f.cg rfl), iArr.cg (f.cg rfl), iAlong.cg (f.cg rfl), iFault.cg (f.cg rfl), iRain.cg (f.cg rfl), iQueue.cg (f.cg rfl), iBook.cg (f.cg rfl), iVal.cg (f.cg rfl)⟩
theorem iv_turned : ∀ (x1 x2 : Int) (g : AG), I32 x1 → I32 x2 → Inv g → ∃ (r1 : Int × AG) (r2 : Int × AG), X_turned x1 x2 g = some r1 ∧ M_turned x1 x2 r1.2 = some r2 ∧ nw (r1.1) = nw (r2.1) ∧ Inv (r2.2) := by
  intro x1 x2 g h1 h2 hI
  obtain ⟨iWay, iTrip, iBoat, iWgt, iPump, iJob, iCall, iTape, iLog, iYard, iRule, iWat, iHour, iStop, iFlag, iArr, iAlong, iFault, iRain, iQueue, iBook, iVal⟩ := hI
  obtain ⟨r1, r2, e1, e2, e3, f⟩ := sm_turned (g := g) h1 h2 iJob
  exact ⟨r1, r2, e1, e2, e3, iWay.cg (f.cg rfl), iTrip.cg (f.cg rfl), iBoat.cg (f.cg rfl), iWgt.cg (f.cg rfl), iPump.cg (f.cg rfl), iJob.cg (f.cg rfl), iCall.cg (f.cg rfl), iTape.cg (f.cg rfl), iLog.cg (f.cg rfl), iYard.cg (f.cg rfl), iRule.cg (f.cg rfl), iWat.cg (f.cg rfl), iHour.cg (f.cg rfl), iStop.cg (f.cg rfl), iFlag.cg (f.cg rfl), iArr.cg (f.cg rfl), iAlong.cg (f.cg rfl), iFault.cg (f.cg rfl), iRain.cg (f.cg rfl), iQueue.cg (f.cg rfl), iBook.cg (f.cg rfl), iVal.cg (f.cg rfl)⟩
theorem iv_weight : ∀ (x1 x2 : Int) (g : AG), I32 x1 → I32 x2 → Inv g → ∃ (r1 : Int × AG) (r2 : Int × AG), X_weight x1 x2 g = some r1 ∧ M_weight x1 x2 r1.2 = some r2 ∧ nw (r1.1) = nw (r2.1) ∧ Inv (r2.2) := by
  intro x1 x2 g h1 h2 hI
  obtain ⟨iWay, iTrip, iBoat, iWgt, iPump, iJob, iCall, iTape, iLog, iYard, iRule, iWat, iHour, iStop, iFlag, iArr, iAlong, iFault, iRain, iQueue, iBook, iVal⟩ := hI
  obtain ⟨r1, r2, e1, e2, e3, nWgt, f⟩ := sm_weight (g := g) h1 h2 iWgt
  exact ⟨r1, r2, e1, e2, e3, iWay.cg (f.cg rfl), iTrip.cg (f.cg rfl), iBoat.cg (f.cg rfl), nWgt, iPump.cg (f.cg rfl), iJob.cg (f.cg rfl), iCall.cg (f.cg rfl), iTape.cg (f.cg rfl), iLog.cg (f.cg rfl), iYard.cg (f.cg rfl), iRule.cg (f.cg rfl), iWat.cg (f.cg rfl), iHour.cg (f.cg rfl), iStop.cg (f.cg rfl), iFlag.cg (f.cg rfl), iArr.cg (f.cg rfl), iAlong.cg (f.cg rfl), iFault.cg (f.cg rfl), iRain.cg (f.cg rfl), iQueue.cg (f.cg rfl), iBook.cg (f.cg rfl), iVal.cg (f.cg rfl)⟩
theorem iv_van : ∀ (x1 : Int) (g : AG), I32 x1 → Inv g → ∃ (r1 : Int × AG) (v2 : Int), X_van x1 g = some r1 ∧ M_van x1 r1.2 = some v2 ∧ nw (r1.1) = nw (v2) ∧ Inv (r1.2) := by
  intro x1 g h1 hI
  obtain ⟨iWay, iTrip, iBoat, iWgt, iPump, iJob, iCall, iTape, iLog, iYard, iRule, iWat, iHour, iStop, iFlag, iArr, iAlong, iFault, iRain, iQueue, iBook, iVal⟩ := hI
  obtain ⟨r1, r2, e1, e2, e3, f, nAlong⟩ := sm_van (g := g) h1 iWay iWgt iAlong
  exact ⟨r1, r2, e1, e2, e3, iWay.cg (f.cg rfl), iTrip.cg (f.cg rfl), iBoat.cg (f.cg rfl), iWgt.cg (f.cg rfl), iPump.cg (f.cg rfl), iJob.cg (f.cg rfl), iCall.cg (f.cg rfl), iTape.cg (f.cg rfl), iLog.cg (f.cg rfl), iYard.cg (f.cg rfl), iRule.cg (f.cg rfl), iWat.cg (f.cg rfl), iHour.cg (f.cg rfl), iStop.cg (f.cg rfl), iFlag.cg (f.cg rfl), iArr.cg (f.cg rfl), nAlong, iFault.cg (f.cg rfl), iRain.cg (f.cg rfl), iQueue.cg (f.cg rfl), iBook.cg (f.cg rfl), iVal.cg (f.cg rfl)⟩
theorem iv_vans : ∀ (x1 : Int) (g : AG), I32 x1 → Inv g → ∃ (r1 : Int × AG) (v2 : Int), X_vans x1 g = some r1 ∧ M_vans x1 r1.2 = some v2 ∧ nw (r1.1) = nw (v2) ∧ Inv (r1.2) := by
  intro x1 g h1 hI
  obtain ⟨iWay, iTrip, iBoat, iWgt, iPump, iJob, iCall, iTape, iLog, iYard, iRule, iWat, iHour, iStop, iFlag, iArr, iAlong, iFault, iRain, iQueue, iBook, iVal⟩ := hI
  obtain ⟨r1, r2, e1, e2, e3, f, nAlong⟩ := sm_vans (g := g) h1 iWay iWgt iAlong
  exact ⟨r1, r2, e1, e2, e3, iWay.cg (f.cg rfl), iTrip.cg (f.cg rfl), iBoat.cg (f.cg rfl), iWgt.cg (f.cg rfl), iPump.cg (f.cg rfl), iJob.cg (f.cg rfl), iCall.cg (f.cg rfl), iTape.cg (f.cg rfl), iLog.cg (f.cg rfl), iYard.cg (f.cg rfl), iRule.cg (f.cg rfl), iWat.cg (f.cg rfl), iHour.cg (f.cg rfl), iStop.cg (f.cg rfl), iFlag.cg (f.cg rfl), iArr.cg (f.cg rfl), nAlong, iFault.cg (f.cg rfl), iRain.cg (f.cg rfl), iQueue.cg (f.cg rfl), iBook.cg (f.cg rfl), iVal.cg (f.cg rfl)⟩
theorem iv_call : ∀ (x1 x2 x3 : Int) (g : AG), I32 x1 → I32 x2 → I32 x3 → Inv g → ∃ (r1 : Int × AG) (r2 : Int × AG), X_call x1 x2 x3 g = some r1 ∧ M_call x1 x2 x3 r1.2 = some r2 ∧ nw (r1.1) = nw (r2.1) ∧ Inv (r2.2) := by
  intro x1 x2 x3 g h1 h2 h3 hI
  obtain ⟨iWay, iTrip, iBoat, iWgt, iPump, iJob, iCall, iTape, iLog, iYard, iRule, iWat, iHour, iStop, iFlag, iArr, iAlong, iFault, iRain, iQueue, iBook, iVal⟩ := hI
  obtain ⟨r1, r2, e1, e2, e3, nCall, f⟩ := sm_call (g := g) h1 h2 h3 iCall
  exact ⟨r1, r2, e1, e2, e3, iWay.cg (f.cg rfl), iTrip.cg (f.cg rfl), iBoat.cg (f.cg rfl), iWgt.cg (f.cg rfl), iPump.cg (f.cg rfl), iJob.cg (f.cg rfl), nCall, iTape.cg (f.cg rfl), iLog.cg (f.cg rfl), iYard.cg (f.cg rfl), iRule.cg (f.cg rfl), iWat.cg (f.cg rfl), iHour.cg (f.cg rfl), iStop.cg (f.cg rfl), iFlag.cg (f.cg rfl), iArr.cg (f.cg rfl), iAlong.cg (f.cg rfl), iFault.cg (f.cg rfl), iRain.cg (f.cg rfl), iQueue.cg (f.cg rfl), iBook.cg (f.cg rfl), iVal.cg (f.cg rfl)⟩
theorem iv_taken : ∀ (x1 x2 x3 : Int) (g : AG), I32 x1 → I32 x2 → I32 x3 → Inv g → ∃ (r1 : Int × AG) (r2 : Int × AG), X_taken x1 x2 x3 g = some r1 ∧ M_taken x1 x2 x3 r1.2 = some r2 ∧ nw (r1.1) = nw (r2.1) ∧ Inv (r2.2) := by
  intro x1 x2 x3 g h1 h2 h3 hI
  obtain ⟨iWay, iTrip, iBoat, iWgt, iPump, iJob, iCall, iTape, iLog, iYard, iRule, iWat, iHour, iStop, iFlag, iArr, iAlong, iFault, iRain, iQueue, iBook, iVal⟩ := hI
  obtain ⟨r1, r2, e1, e2, e3, f, nAlong⟩ := sm_taken (g := g) h1 h2 h3 iWay iCall iAlong
  exact ⟨r1, r2, e1, e2, e3, iWay.cg (f.cg rfl), iTrip.cg (f.cg rfl), iBoat.cg (f.cg rfl), iWgt.cg (f.cg rfl), iPump.cg (f.cg rfl), iJob.cg (f.cg rfl), iCall.cg (f.cg rfl), iTape.cg (f.cg rfl), iLog.cg (f.cg rfl), iYard.cg (f.cg rfl), iRule.cg (f.cg rfl), iWat.cg (f.cg rfl), iHour.cg (f.cg rfl), iStop.cg (f.cg rfl), iFlag.cg (f.cg rfl), iArr.cg (f.cg rfl), nAlong, iFault.cg (f.cg rfl), iRain.cg (f.cg rfl), iQueue.cg (f.cg rfl), iBook.cg (f.cg rfl), iVal.cg (f.cg rfl)⟩
theorem iv_left : ∀ (x1 x2 x3 x4 x5 : Int) (g : AG), I32 x1 → I32 x2 → I32 x3 → I32 x4 → I32 x5 → Inv g → ∃ (r1 : Int × AG) (r2 : Int × AG), X_left x1 x2 x3 x4 x5 g = some r1 ∧ M_left x1 x2 x3 x4 x5 r1.2 = some r2 ∧ nw (r1.1) = nw (r2.1) ∧ Inv (r2.2) := by
  intro x1 x2 x3 x4 x5 g h1 h2 h3 h4 h5 hI
  obtain ⟨iWay, iTrip, iBoat, iWgt, iPump, iJob, iCall, iTape, iLog, iYard, iRule, iWat, iHour, iStop, iFlag, iArr, iAlong, iFault, iRain, iQueue, iBook, iVal⟩ := hI
  obtain ⟨r1, r2, e1, e2, e3, f, nRain⟩ := sm_left (g := g) h1 h2 h3 h4 h5 iWat iRain
  exact ⟨r1, r2, e1, e2, e3, iWay.cg (f.cg rfl), iTrip.cg (f.cg rfl), iBoat.cg (f.cg rfl), iWgt.cg (f.cg rfl), iPump.cg (f.cg rfl), iJob.cg (f.cg rfl), iCall.cg (f.cg rfl), iTape.cg (f.cg rfl), iLog.cg (f.cg rfl), iYard.cg (f.cg rfl), iRule.cg (f.cg rfl), iWat.cg (f.cg rfl), iHour.cg (f.cg rfl), iStop.cg (f.cg rfl), iFlag.cg (f.cg rfl), iArr.cg (f.cg rfl), iAlong.cg (f.cg rfl), iFault.cg (f.cg rfl), nRain, iQueue.cg (f.cg rfl), iBook.cg (f.cg rfl), iVal.cg (f.cg rfl)⟩
theorem iv_shuts : ∀ (x1 x2 x3 x4 : Int) (g : AG), I32 x1 → I32 x2 → I32 x3 → I32 x4 → Inv g → ∃ (r1 : Int × AG) (r2 : Int × AG), X_shuts x1 x2 x3 x4 g = some r1 ∧ M_shuts x1 x2 x3 x4 r1.2 = some r2 ∧ nw (r1.1) = nw (r2.1) ∧ Inv (r2.2) := by
  intro x1 x2 x3 x4 g h1 h2 h3 h4 hI
  obtain ⟨iWay, iTrip, iBoat, iWgt, iPump, iJob, iCall, iTape, iLog, iYard, iRule, iWat, iHour, iStop, iFlag, iArr, iAlong, iFault, iRain, iQueue, iBook, iVal⟩ := hI
  obtain ⟨r1, r2, e1, e2, e3, f, nRain⟩ := sm_shuts (g := g) h1 h2 h3 h4 iWat iRain
  exact ⟨r1, r2, e1, e2, e3, iWay.cg (f.cg rfl), iTrip.cg (f.cg rfl), iBoat.cg (f.cg rfl), iWgt.cg (f.cg rfl), iPump.cg (f.cg rfl), iJob.cg (f.cg rfl), iCall.cg (f.cg rfl), iTape.cg (f.cg rfl), iLog.cg (f.cg rfl), iYard.cg (f.cg rfl), iRule.cg (f.cg rfl), iWat.cg (f.cg rfl), iHour.cg (f.cg rfl), iStop.cg (f.cg rfl), iFlag.cg (f.cg rfl), iArr.cg (f.cg rfl), iAlong.cg (f.cg rfl), iFault.cg (f.cg rfl), nRain, iQueue.cg (f.cg rfl), iBook.cg (f.cg rfl), iVal.cg (f.cg rfl)⟩
theorem iv_price : ∀ (x1 x2 x3 : Int) (g : AG), I32 x1 → I32 x2 → (x3 = 0 ∨ x3 = 1) → Inv g → ∃ (r1 : Int × AG) (r2 : Int × AG), X_price x1 x2 x3 g = some r1 ∧ M_price x1 x2 x3 r1.2 = some r2 ∧ nw (r1.1) = nw (r2.1) ∧ Inv (r2.2) := by
  intro x1 x2 x3 g h1 h2 h3 hI
  obtain ⟨iWay, iTrip, iBoat, iWgt, iPump, iJob, iCall, iTape, iLog, iYard, iRule, iWat, iHour, iStop, iFlag, iArr, iAlong, iFault, iRain, iQueue, iBook, iVal⟩ := hI
  obtain ⟨r1, r2, e1, e2, e3, f⟩ := sm_price (g := g) h1 h2 h3 iRule iBoat.1 iBoat.2.1
  exact ⟨r1, r2, e1, e2, e3, iWay.cg (f.cg rfl), iTrip.cg (f.cg rfl), iBoat.cg (f.cg rfl), iWgt.cg (f.cg rfl), iPump.cg (f.cg rfl), iJob.cg (f.cg rfl), iCall.cg (f.cg rfl), iTape.cg (f.cg rfl), iLog.cg (f.cg rfl), iYard.cg (f.cg rfl), iRule.cg (f.cg rfl), iWat.cg (f.cg rfl), iHour.cg (f.cg rfl), iStop.cg (f.cg rfl), iFlag.cg (f.cg rfl), iArr.cg (f.cg rfl), iAlong.cg (f.cg rfl), iFault.cg (f.cg rfl), iRain.cg (f.cg rfl), iQueue.cg (f.cg rfl), iBook.cg (f.cg rfl), iVal.cg (f.cg rfl)⟩
theorem iv_held : ∀ (x1 x2 x3 x4 : Int) (g : AG), I32 x1 → I32 x2 → I32 x3 → I32 x4 → Inv g → ∃ (r1 : Int × AG) (r2 : Int × AG), X_held x1 x2 x3 x4 g = some r1 ∧ M_held x1 x2 x3 x4 r1.2 = some r2 ∧ nw (r1.1) = nw (r2.1) ∧ Inv (r2.2) := by
  intro x1 x2 x3 x4 g h1 h2 h3 h4 hI
  obtain ⟨iWay, iTrip, iBoat, iWgt, iPump, iJob, iCall, iTape, iLog, iYard, iRule, iWat, iHour, iStop, iFlag, iArr, iAlong, iFault, iRain, iQueue, iBook, iVal⟩ := hI
  obtain ⟨r1, r2, e1, e2, e3, f⟩ := sm_held (g := g) h1 h2 h3 h4 iRule iBoat.1 iBoat.2.1
  exact ⟨r1, r2, e1, e2, e3, iWay.cg (f.cg rfl), iTrip.cg (f.cg rfl), iBoat.cg (f.cg rfl), iWgt.cg (f.cg rfl), iPump.cg (f.cg rfl), iJob.cg (f.cg rfl), iCall.cg (f.cg rfl), iTape.cg (f.cg rfl), iLog.cg (f.cg rfl), iYard.cg (f.cg rfl), iRule.cg (f.cg rfl), iWat.cg (f.cg rfl), iHour.cg (f.cg rfl), iStop.cg (f.cg rfl), iFlag.cg (f.cg rfl), iArr.cg (f.cg rfl), iAlong.cg (f.cg rfl), iFault.cg (f.cg rfl), iRain.cg (f.cg rfl), iQueue.cg (f.cg rfl), iBook.cg (f.cg rfl), iVal.cg (f.cg rfl)⟩
theorem iv_look : ∀ (x1 : Int) (g : AG), I32 x1 → Inv g → nw (X_look x1 g) = nw (M_look x1 g) ∧ Inv g := by
  intro x1 g _ hI
  have hI0 := hI
  obtain ⟨iWay, iTrip, iBoat, iWgt, iPump, iJob, iCall, iTape, iLog, iYard, iRule, iWat, iHour, iStop, iFlag, iArr, iAlong, iFault, iRain, iQueue, iBook, iVal⟩ := hI
  obtain ⟨bc, bo, bb⟩ := iBook
  obtain ⟨qc, qq⟩ := iQueue
  exact ⟨sm_look iBoat.1.1 iTrip.1.1 (bb.2.2.1.trans bb.2.1.symm) iJob.1.1 (qq.2.2.1.trans qq.2.1.symm) iStop.1 iWat.1 iCall.1.1, hI0⟩
