/-! every call, as the law makes it -/
def Inv1 (g : AG) : Prop := Inv g ∧ sm (dkF g) 10 < 7
theorem iw_stretch : Sim_stretch Inv1 Inv := fun x1 x2 x3 x4 g h1 h2 h3 h4 hI => iv_stretch x1 x2 x3 x4 g h1 h2 h3 h4 hI.1
theorem iw_water : Sim_water Inv1 Inv := fun x1 g h1 hI => iv_water x1 g h1 hI.1
theorem iw_stoppage : Sim_stoppage Inv1 Inv := fun x1 x2 x3 g h1 h2 h3 hI => iv_stoppage x1 x2 x3 g h1 h2 h3 hI.1
theorem iw_boat : Sim_boat Inv1 Inv := fun x1 x2 x3 x4 g h1 h2 h3 h4 hI => iv_boat x1 x2 x3 x4 g h1 h2 h3 h4 hI.1
theorem iw_feed : Sim_feed Inv1 Inv := fun x1 x2 x3 x4 x5 g h1 h2 h3 h4 h5 hI => iv_feed x1 x2 x3 x4 x5 g h1 h2 h3 h4 h5 hI.1
theorem iw_end : Sim_end Inv1 Inv := fun x1 g h1 hI => iv_end x1 g h1 hI.1
theorem iw_rules : Sim_rules Inv1 Inv := fun  g  hI => iv_rules  g  hI.1
theorem iw_fault : Sim_fault Inv1 Inv := fun x1 g h1 hI => iv_fault x1 g h1 hI.1
theorem iw_open : Sim_open Inv1 Inv := fun x1 x2 g h1 h2 hI => iv_open x1 x2 g h1 h2 hI.1
theorem iw_comes : Sim_comes Inv1 Inv := fun x1 x2 x3 x4 g h1 h2 h3 h4 hI => iv_comes x1 x2 x3 x4 g h1 h2 h3 h4 hI.1
theorem iw_maybe : Sim_maybe Inv1 Inv := fun x1 x2 x3 x4 g h1 h2 h3 h4 hI => iv_maybe x1 x2 x3 x4 g h1 h2 h3 h4 hI.1
theorem iw_harm : Sim_harm Inv1 Inv := fun x1 x2 x3 x4 g h1 h2 h3 h4 hI => iv_harm x1 x2 x3 x4 g h1 h2 h3 h4 hI.1
theorem iw_back : Sim_back Inv1 Inv := fun x1 x2 g h1 h2 hI => iv_back x1 x2 g h1 h2 hI.1
theorem iw_rung : Sim_rung Inv1 Inv := fun  g  hI => iv_rung  g  hI.1
theorem iw_pump : Sim_pump Inv1 Inv := fun x1 x2 g h1 h2 hI => iv_pump x1 x2 g h1 h2 hI.1
theorem iw_pumped : Sim_pumped Inv1 Inv := fun x1 x2 x3 x4 x5 g h1 h2 h3 h4 h5 hI => iv_pumped x1 x2 x3 x4 x5 g h1 h2 h3 h4 h5 hI.1
theorem iw_enough : Sim_enough Inv1 Inv := fun x1 x2 x3 x4 x5 g h1 h2 h3 h4 h5 hI => iv_enough x1 x2 x3 x4 x5 g h1 h2 h3 h4 h5 hI.1
theorem iw_trip : Sim_trip Inv1 Inv := fun x1 x2 x3 x4 x5 g h1 h2 h3 h4 h5 hI => iv_trip x1 x2 x3 x4 x5 g h1 h2 h3 h4 h5 hI.1
theorem iw_late : Sim_late Inv1 Inv := fun x1 g h1 hI => iv_late x1 g h1 hI.1
theorem iw_log : Sim_log Inv1 Inv := fun x1 x2 x3 g h1 h2 h3 hI => iv_log x1 x2 x3 g h1 h2 h3 hI.1
theorem iw_could : Sim_could Inv1 Inv := fun x1 x2 x3 x4 g h1 h2 h3 h4 hI => iv_could x1 x2 x3 x4 g h1 h2 h3 h4 hI.1
theorem iw_whose : Sim_whose Inv1 Inv := fun x1 x2 x3 x4 g h1 h2 h3 h4 hI => iv_whose x1 x2 x3 x4 g h1 h2 h3 h4 hI.1
theorem iw_tonight : Sim_tonight Inv1 Inv := fun x1 x2 g h1 h2 hI => iv_tonight x1 x2 g h1 h2 hI.1
theorem iw_queue : Sim_queue Inv1 Inv := fun x1 x2 g h1 h2 hI => iv_queue x1 x2 g h1 h2 hI.1
theorem iw_lock : Sim_lock Inv1 Inv := fun x1 g h1 hI => iv_lock x1 g h1 hI.1
theorem iw_booking : Sim_booking Inv1 Inv := fun x1 x2 x3 x4 g h1 h2 h3 h4 hI => iv_booking x1 x2 x3 x4 g h1 h2 h3 h4 hI.1
theorem iw_given : Sim_given Inv1 Inv := fun x1 x2 g h1 h2 hI => iv_given x1 x2 g h1 h2 hI.1
theorem iw_more : Sim_more Inv1 Inv := fun x1 x2 x3 g h1 h2 h3 hI => iv_more x1 x2 x3 g h1 h2 h3 hI.1
theorem iw_gas : Sim_gas Inv1 Inv := fun x1 x2 x3 g h1 h2 h3 hI => by
  obtain ⟨r1, r2, e1, e2, hv, hI2⟩ := iv_gas x1 x2 x3 g h1 h2 h3 hI.1
  exact ⟨r1, r2, e1, e2, hv (Or.inr hI.2), hI2⟩
theorem iw_dock : Sim_dock Inv1 Inv := fun x1 g h1 hI => iv_dock x1 g h1 hI.1
theorem iw_job : Sim_job Inv1 Inv := fun x1 g h1 hI => iv_job x1 g h1 hI.1
theorem iw_turned : Sim_turned Inv1 Inv := fun x1 x2 g h1 h2 hI => iv_turned x1 x2 g h1 h2 hI.1
theorem iw_weight : Sim_weight Inv1 Inv := fun x1 x2 g h1 h2 hI => iv_weight x1 x2 g h1 h2 hI.1
theorem iw_van : Sim_van Inv1 Inv := fun x1 g h1 hI => iv_van x1 g h1 hI.1
theorem iw_vans : Sim_vans Inv1 Inv := fun x1 g h1 hI => iv_vans x1 g h1 hI.1
theorem iw_call : Sim_call Inv1 Inv := fun x1 x2 x3 g h1 h2 h3 hI => iv_call x1 x2 x3 g h1 h2 h3 hI.1
theorem iw_taken : Sim_taken Inv1 Inv := fun x1 x2 x3 g h1 h2 h3 hI => iv_taken x1 x2 x3 g h1 h2 h3 hI.1
theorem iw_left : Sim_left Inv1 Inv := fun x1 x2 x3 x4 x5 g h1 h2 h3 h4 h5 hI => iv_left x1 x2 x3 x4 x5 g h1 h2 h3 h4 h5 hI.1
theorem iw_shuts : Sim_shuts Inv1 Inv := fun x1 x2 x3 x4 g h1 h2 h3 h4 hI => iv_shuts x1 x2 x3 x4 g h1 h2 h3 h4 hI.1
theorem iw_price : Sim_price Inv1 Inv := fun x1 x2 x3 g h1 h2 h3 hI => iv_price x1 x2 x3 g h1 h2 h3 hI.1
theorem iw_held : Sim_held Inv1 Inv := fun x1 x2 x3 x4 g h1 h2 h3 h4 hI => iv_held x1 x2 x3 x4 g h1 h2 h3 h4 hI.1
theorem iw_look : Sim_look Inv1 Inv := fun x1 g h1 hI => iv_look x1 g h1 hI.1
theorem sims_all : Sims Inv1 Inv := ⟨iw_stretch, iw_water, iw_stoppage, iw_boat, iw_feed, iw_end, iw_rules, iw_fault, iw_open, iw_comes, iw_maybe, iw_harm, iw_back, iw_rung, iw_pump, iw_pumped, iw_enough, iw_trip, iw_late, iw_log, iw_could, iw_whose, iw_tonight, iw_queue, iw_lock, iw_booking, iw_given, iw_more, iw_gas, iw_dock, iw_job, iw_turned, iw_weight, iw_van, iw_vans, iw_call, iw_taken, iw_left, iw_shuts, iw_price, iw_held, iw_look⟩
theorem inv1_g00 : Inv1 g00 := ⟨inv_g00, by
  rw [sm_cg (h := fun _ => 0) 10 (fun i _ => by simp [dkF, g00]), sm_z]
  omega⟩
