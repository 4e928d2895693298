/-! what lies there at the start; all that holds of it -/
def g00 : AG := fun k i =>
  if k = 13 ∨ k = 118 then (if i < 15 then 1 else 0)
  else if k = 15 ∨ k = 120 then (if i < 15 then 5 else 0)
  else if k = 45 then (if i < 14 then 24 else 0)
  else if k = 1 then (if i = 5 then 500 else 0)
  else if k = 117 then (if i = 10 then 500 else if i = 46 then -1 else 0)
  else if k = 4 then (if i = 8 then -1 else 0)
  else if k = 12 then (if i = 0 then 115 else if i = 1 then 116 else 0)
  else 0
theorem z_way : JWay g00 := by
  intro i hi
  have a : g00 13 i = 1 := by simp [g00, hi]
  have b : g00 118 i = 1 := by simp [g00, hi]
  have c : g00 15 i = 5 := by simp [g00, hi]
  have d : g00 120 i = 5 := by simp [g00, hi]
  have e : g00 14 i = 0 := by simp [g00]
  have f : g00 119 i = 0 := by simp [g00]
  rw [a, b, c, d, e, f]
  omega
theorem z_trip : JTrip g00 := by
  have n : g00 7 8 = 0 := by simp [g00]
  refine ⟨⟨by simp [g00], by simp [g00], by simp [g00]⟩, fun k _ => by simp [g00], fun k hk => ?_⟩
  rw [n] at hk
  omega
theorem z_boat : JBoat g00 := by
  have n : g00 6 7 = 0 := by simp [g00]
  refine ⟨⟨by simp [g00], by simp [g00], by simp [g00]⟩, fun k _ => by simp [g00], fun k hk => ?_⟩
  rw [n] at hk
  omega
theorem z_wgt : JWgt g00 := by
  intro p _
  simp [g00]
theorem z_pump : JPump g00 := by
  intro p _
  have a : g00 1 6 = 0 := by simp [g00]
  have b : g00 154 p = 0 := by simp [g00]
  rw [a, b, tb_0]
  rfl
theorem z_job : JJob g00 := by
  have n : g00 10 7 = 0 := by simp [g00]
  refine ⟨⟨by simp [g00], by simp [g00], by simp [g00]⟩, fun k hk => ?_⟩
  rw [n] at hk
  omega
theorem z_call : JCall g00 := by
  have n : g00 11 5 = 0 := by simp [g00]
  refine ⟨⟨by simp [g00], by simp [g00], by simp [g00]⟩, fun k hk => ?_⟩
  rw [n] at hk
  omega
theorem z_tape : JTape g00 := by
  have n : g00 4 2 = 0 := by simp [g00]
  refine ⟨⟨by simp [g00], by simp [g00], by simp [g00]⟩, fun k hk => ?_⟩
  rw [n] at hk
  omega
theorem z_log : JLog g00 := by
  have n : ∀ b, g00 74 b = 0 := fun b => by simp [g00]
  refine ⟨fun b _ => by simp [g00], fun b j _ hj => ?_⟩
  rw [n] at hj
  omega
theorem z_yard : JYard g00 := by
  refine ⟨fun b _ => by simp [g00], fun b _ _ => by simp [g00], ?_⟩
  rw [sm_cg (h := fun _ => 0) 10 (fun i _ => by simp [dkF, g00]), sm_z]
  omega
theorem z_rule : JRule g00 := by
  have n : g00 2 3 = 0 := by simp [g00]
  have m : g00 2 10 = 0 := by simp [g00]
  refine ⟨⟨by simp [g00], by simp [g00], by simp [g00]⟩, fun k _ => by simp [g00, I32], fun l hl => ?_, fun l hl => ?_, fun l hl => ?_, fun l hl => ?_, fun l hl => ?_, fun i _ => ?_⟩
  · rw [n] at hl; omega
  · rw [n] at hl; omega
  · rw [n] at hl; omega
  · rw [n] at hl; omega
  · rw [n] at hl; omega
  · rw [m, tb_0, tb_0]
    have z : ∀ j, g00 144 j = 0 ∧ g00 142 j = 0 ∧ g00 25 j = 0 ∧ g00 26 j = 0 := fun j => by simp [g00]
    rw [(z _).1, (z _).2.1, (z _).2.1, (z _).2.2.1, (z _).2.2.2, (z (2 * i + 1)).1, (z _).2.1, (z _).2.1, (z (15 + i)).2.2.1, (z (15 + i)).2.2.2]
    exact ⟨⟨rfl, fun h => absurd h (by decide), fun _ => ⟨rfl, rfl⟩, by omega, by omega⟩, ⟨rfl, fun h => absurd h (by decide), fun _ => ⟨rfl, rfl⟩, by omega, by omega⟩⟩
theorem z_wat : JWat g00 := ⟨by simp [g00], by simp [g00], by simp [g00]⟩
theorem z_hour : JHour g00 := by
  intro d hd
  have n : g00 2 3 = 0 := by simp [g00]
  have s : ∀ w, srvG g00 (fcDay d w) 0 (g00 2 3).toNat 0 = -1 := fun w => by rw [n]; rfl
  unfold hrA hrB
  rw [s, if_pos rfl, if_pos rfl]
  exact ⟨by simp [g00], by simp [g00, hd]⟩
theorem stpN_0 {a f t : Nat → Int} {i d : Int} {s : Nat} : stpN a f t i d 0 s = false := rfl
theorem z_stop : JStop g00 := by
  have n : g00 117 11 = 0 := by simp [g00]
  refine ⟨by simp [g00], ⟨by rw [n]; omega, fun s hs => ?_⟩, fun i d _ _ => ?_⟩
  · rw [n] at hs; omega
  · have e : g00 16 i = 0 := by simp [g00]
    unfold stpM
    rw [n, e, tb_0]
    rfl
theorem z_queue : JQueue g00 := by
  refine ⟨0, by omega, by simp [g00], by simp [g00], fun j hj => by omega, by simp [g00, qTW], ?_⟩
  refine ⟨(0, qId 0), ?_, by simp [g00], fun j hj => by omega⟩
  unfold qBest qS qLeaf
  rfl
theorem z_book : JBook g00 := by
  have n : g00 9 11 = 0 := by simp [g00]
  refine ⟨0, fun _ => 0, ⟨by omega, fun j hj => by omega⟩, by simp [g00], by simp [g00], fun j hj => by omega, ⟨fun p hp => by omega, fun p q h1 h2 => by omega, fun j hj => by omega⟩, fun p hp => by omega, ⟨by omega, fun b _ => by simp [g00]⟩, by rw [n]; omega, fun h => absurd n h⟩
theorem z_rain : JRain g00 := ⟨115, 116, by unfold PQ; omega, by simp [g00], by simp [g00]⟩
theorem inv_g00 : Inv g00 := ⟨z_way, z_trip, z_boat, z_wgt, z_pump, z_job, z_call, z_tape, z_log, z_yard, z_rule, z_wat, z_hour, z_stop, by simp [JFlag, g00], fun p _ => Or.inr (by simp [g00]), by simp [JAlong, g00], ⟨by simp [g00], by simp [g00]⟩, z_rain, z_queue, z_book, ⟨by simp [g00], by simp [g00]⟩⟩
