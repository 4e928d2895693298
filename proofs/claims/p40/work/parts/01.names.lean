-- ===== PART A: goes FIRST, ahead of the names: the tables' words, and 'selects' of the private methods out of them =====
/-- a private method of a class that the tables say can be made, by its rows of tables_1 -/
def lw_okq (q : MethodName × Nat) : Prop := (q.1.cls ≠ "java/lang/invoke/MethodHandle" ∧ q.1.cls ≠ "java/lang/invoke/VarHandle") ∧ Cond.instantiable q.1.cls q.2 ∈ tables_1 ∧ Cond.privateMethod q.1 ∈ tables_1 ∧ Cond.instanceMethod q.1 ∈ tables_1
theorem tl_1 {w : Cond} (h : w ∈ tables_1_1) : w ∈ tables_1 := (List.mem_append_left _ h)
theorem tl_2 {w : Cond} (h : w ∈ tables_1_2) : w ∈ tables_1 := (List.mem_append_right _ (List.mem_append_left _ h))
theorem tl_3 {w : Cond} (h : w ∈ tables_1_3) : w ∈ tables_1 := (List.mem_append_right _ (List.mem_append_right _ (List.mem_append_left _ h)))
theorem tl_4 {w : Cond} (h : w ∈ tables_1_4) : w ∈ tables_1 := (List.mem_append_right _ (List.mem_append_right _ (List.mem_append_right _ (List.mem_append_left _ h))))
theorem tl_5 {w : Cond} (h : w ∈ tables_1_5) : w ∈ tables_1 := (List.mem_append_right _ (List.mem_append_right _ (List.mem_append_right _ (List.mem_append_right _ (List.mem_append_left _ h)))))
theorem tl_6 {w : Cond} (h : w ∈ tables_1_6) : w ∈ tables_1 := (List.mem_append_right _ (List.mem_append_right _ (List.mem_append_right _ (List.mem_append_right _ (List.mem_append_right _ (List.mem_append_left _ h))))))
theorem tl_7 {w : Cond} (h : w ∈ tables_1_7) : w ∈ tables_1 := (List.mem_append_right _ (List.mem_append_right _ (List.mem_append_right _ (List.mem_append_right _ (List.mem_append_right _ (List.mem_append_right _ (List.mem_append_left _ h)))))))
theorem tl_8 {w : Cond} (h : w ∈ tables_1_8) : w ∈ tables_1 := (List.mem_append_right _ (List.mem_append_right _ (List.mem_append_right _ (List.mem_append_right _ (List.mem_append_right _ (List.mem_append_right _ (List.mem_append_right _ (List.mem_append_left _ h))))))))
theorem tl_9 {w : Cond} (h : w ∈ tables_1_9) : w ∈ tables_1 := (List.mem_append_right _ (List.mem_append_right _ (List.mem_append_right _ (List.mem_append_right _ (List.mem_append_right _ (List.mem_append_right _ (List.mem_append_right _ (List.mem_append_right _ h))))))))
theorem tm_1 {i : Nat} {w : Cond} (h : tables_1_1[i]? = some w) : w ∈ tables_1 := tl_1 (List.mem_of_getElem? h)
theorem tm_2 {i : Nat} {w : Cond} (h : tables_1_2[i]? = some w) : w ∈ tables_1 := tl_2 (List.mem_of_getElem? h)
theorem tm_3 {i : Nat} {w : Cond} (h : tables_1_3[i]? = some w) : w ∈ tables_1 := tl_3 (List.mem_of_getElem? h)
theorem tm_4 {i : Nat} {w : Cond} (h : tables_1_4[i]? = some w) : w ∈ tables_1 := tl_4 (List.mem_of_getElem? h)
theorem tm_5 {i : Nat} {w : Cond} (h : tables_1_5[i]? = some w) : w ∈ tables_1 := tl_5 (List.mem_of_getElem? h)
theorem tm_6 {i : Nat} {w : Cond} (h : tables_1_6[i]? = some w) : w ∈ tables_1 := tl_6 (List.mem_of_getElem? h)
theorem tm_7 {i : Nat} {w : Cond} (h : tables_1_7[i]? = some w) : w ∈ tables_1 := tl_7 (List.mem_of_getElem? h)
theorem tm_8 {i : Nat} {w : Cond} (h : tables_1_8[i]? = some w) : w ∈ tables_1 := tl_8 (List.mem_of_getElem? h)
theorem tm_9 {i : Nat} {w : Cond} (h : tables_1_9[i]? = some w) : w ∈ tables_1 := tl_9 (List.mem_of_getElem? h)
theorem lw_p0 : lw_okq (⟨"WeekBoats$Rules", "run", "(II)I"⟩, 15) := ⟨⟨by decide +kernel, by decide +kernel⟩, tm_1 (i := 76) (by decide +kernel), tm_3 (i := 113) (by decide +kernel), tm_3 (i := 114) (by decide +kernel)⟩
theorem lw_p1 : lw_okq (⟨"WeekBoats$Rules", "askedOf", "(I)I"⟩, 15) := ⟨⟨by decide +kernel, by decide +kernel⟩, tm_1 (i := 76) (by decide +kernel), tm_3 (i := 117) (by decide +kernel), tm_3 (i := 118) (by decide +kernel)⟩
theorem lw_p2 : lw_okq (⟨"WeekBoats$Parser", "scan", "()V"⟩, 9) := ⟨⟨by decide +kernel, by decide +kernel⟩, tm_1 (i := 144) (by decide +kernel), tm_3 (i := 178) (by decide +kernel), tm_3 (i := 179) (by decide +kernel)⟩
theorem lw_p3 : lw_okq (⟨"WeekBoats$Parser", "endOfWord", "(I)I"⟩, 9) := ⟨⟨by decide +kernel, by decide +kernel⟩, tm_1 (i := 144) (by decide +kernel), tm_3 (i := 186) (by decide +kernel), tm_3 (i := 187) (by decide +kernel)⟩
theorem lw_p4 : lw_okq (⟨"WeekBoats$Parser", "wordOf", "(II)I"⟩, 9) := ⟨⟨by decide +kernel, by decide +kernel⟩, tm_1 (i := 144) (by decide +kernel), tm_3 (i := 190) (by decide +kernel), tm_3 (i := 191) (by decide +kernel)⟩
theorem lw_p5 : lw_okq (⟨"WeekBoats$Parser", "isSame", "(III)Z"⟩, 9) := ⟨⟨by decide +kernel, by decide +kernel⟩, tm_1 (i := 144) (by decide +kernel), tm_4 (i := 3) (by decide +kernel), tm_4 (i := 4) (by decide +kernel)⟩
theorem lw_p6 : lw_okq (⟨"WeekBoats$Parser", "add", "(II)V"⟩, 9) := ⟨⟨by decide +kernel, by decide +kernel⟩, tm_1 (i := 144) (by decide +kernel), tm_4 (i := 7) (by decide +kernel), tm_4 (i := 8) (by decide +kernel)⟩
theorem lw_p7 : lw_okq (⟨"WeekBoats$Parser", "endOfDigits", "(I)I"⟩, 9) := ⟨⟨by decide +kernel, by decide +kernel⟩, tm_1 (i := 144) (by decide +kernel), tm_4 (i := 14) (by decide +kernel), tm_4 (i := 15) (by decide +kernel)⟩
theorem lw_p8 : lw_okq (⟨"WeekBoats$Parser", "numberOf", "(II)I"⟩, 9) := ⟨⟨by decide +kernel, by decide +kernel⟩, tm_1 (i := 144) (by decide +kernel), tm_4 (i := 18) (by decide +kernel), tm_4 (i := 19) (by decide +kernel)⟩
theorem lw_p9 : lw_okq (⟨"WeekBoats$Parser", "readLine", "()V"⟩, 9) := ⟨⟨by decide +kernel, by decide +kernel⟩, tm_1 (i := 144) (by decide +kernel), tm_4 (i := 82) (by decide +kernel), tm_4 (i := 83) (by decide +kernel)⟩
theorem lw_p10 : lw_okq (⟨"WeekBoats$Parser", "fail", "(I)V"⟩, 9) := ⟨⟨by decide +kernel, by decide +kernel⟩, tm_1 (i := 144) (by decide +kernel), tm_4 (i := 86) (by decide +kernel), tm_4 (i := 87) (by decide +kernel)⟩
theorem lw_p11 : lw_okq (⟨"WeekBoats$Parser", "goOn", "()V"⟩, 9) := ⟨⟨by decide +kernel, by decide +kernel⟩, tm_1 (i := 144) (by decide +kernel), tm_4 (i := 90) (by decide +kernel), tm_4 (i := 91) (by decide +kernel)⟩
theorem lw_p12 : lw_okq (⟨"WeekBoats$Parser", "readTunnel", "()V"⟩, 9) := ⟨⟨by decide +kernel, by decide +kernel⟩, tm_1 (i := 144) (by decide +kernel), tm_4 (i := 94) (by decide +kernel), tm_4 (i := 95) (by decide +kernel)⟩
theorem lw_p13 : lw_okq (⟨"WeekBoats$Parser", "numberUpTo", "(I)I"⟩, 9) := ⟨⟨by decide +kernel, by decide +kernel⟩, tm_1 (i := 144) (by decide +kernel), tm_4 (i := 98) (by decide +kernel), tm_4 (i := 99) (by decide +kernel)⟩
theorem lw_p14 : lw_okq (⟨"WeekBoats$Parser", "is", "(I)Z"⟩, 9) := ⟨⟨by decide +kernel, by decide +kernel⟩, tm_1 (i := 144) (by decide +kernel), tm_4 (i := 102) (by decide +kernel), tm_4 (i := 103) (by decide +kernel)⟩
theorem lw_p15 : lw_okq (⟨"WeekBoats$Parser", "readSum", "()V"⟩, 9) := ⟨⟨by decide +kernel, by decide +kernel⟩, tm_1 (i := 144) (by decide +kernel), tm_4 (i := 110) (by decide +kernel), tm_4 (i := 111) (by decide +kernel)⟩
def lw_privs_1 : List (MethodName × Nat) := [(⟨"WeekBoats$Rules", "run", "(II)I"⟩, 15), (⟨"WeekBoats$Rules", "askedOf", "(I)I"⟩, 15), (⟨"WeekBoats$Parser", "scan", "()V"⟩, 9), (⟨"WeekBoats$Parser", "endOfWord", "(I)I"⟩, 9), (⟨"WeekBoats$Parser", "wordOf", "(II)I"⟩, 9), (⟨"WeekBoats$Parser", "isSame", "(III)Z"⟩, 9), (⟨"WeekBoats$Parser", "add", "(II)V"⟩, 9), (⟨"WeekBoats$Parser", "endOfDigits", "(I)I"⟩, 9), (⟨"WeekBoats$Parser", "numberOf", "(II)I"⟩, 9), (⟨"WeekBoats$Parser", "readLine", "()V"⟩, 9), (⟨"WeekBoats$Parser", "fail", "(I)V"⟩, 9), (⟨"WeekBoats$Parser", "goOn", "()V"⟩, 9), (⟨"WeekBoats$Parser", "readTunnel", "()V"⟩, 9), (⟨"WeekBoats$Parser", "numberUpTo", "(I)I"⟩, 9), (⟨"WeekBoats$Parser", "is", "(I)Z"⟩, 9), (⟨"WeekBoats$Parser", "readSum", "()V"⟩, 9)]
theorem lw_r1 : ∀ q ∈ lw_privs_1, lw_okq q := List.forall_mem_cons.mpr ⟨lw_p0, List.forall_mem_cons.mpr ⟨lw_p1, List.forall_mem_cons.mpr ⟨lw_p2, List.forall_mem_cons.mpr ⟨lw_p3, List.forall_mem_cons.mpr ⟨lw_p4, List.forall_mem_cons.mpr ⟨lw_p5, List.forall_mem_cons.mpr ⟨lw_p6, List.forall_mem_cons.mpr ⟨lw_p7, List.forall_mem_cons.mpr ⟨lw_p8, List.forall_mem_cons.mpr ⟨lw_p9, List.forall_mem_cons.mpr ⟨lw_p10, List.forall_mem_cons.mpr ⟨lw_p11, List.forall_mem_cons.mpr ⟨lw_p12, List.forall_mem_cons.mpr ⟨lw_p13, List.forall_mem_cons.mpr ⟨lw_p14, List.forall_mem_cons.mpr ⟨lw_p15, fun _ h => absurd h List.not_mem_nil⟩⟩⟩⟩⟩⟩⟩⟩⟩⟩⟩⟩⟩⟩⟩⟩
theorem lw_p16 : lw_okq (⟨"WeekBoats$Parser", "readProduct", "()V"⟩, 9) := ⟨⟨by decide +kernel, by decide +kernel⟩, tm_1 (i := 144) (by decide +kernel), tm_4 (i := 114) (by decide +kernel), tm_4 (i := 115) (by decide +kernel)⟩
theorem lw_p17 : lw_okq (⟨"WeekBoats$Parser", "readUnit", "()V"⟩, 9) := ⟨⟨by decide +kernel, by decide +kernel⟩, tm_1 (i := 144) (by decide +kernel), tm_4 (i := 118) (by decide +kernel), tm_4 (i := 119) (by decide +kernel)⟩
theorem lw_p18 : lw_okq (⟨"WeekBoats$Parser", "readPart", "()V"⟩, 9) := ⟨⟨by decide +kernel, by decide +kernel⟩, tm_1 (i := 144) (by decide +kernel), tm_4 (i := 126) (by decide +kernel), tm_4 (i := 127) (by decide +kernel)⟩
theorem lw_p19 : lw_okq (⟨"WeekBoats$Parser", "readEither", "(I)V"⟩, 9) := ⟨⟨by decide +kernel, by decide +kernel⟩, tm_1 (i := 144) (by decide +kernel), tm_4 (i := 130) (by decide +kernel), tm_4 (i := 131) (by decide +kernel)⟩
theorem lw_p20 : lw_okq (⟨"WeekBoats$Parser", "readAll", "(I)V"⟩, 9) := ⟨⟨by decide +kernel, by decide +kernel⟩, tm_1 (i := 144) (by decide +kernel), tm_4 (i := 134) (by decide +kernel), tm_4 (i := 135) (by decide +kernel)⟩
theorem lw_p21 : lw_okq (⟨"WeekBoats$Parser", "readOne", "(I)V"⟩, 9) := ⟨⟨by decide +kernel, by decide +kernel⟩, tm_1 (i := 144) (by decide +kernel), tm_4 (i := 138) (by decide +kernel), tm_4 (i := 139) (by decide +kernel)⟩
theorem lw_p22 : lw_okq (⟨"WeekBoats$Parser", "openOneMore", "(I)V"⟩, 9) := ⟨⟨by decide +kernel, by decide +kernel⟩, tm_1 (i := 144) (by decide +kernel), tm_4 (i := 142) (by decide +kernel), tm_4 (i := 143) (by decide +kernel)⟩
theorem lw_p23 : lw_okq (⟨"WeekBoats$Parser", "demand", "(I)V"⟩, 9) := ⟨⟨by decide +kernel, by decide +kernel⟩, tm_1 (i := 144) (by decide +kernel), tm_4 (i := 146) (by decide +kernel), tm_4 (i := 147) (by decide +kernel)⟩
theorem lw_p24 : lw_okq (⟨"WeekBoats$Parser", "demandComparing", "()V"⟩, 9) := ⟨⟨by decide +kernel, by decide +kernel⟩, tm_1 (i := 144) (by decide +kernel), tm_4 (i := 150) (by decide +kernel), tm_4 (i := 151) (by decide +kernel)⟩
theorem lw_p25 : lw_okq (⟨"WeekBoats", "isWay", "(IIII)Z"⟩, 12) := ⟨⟨by decide +kernel, by decide +kernel⟩, tm_1 (i := 24) (by decide +kernel), tm_4 (i := 174) (by decide +kernel), tm_4 (i := 175) (by decide +kernel)⟩
theorem lw_p26 : lw_okq (⟨"WeekBoats", "isBoat", "(I)Z"⟩, 12) := ⟨⟨by decide +kernel, by decide +kernel⟩, tm_1 (i := 24) (by decide +kernel), tm_4 (i := 178) (by decide +kernel), tm_4 (i := 179) (by decide +kernel)⟩
theorem lw_p27 : lw_okq (⟨"WeekBoats$Voyage", "setOut", "(IZ)V"⟩, 8) := ⟨⟨by decide +kernel, by decide +kernel⟩, tm_1 (i := 181) (by decide +kernel), tm_4 (i := 189) (by decide +kernel), tm_4 (i := 190) (by decide +kernel)⟩
theorem lw_p28 : lw_okq (⟨"WeekBoats$Voyage", "pass", "(IZI)I"⟩, 8) := ⟨⟨by decide +kernel, by decide +kernel⟩, tm_1 (i := 181) (by decide +kernel), tm_4 (i := 193) (by decide +kernel), tm_4 (i := 194) (by decide +kernel)⟩
theorem lw_p29 : lw_okq (⟨"WeekBoats$Voyage", "step", "(IIII)I"⟩, 8) := ⟨⟨by decide +kernel, by decide +kernel⟩, tm_1 (i := 181) (by decide +kernel), tm_4 (i := 202) (by decide +kernel), tm_4 (i := 203) (by decide +kernel)⟩
theorem lw_p30 : lw_okq (⟨"WeekBoats$Voyage", "begins", "(III)I"⟩, 8) := ⟨⟨by decide +kernel, by decide +kernel⟩, tm_1 (i := 181) (by decide +kernel), tm_4 (i := 206) (by decide +kernel), tm_4 (i := 207) (by decide +kernel)⟩
theorem lw_p31 : lw_okq (⟨"WeekBoats$Voyage", "firstHour", "(III)I"⟩, 8) := ⟨⟨by decide +kernel, by decide +kernel⟩, tm_1 (i := 181) (by decide +kernel), tm_4 (i := 210) (by decide +kernel), tm_4 (i := 211) (by decide +kernel)⟩
def lw_privs_2 : List (MethodName × Nat) := [(⟨"WeekBoats$Parser", "readProduct", "()V"⟩, 9), (⟨"WeekBoats$Parser", "readUnit", "()V"⟩, 9), (⟨"WeekBoats$Parser", "readPart", "()V"⟩, 9), (⟨"WeekBoats$Parser", "readEither", "(I)V"⟩, 9), (⟨"WeekBoats$Parser", "readAll", "(I)V"⟩, 9), (⟨"WeekBoats$Parser", "readOne", "(I)V"⟩, 9), (⟨"WeekBoats$Parser", "openOneMore", "(I)V"⟩, 9), (⟨"WeekBoats$Parser", "demand", "(I)V"⟩, 9), (⟨"WeekBoats$Parser", "demandComparing", "()V"⟩, 9), (⟨"WeekBoats", "isWay", "(IIII)Z"⟩, 12), (⟨"WeekBoats", "isBoat", "(I)Z"⟩, 12), (⟨"WeekBoats$Voyage", "setOut", "(IZ)V"⟩, 8), (⟨"WeekBoats$Voyage", "pass", "(IZI)I"⟩, 8), (⟨"WeekBoats$Voyage", "step", "(IIII)I"⟩, 8), (⟨"WeekBoats$Voyage", "begins", "(III)I"⟩, 8), (⟨"WeekBoats$Voyage", "firstHour", "(III)I"⟩, 8)]
theorem lw_r2 : ∀ q ∈ lw_privs_2, lw_okq q := List.forall_mem_cons.mpr ⟨lw_p16, List.forall_mem_cons.mpr ⟨lw_p17, List.forall_mem_cons.mpr ⟨lw_p18, List.forall_mem_cons.mpr ⟨lw_p19, List.forall_mem_cons.mpr ⟨lw_p20, List.forall_mem_cons.mpr ⟨lw_p21, List.forall_mem_cons.mpr ⟨lw_p22, List.forall_mem_cons.mpr ⟨lw_p23, List.forall_mem_cons.mpr ⟨lw_p24, List.forall_mem_cons.mpr ⟨lw_p25, List.forall_mem_cons.mpr ⟨lw_p26, List.forall_mem_cons.mpr ⟨lw_p27, List.forall_mem_cons.mpr ⟨lw_p28, List.forall_mem_cons.mpr ⟨lw_p29, List.forall_mem_cons.mpr ⟨lw_p30, List.forall_mem_cons.mpr ⟨lw_p31, fun _ h => absurd h List.not_mem_nil⟩⟩⟩⟩⟩⟩⟩⟩⟩⟩⟩⟩⟩⟩⟩⟩
theorem lw_p32 : lw_okq (⟨"WeekBoats$Voyage", "hourBehind", "(III)I"⟩, 8) := ⟨⟨by decide +kernel, by decide +kernel⟩, tm_1 (i := 181) (by decide +kernel), tm_4 (i := 215) (by decide +kernel), tm_4 (i := 216) (by decide +kernel)⟩
theorem lw_p33 : lw_okq (⟨"WeekBoats$Voyage", "isStopped", "(II)Z"⟩, 8) := ⟨⟨by decide +kernel, by decide +kernel⟩, tm_1 (i := 181) (by decide +kernel), tm_4 (i := 220) (by decide +kernel), tm_4 (i := 221) (by decide +kernel)⟩
theorem lw_p34 : lw_okq (⟨"WeekBoats$Boats", "harmOfLock", "(II)I"⟩, 12) := ⟨⟨by decide +kernel, by decide +kernel⟩, tm_1 (i := 217) (by decide +kernel), tm_5 (i := 4) (by decide +kernel), tm_5 (i := 5) (by decide +kernel)⟩
theorem lw_p35 : lw_okq (⟨"WeekBoats$Trips", "isBackInTime", "(II)Z"⟩, 9) := ⟨⟨by decide +kernel, by decide +kernel⟩, tm_2 (i := 28) (by decide +kernel), tm_5 (i := 29) (by decide +kernel), tm_5 (i := 30) (by decide +kernel)⟩
theorem lw_p36 : lw_okq (⟨"WeekBoats$Boats", "canBetween", "(IIIII)Z"⟩, 12) := ⟨⟨by decide +kernel, by decide +kernel⟩, tm_1 (i := 217) (by decide +kernel), tm_5 (i := 111) (by decide +kernel), tm_5 (i := 112) (by decide +kernel)⟩
theorem lw_p37 : lw_okq (⟨"WeekBoats$Boats", "placeOf", "(II)I"⟩, 12) := ⟨⟨by decide +kernel, by decide +kernel⟩, tm_1 (i := 217) (by decide +kernel), tm_5 (i := 115) (by decide +kernel), tm_5 (i := 116) (by decide +kernel)⟩
theorem lw_p38 : lw_okq (⟨"WeekBoats$Boats", "timeOf", "(II)I"⟩, 12) := ⟨⟨by decide +kernel, by decide +kernel⟩, tm_1 (i := 217) (by decide +kernel), tm_5 (i := 119) (by decide +kernel), tm_5 (i := 120) (by decide +kernel)⟩
theorem lw_p39 : lw_okq (⟨"WeekBoats$Boats", "lastLog", "(II)I"⟩, 12) := ⟨⟨by decide +kernel, by decide +kernel⟩, tm_1 (i := 217) (by decide +kernel), tm_5 (i := 143) (by decide +kernel), tm_5 (i := 144) (by decide +kernel)⟩
theorem lw_p40 : lw_okq (⟨"WeekBoats$LockQueue", "findBest", "()V"⟩, 7) := ⟨⟨by decide +kernel, by decide +kernel⟩, tm_2 (i := 63) (by decide +kernel), tm_5 (i := 166) (by decide +kernel), tm_5 (i := 167) (by decide +kernel)⟩
theorem lw_p41 : lw_okq (⟨"WeekBoats$LockQueue", "waitOf", "([I)I"⟩, 7) := ⟨⟨by decide +kernel, by decide +kernel⟩, tm_2 (i := 63) (by decide +kernel), tm_5 (i := 170) (by decide +kernel), tm_5 (i := 171) (by decide +kernel)⟩
theorem lw_p42 : lw_okq (⟨"WeekBoats$LockQueue", "minutesOf", "([II)I"⟩, 7) := ⟨⟨by decide +kernel, by decide +kernel⟩, tm_2 (i := 63) (by decide +kernel), tm_5 (i := 175) (by decide +kernel), tm_5 (i := 176) (by decide +kernel)⟩
theorem lw_p43 : lw_okq (⟨"WeekBoats$Bookings", "putInOrder", "()V"⟩, 17) := ⟨⟨by decide +kernel, by decide +kernel⟩, tm_2 (i := 94) (by decide +kernel), tm_5 (i := 211) (by decide +kernel), tm_5 (i := 212) (by decide +kernel)⟩
theorem lw_p44 : lw_okq (⟨"WeekBoats", "hireFirst", "(I)V"⟩, 12) := ⟨⟨by decide +kernel, by decide +kernel⟩, tm_1 (i := 24) (by decide +kernel), tm_5 (i := 219) (by decide +kernel), tm_5 (i := 220) (by decide +kernel)⟩
theorem lw_p45 : lw_okq (⟨"WeekBoats$Bookings", "canEverBeGiven", "(I)Z"⟩, 17) := ⟨⟨by decide +kernel, by decide +kernel⟩, tm_2 (i := 94) (by decide +kernel), tm_5 (i := 232) (by decide +kernel), tm_5 (i := 233) (by decide +kernel)⟩
theorem lw_p46 : lw_okq (⟨"WeekBoats$Bookings", "canCome", "(II)Z"⟩, 17) := ⟨⟨by decide +kernel, by decide +kernel⟩, tm_2 (i := 94) (by decide +kernel), tm_5 (i := 236) (by decide +kernel), tm_5 (i := 237) (by decide +kernel)⟩
theorem lw_p47 : lw_okq (⟨"WeekBoats$Bookings", "compare", "(I)V"⟩, 17) := ⟨⟨by decide +kernel, by decide +kernel⟩, tm_2 (i := 94) (by decide +kernel), tm_6 (i := 3) (by decide +kernel), tm_6 (i := 4) (by decide +kernel)⟩
def lw_privs_3 : List (MethodName × Nat) := [(⟨"WeekBoats$Voyage", "hourBehind", "(III)I"⟩, 8), (⟨"WeekBoats$Voyage", "isStopped", "(II)Z"⟩, 8), (⟨"WeekBoats$Boats", "harmOfLock", "(II)I"⟩, 12), (⟨"WeekBoats$Trips", "isBackInTime", "(II)Z"⟩, 9), (⟨"WeekBoats$Boats", "canBetween", "(IIIII)Z"⟩, 12), (⟨"WeekBoats$Boats", "placeOf", "(II)I"⟩, 12), (⟨"WeekBoats$Boats", "timeOf", "(II)I"⟩, 12), (⟨"WeekBoats$Boats", "lastLog", "(II)I"⟩, 12), (⟨"WeekBoats$LockQueue", "findBest", "()V"⟩, 7), (⟨"WeekBoats$LockQueue", "waitOf", "([I)I"⟩, 7), (⟨"WeekBoats$LockQueue", "minutesOf", "([II)I"⟩, 7), (⟨"WeekBoats$Bookings", "putInOrder", "()V"⟩, 17), (⟨"WeekBoats", "hireFirst", "(I)V"⟩, 12), (⟨"WeekBoats$Bookings", "canEverBeGiven", "(I)Z"⟩, 17), (⟨"WeekBoats$Bookings", "canCome", "(II)Z"⟩, 17), (⟨"WeekBoats$Bookings", "compare", "(I)V"⟩, 17)]
theorem lw_r3 : ∀ q ∈ lw_privs_3, lw_okq q := List.forall_mem_cons.mpr ⟨lw_p32, List.forall_mem_cons.mpr ⟨lw_p33, List.forall_mem_cons.mpr ⟨lw_p34, List.forall_mem_cons.mpr ⟨lw_p35, List.forall_mem_cons.mpr ⟨lw_p36, List.forall_mem_cons.mpr ⟨lw_p37, List.forall_mem_cons.mpr ⟨lw_p38, List.forall_mem_cons.mpr ⟨lw_p39, List.forall_mem_cons.mpr ⟨lw_p40, List.forall_mem_cons.mpr ⟨lw_p41, List.forall_mem_cons.mpr ⟨lw_p42, List.forall_mem_cons.mpr ⟨lw_p43, List.forall_mem_cons.mpr ⟨lw_p44, List.forall_mem_cons.mpr ⟨lw_p45, List.forall_mem_cons.mpr ⟨lw_p46, List.forall_mem_cons.mpr ⟨lw_p47, fun _ h => absurd h List.not_mem_nil⟩⟩⟩⟩⟩⟩⟩⟩⟩⟩⟩⟩⟩⟩⟩⟩
theorem lw_p48 : lw_okq (⟨"WeekBoats$Bookings", "canHave", "(II)Z"⟩, 17) := ⟨⟨by decide +kernel, by decide +kernel⟩, tm_2 (i := 94) (by decide +kernel), tm_6 (i := 8) (by decide +kernel), tm_6 (i := 9) (by decide +kernel)⟩
theorem lw_p49 : lw_okq (⟨"WeekBoats$Yard", "othersInDock", "(I)I"⟩, 15) := ⟨⟨by decide +kernel, by decide +kernel⟩, tm_2 (i := 156) (by decide +kernel), tm_6 (i := 24) (by decide +kernel), tm_6 (i := 25) (by decide +kernel)⟩
theorem lw_p50 : lw_okq (⟨"WeekBoats$Yard", "chooseNext", "(I)V"⟩, 15) := ⟨⟨by decide +kernel, by decide +kernel⟩, tm_2 (i := 156) (by decide +kernel), tm_6 (i := 36) (by decide +kernel), tm_6 (i := 37) (by decide +kernel)⟩
theorem lw_p51 : lw_okq (⟨"WeekBoats$Yard", "isBetter", "(III)Z"⟩, 15) := ⟨⟨by decide +kernel, by decide +kernel⟩, tm_2 (i := 156) (by decide +kernel), tm_6 (i := 40) (by decide +kernel), tm_6 (i := 41) (by decide +kernel)⟩
theorem lw_p52 : lw_okq (⟨"WeekBoats$Vans", "minutes", "(II)I"⟩, 15) := ⟨⟨by decide +kernel, by decide +kernel⟩, tm_2 (i := 216) (by decide +kernel), tm_6 (i := 95) (by decide +kernel), tm_6 (i := 96) (by decide +kernel)⟩
theorem lw_p53 : lw_okq (⟨"WeekBoats$Vans", "comesAt", "(II)I"⟩, 15) := ⟨⟨by decide +kernel, by decide +kernel⟩, tm_2 (i := 216) (by decide +kernel), tm_6 (i := 132) (by decide +kernel), tm_6 (i := 133) (by decide +kernel)⟩
theorem lw_p54 : lw_okq (⟨"WeekBoatsModel", "next0", "()V"⟩, 101) := ⟨⟨by decide +kernel, by decide +kernel⟩, tm_6 (i := 183) (by decide +kernel), tm_8 (i := 48) (by decide +kernel), tm_8 (i := 49) (by decide +kernel)⟩
theorem lw_p55 : lw_okq (⟨"WeekBoatsModel", "see", "(I)I"⟩, 101) := ⟨⟨by decide +kernel, by decide +kernel⟩, tm_6 (i := 183) (by decide +kernel), tm_8 (i := 52) (by decide +kernel), tm_8 (i := 53) (by decide +kernel)⟩
theorem lw_p56 : lw_okq (⟨"WeekBoatsModel", "word", "()I"⟩, 101) := ⟨⟨by decide +kernel, by decide +kernel⟩, tm_6 (i := 183) (by decide +kernel), tm_8 (i := 59) (by decide +kernel), tm_8 (i := 60) (by decide +kernel)⟩
theorem lw_p57 : lw_okq (⟨"WeekBoatsModel", "is", "(Ljava/lang/String;)Z"⟩, 101) := ⟨⟨by decide +kernel, by decide +kernel⟩, tm_6 (i := 183) (by decide +kernel), tm_8 (i := 64) (by decide +kernel), tm_8 (i := 65) (by decide +kernel)⟩
theorem lw_p58 : lw_okq (⟨"WeekBoatsModel", "aLine", "()Z"⟩, 101) := ⟨⟨by decide +kernel, by decide +kernel⟩, tm_6 (i := 183) (by decide +kernel), tm_8 (i := 92) (by decide +kernel), tm_8 (i := 93) (by decide +kernel)⟩
theorem lw_p59 : lw_okq (⟨"WeekBoatsModel", "bad", "(I)Z"⟩, 101) := ⟨⟨by decide +kernel, by decide +kernel⟩, tm_6 (i := 183) (by decide +kernel), tm_8 (i := 96) (by decide +kernel), tm_8 (i := 97) (by decide +kernel)⟩
theorem lw_p60 : lw_okq (⟨"WeekBoatsModel", "aTunnel", "()Z"⟩, 101) := ⟨⟨by decide +kernel, by decide +kernel⟩, tm_6 (i := 183) (by decide +kernel), tm_8 (i := 100) (by decide +kernel), tm_8 (i := 101) (by decide +kernel)⟩
theorem lw_p61 : lw_okq (⟨"WeekBoatsModel", "number", "(II)Z"⟩, 101) := ⟨⟨by decide +kernel, by decide +kernel⟩, tm_6 (i := 183) (by decide +kernel), tm_8 (i := 104) (by decide +kernel), tm_8 (i := 105) (by decide +kernel)⟩
theorem lw_p62 : lw_okq (⟨"WeekBoatsModel", "hours", "([II[II)Z"⟩, 101) := ⟨⟨by decide +kernel, by decide +kernel⟩, tm_6 (i := 183) (by decide +kernel), tm_8 (i := 108) (by decide +kernel), tm_8 (i := 109) (by decide +kernel)⟩
theorem lw_p63 : lw_okq (⟨"WeekBoatsModel", "need", "(I)Z"⟩, 101) := ⟨⟨by decide +kernel, by decide +kernel⟩, tm_6 (i := 183) (by decide +kernel), tm_8 (i := 112) (by decide +kernel), tm_8 (i := 113) (by decide +kernel)⟩
def lw_privs_4 : List (MethodName × Nat) := [(⟨"WeekBoats$Bookings", "canHave", "(II)Z"⟩, 17), (⟨"WeekBoats$Yard", "othersInDock", "(I)I"⟩, 15), (⟨"WeekBoats$Yard", "chooseNext", "(I)V"⟩, 15), (⟨"WeekBoats$Yard", "isBetter", "(III)Z"⟩, 15), (⟨"WeekBoats$Vans", "minutes", "(II)I"⟩, 15), (⟨"WeekBoats$Vans", "comesAt", "(II)I"⟩, 15), (⟨"WeekBoatsModel", "next0", "()V"⟩, 101), (⟨"WeekBoatsModel", "see", "(I)I"⟩, 101), (⟨"WeekBoatsModel", "word", "()I"⟩, 101), (⟨"WeekBoatsModel", "is", "(Ljava/lang/String;)Z"⟩, 101), (⟨"WeekBoatsModel", "aLine", "()Z"⟩, 101), (⟨"WeekBoatsModel", "bad", "(I)Z"⟩, 101), (⟨"WeekBoatsModel", "aTunnel", "()Z"⟩, 101), (⟨"WeekBoatsModel", "number", "(II)Z"⟩, 101), (⟨"WeekBoatsModel", "hours", "([II[II)Z"⟩, 101), (⟨"WeekBoatsModel", "need", "(I)Z"⟩, 101)]
theorem lw_r4 : ∀ q ∈ lw_privs_4, lw_okq q := List.forall_mem_cons.mpr ⟨lw_p48, List.forall_mem_cons.mpr ⟨lw_p49, List.forall_mem_cons.mpr ⟨lw_p50, List.forall_mem_cons.mpr ⟨lw_p51, List.forall_mem_cons.mpr ⟨lw_p52, List.forall_mem_cons.mpr ⟨lw_p53, List.forall_mem_cons.mpr ⟨lw_p54, List.forall_mem_cons.mpr ⟨lw_p55, List.forall_mem_cons.mpr ⟨lw_p56, List.forall_mem_cons.mpr ⟨lw_p57, List.forall_mem_cons.mpr ⟨lw_p58, List.forall_mem_cons.mpr ⟨lw_p59, List.forall_mem_cons.mpr ⟨lw_p60, List.forall_mem_cons.mpr ⟨lw_p61, List.forall_mem_cons.mpr ⟨lw_p62, List.forall_mem_cons.mpr ⟨lw_p63, fun _ h => absurd h List.not_mem_nil⟩⟩⟩⟩⟩⟩⟩⟩⟩⟩⟩⟩⟩⟩⟩⟩
theorem lw_p64 : lw_okq (⟨"WeekBoatsModel", "sumUp", "()Z"⟩, 101) := ⟨⟨by decide +kernel, by decide +kernel⟩, tm_6 (i := 183) (by decide +kernel), tm_8 (i := 116) (by decide +kernel), tm_8 (i := 117) (by decide +kernel)⟩
theorem lw_p65 : lw_okq (⟨"WeekBoatsModel", "product", "()Z"⟩, 101) := ⟨⟨by decide +kernel, by decide +kernel⟩, tm_6 (i := 183) (by decide +kernel), tm_8 (i := 120) (by decide +kernel), tm_8 (i := 121) (by decide +kernel)⟩
theorem lw_p66 : lw_okq (⟨"WeekBoatsModel", "unit", "()Z"⟩, 101) := ⟨⟨by decide +kernel, by decide +kernel⟩, tm_6 (i := 183) (by decide +kernel), tm_8 (i := 124) (by decide +kernel), tm_8 (i := 125) (by decide +kernel)⟩
theorem lw_p67 : lw_okq (⟨"WeekBoatsModel", "lay", "(II)V"⟩, 101) := ⟨⟨by decide +kernel, by decide +kernel⟩, tm_6 (i := 183) (by decide +kernel), tm_8 (i := 128) (by decide +kernel), tm_8 (i := 129) (by decide +kernel)⟩
theorem lw_p68 : lw_okq (⟨"WeekBoatsModel", "any", "()Z"⟩, 101) := ⟨⟨by decide +kernel, by decide +kernel⟩, tm_6 (i := 183) (by decide +kernel), tm_8 (i := 132) (by decide +kernel), tm_8 (i := 133) (by decide +kernel)⟩
theorem lw_p69 : lw_okq (⟨"WeekBoatsModel", "every", "()Z"⟩, 101) := ⟨⟨by decide +kernel, by decide +kernel⟩, tm_6 (i := 183) (by decide +kernel), tm_8 (i := 136) (by decide +kernel), tm_8 (i := 137) (by decide +kernel)⟩
theorem lw_p70 : lw_okq (⟨"WeekBoatsModel", "one", "()Z"⟩, 101) := ⟨⟨by decide +kernel, by decide +kernel⟩, tm_6 (i := 183) (by decide +kernel), tm_8 (i := 140) (by decide +kernel), tm_8 (i := 141) (by decide +kernel)⟩
theorem lw_p71 : lw_okq (⟨"WeekBoatsModel", "opens", "()Z"⟩, 101) := ⟨⟨by decide +kernel, by decide +kernel⟩, tm_6 (i := 183) (by decide +kernel), tm_8 (i := 144) (by decide +kernel), tm_8 (i := 145) (by decide +kernel)⟩
theorem lw_p72 : lw_okq (⟨"WeekBoatsModel", "keeps", "()V"⟩, 101) := ⟨⟨by decide +kernel, by decide +kernel⟩, tm_6 (i := 183) (by decide +kernel), tm_8 (i := 148) (by decide +kernel), tm_8 (i := 149) (by decide +kernel)⟩
theorem lw_p73 : lw_okq (⟨"WeekBoatsModel", "locksLine", "(I)I"⟩, 101) := ⟨⟨by decide +kernel, by decide +kernel⟩, tm_6 (i := 183) (by decide +kernel), tm_8 (i := 160) (by decide +kernel), tm_8 (i := 161) (by decide +kernel)⟩
theorem lw_p74 : lw_okq (⟨"WeekBoatsModel", "forgets", "()V"⟩, 101) := ⟨⟨by decide +kernel, by decide +kernel⟩, tm_6 (i := 183) (by decide +kernel), tm_8 (i := 164) (by decide +kernel), tm_8 (i := 165) (by decide +kernel)⟩
theorem lw_p75 : lw_okq (⟨"WeekBoatsModel", "serves", "(I)I"⟩, 101) := ⟨⟨by decide +kernel, by decide +kernel⟩, tm_6 (i := 183) (by decide +kernel), tm_8 (i := 168) (by decide +kernel), tm_8 (i := 169) (by decide +kernel)⟩
theorem lw_p76 : lw_okq (⟨"WeekBoatsModel", "comesTo", "(II)I"⟩, 101) := ⟨⟨by decide +kernel, by decide +kernel⟩, tm_6 (i := 183) (by decide +kernel), tm_8 (i := 172) (by decide +kernel), tm_8 (i := 173) (by decide +kernel)⟩
theorem lw_p77 : lw_okq (⟨"WeekBoatsModel", "isBoat", "(I)Z"⟩, 101) := ⟨⟨by decide +kernel, by decide +kernel⟩, tm_6 (i := 183) (by decide +kernel), tm_8 (i := 183) (by decide +kernel), tm_8 (i := 184) (by decide +kernel)⟩
theorem lw_p78 : lw_okq (⟨"WeekBoatsModel", "led", "(IIII)I"⟩, 101) := ⟨⟨by decide +kernel, by decide +kernel⟩, tm_6 (i := 183) (by decide +kernel), tm_8 (i := 190) (by decide +kernel), tm_8 (i := 191) (by decide +kernel)⟩
theorem lw_p79 : lw_okq (⟨"WeekBoatsModel", "through", "(IIZI)I"⟩, 101) := ⟨⟨by decide +kernel, by decide +kernel⟩, tm_6 (i := 183) (by decide +kernel), tm_8 (i := 194) (by decide +kernel), tm_8 (i := 195) (by decide +kernel)⟩
def lw_privs_5 : List (MethodName × Nat) := [(⟨"WeekBoatsModel", "sumUp", "()Z"⟩, 101), (⟨"WeekBoatsModel", "product", "()Z"⟩, 101), (⟨"WeekBoatsModel", "unit", "()Z"⟩, 101), (⟨"WeekBoatsModel", "lay", "(II)V"⟩, 101), (⟨"WeekBoatsModel", "any", "()Z"⟩, 101), (⟨"WeekBoatsModel", "every", "()Z"⟩, 101), (⟨"WeekBoatsModel", "one", "()Z"⟩, 101), (⟨"WeekBoatsModel", "opens", "()Z"⟩, 101), (⟨"WeekBoatsModel", "keeps", "()V"⟩, 101), (⟨"WeekBoatsModel", "locksLine", "(I)I"⟩, 101), (⟨"WeekBoatsModel", "forgets", "()V"⟩, 101), (⟨"WeekBoatsModel", "serves", "(I)I"⟩, 101), (⟨"WeekBoatsModel", "comesTo", "(II)I"⟩, 101), (⟨"WeekBoatsModel", "isBoat", "(I)Z"⟩, 101), (⟨"WeekBoatsModel", "led", "(IIII)I"⟩, 101), (⟨"WeekBoatsModel", "through", "(IIZI)I"⟩, 101)]
theorem lw_r5 : ∀ q ∈ lw_privs_5, lw_okq q := List.forall_mem_cons.mpr ⟨lw_p64, List.forall_mem_cons.mpr ⟨lw_p65, List.forall_mem_cons.mpr ⟨lw_p66, List.forall_mem_cons.mpr ⟨lw_p67, List.forall_mem_cons.mpr ⟨lw_p68, List.forall_mem_cons.mpr ⟨lw_p69, List.forall_mem_cons.mpr ⟨lw_p70, List.forall_mem_cons.mpr ⟨lw_p71, List.forall_mem_cons.mpr ⟨lw_p72, List.forall_mem_cons.mpr ⟨lw_p73, List.forall_mem_cons.mpr ⟨lw_p74, List.forall_mem_cons.mpr ⟨lw_p75, List.forall_mem_cons.mpr ⟨lw_p76, List.forall_mem_cons.mpr ⟨lw_p77, List.forall_mem_cons.mpr ⟨lw_p78, List.forall_mem_cons.mpr ⟨lw_p79, fun _ h => absurd h List.not_mem_nil⟩⟩⟩⟩⟩⟩⟩⟩⟩⟩⟩⟩⟩⟩⟩⟩
theorem lw_p80 : lw_okq (⟨"WeekBoatsModel", "endOf", "(IIII)I"⟩, 101) := ⟨⟨by decide +kernel, by decide +kernel⟩, tm_6 (i := 183) (by decide +kernel), tm_8 (i := 198) (by decide +kernel), tm_8 (i := 199) (by decide +kernel)⟩
theorem lw_p81 : lw_okq (⟨"WeekBoatsModel", "mayBegin", "(IIII)Z"⟩, 101) := ⟨⟨by decide +kernel, by decide +kernel⟩, tm_6 (i := 183) (by decide +kernel), tm_8 (i := 202) (by decide +kernel), tm_8 (i := 203) (by decide +kernel)⟩
theorem lw_p82 : lw_okq (⟨"WeekBoatsModel", "isStopped", "(II)Z"⟩, 101) := ⟨⟨by decide +kernel, by decide +kernel⟩, tm_6 (i := 183) (by decide +kernel), tm_8 (i := 206) (by decide +kernel), tm_8 (i := 207) (by decide +kernel)⟩
theorem lw_p83 : lw_okq (⟨"WeekBoatsModel", "harmOf", "(II)I"⟩, 101) := ⟨⟨by decide +kernel, by decide +kernel⟩, tm_6 (i := 183) (by decide +kernel), tm_8 (i := 210) (by decide +kernel), tm_8 (i := 211) (by decide +kernel)⟩
theorem lw_p84 : lw_okq (⟨"WeekBoatsModel", "lateOf", "(I)I"⟩, 101) := ⟨⟨by decide +kernel, by decide +kernel⟩, tm_6 (i := 183) (by decide +kernel), tm_8 (i := 234) (by decide +kernel), tm_8 (i := 235) (by decide +kernel)⟩
theorem lw_p85 : lw_okq (⟨"WeekBoatsModel", "turningBack", "(I)I"⟩, 101) := ⟨⟨by decide +kernel, by decide +kernel⟩, tm_6 (i := 183) (by decide +kernel), tm_9 (i := 2) (by decide +kernel), tm_9 (i := 3) (by decide +kernel)⟩
theorem lw_p86 : lw_okq (⟨"WeekBoatsModel", "refund", "(I)I"⟩, 101) := ⟨⟨by decide +kernel, by decide +kernel⟩, tm_6 (i := 183) (by decide +kernel), tm_9 (i := 7) (by decide +kernel), tm_9 (i := 8) (by decide +kernel)⟩
theorem lw_p87 : lw_okq (⟨"WeekBoatsModel", "canHaveBeen", "(IIII)Z"⟩, 101) := ⟨⟨by decide +kernel, by decide +kernel⟩, tm_6 (i := 183) (by decide +kernel), tm_9 (i := 39) (by decide +kernel), tm_9 (i := 40) (by decide +kernel)⟩
theorem lw_p88 : lw_okq (⟨"WeekBoatsModel", "between", "(IIIII)Z"⟩, 101) := ⟨⟨by decide +kernel, by decide +kernel⟩, tm_6 (i := 183) (by decide +kernel), tm_9 (i := 43) (by decide +kernel), tm_9 (i := 44) (by decide +kernel)⟩
theorem lw_p89 : lw_okq (⟨"WeekBoatsModel", "orders", "(II)V"⟩, 101) := ⟨⟨by decide +kernel, by decide +kernel⟩, tm_6 (i := 183) (by decide +kernel), tm_9 (i := 63) (by decide +kernel), tm_9 (i := 64) (by decide +kernel)⟩
theorem lw_p90 : lw_okq (⟨"WeekBoatsModel", "waits", "()I"⟩, 101) := ⟨⟨by decide +kernel, by decide +kernel⟩, tm_6 (i := 183) (by decide +kernel), tm_9 (i := 67) (by decide +kernel), tm_9 (i := 68) (by decide +kernel)⟩
theorem lw_p91 : lw_okq (⟨"WeekBoatsModel", "asTheyCome", "()V"⟩, 101) := ⟨⟨by decide +kernel, by decide +kernel⟩, tm_6 (i := 183) (by decide +kernel), tm_9 (i := 71) (by decide +kernel), tm_9 (i := 72) (by decide +kernel)⟩
theorem lw_p92 : lw_okq (⟨"WeekBoatsModel", "lockfuls", "()I"⟩, 101) := ⟨⟨by decide +kernel, by decide +kernel⟩, tm_6 (i := 183) (by decide +kernel), tm_9 (i := 75) (by decide +kernel), tm_9 (i := 76) (by decide +kernel)⟩
theorem lw_p93 : lw_okq (⟨"WeekBoatsModel", "asks", "(I)V"⟩, 101) := ⟨⟨by decide +kernel, by decide +kernel⟩, tm_6 (i := 183) (by decide +kernel), tm_9 (i := 87) (by decide +kernel), tm_9 (i := 88) (by decide +kernel)⟩
theorem lw_p94 : lw_okq (⟨"WeekBoatsModel", "givesBest", "(I)V"⟩, 101) := ⟨⟨by decide +kernel, by decide +kernel⟩, tm_6 (i := 183) (by decide +kernel), tm_9 (i := 91) (by decide +kernel), tm_9 (i := 92) (by decide +kernel)⟩
theorem lw_p95 : lw_okq (⟨"WeekBoatsModel", "sorts", "()V"⟩, 101) := ⟨⟨by decide +kernel, by decide +kernel⟩, tm_6 (i := 183) (by decide +kernel), tm_9 (i := 95) (by decide +kernel), tm_9 (i := 96) (by decide +kernel)⟩
def lw_privs_6 : List (MethodName × Nat) := [(⟨"WeekBoatsModel", "endOf", "(IIII)I"⟩, 101), (⟨"WeekBoatsModel", "mayBegin", "(IIII)Z"⟩, 101), (⟨"WeekBoatsModel", "isStopped", "(II)Z"⟩, 101), (⟨"WeekBoatsModel", "harmOf", "(II)I"⟩, 101), (⟨"WeekBoatsModel", "lateOf", "(I)I"⟩, 101), (⟨"WeekBoatsModel", "turningBack", "(I)I"⟩, 101), (⟨"WeekBoatsModel", "refund", "(I)I"⟩, 101), (⟨"WeekBoatsModel", "canHaveBeen", "(IIII)Z"⟩, 101), (⟨"WeekBoatsModel", "between", "(IIIII)Z"⟩, 101), (⟨"WeekBoatsModel", "orders", "(II)V"⟩, 101), (⟨"WeekBoatsModel", "waits", "()I"⟩, 101), (⟨"WeekBoatsModel", "asTheyCome", "()V"⟩, 101), (⟨"WeekBoatsModel", "lockfuls", "()I"⟩, 101), (⟨"WeekBoatsModel", "asks", "(I)V"⟩, 101), (⟨"WeekBoatsModel", "givesBest", "(I)V"⟩, 101), (⟨"WeekBoatsModel", "sorts", "()V"⟩, 101)]
theorem lw_r6 : ∀ q ∈ lw_privs_6, lw_okq q := List.forall_mem_cons.mpr ⟨lw_p80, List.forall_mem_cons.mpr ⟨lw_p81, List.forall_mem_cons.mpr ⟨lw_p82, List.forall_mem_cons.mpr ⟨lw_p83, List.forall_mem_cons.mpr ⟨lw_p84, List.forall_mem_cons.mpr ⟨lw_p85, List.forall_mem_cons.mpr ⟨lw_p86, List.forall_mem_cons.mpr ⟨lw_p87, List.forall_mem_cons.mpr ⟨lw_p88, List.forall_mem_cons.mpr ⟨lw_p89, List.forall_mem_cons.mpr ⟨lw_p90, List.forall_mem_cons.mpr ⟨lw_p91, List.forall_mem_cons.mpr ⟨lw_p92, List.forall_mem_cons.mpr ⟨lw_p93, List.forall_mem_cons.mpr ⟨lw_p94, List.forall_mem_cons.mpr ⟨lw_p95, fun _ h => absurd h List.not_mem_nil⟩⟩⟩⟩⟩⟩⟩⟩⟩⟩⟩⟩⟩⟩⟩⟩
theorem lw_p96 : lw_okq (⟨"WeekBoatsModel", "gives", "(III)V"⟩, 101) := ⟨⟨by decide +kernel, by decide +kernel⟩, tm_6 (i := 183) (by decide +kernel), tm_9 (i := 99) (by decide +kernel), tm_9 (i := 100) (by decide +kernel)⟩
theorem lw_p97 : lw_okq (⟨"WeekBoatsModel", "docksOn", "(IIIII)V"⟩, 101) := ⟨⟨by decide +kernel, by decide +kernel⟩, tm_6 (i := 183) (by decide +kernel), tm_9 (i := 115) (by decide +kernel), tm_9 (i := 116) (by decide +kernel)⟩
theorem lw_p98 : lw_okq (⟨"WeekBoatsModel", "worked", "(I)I"⟩, 101) := ⟨⟨by decide +kernel, by decide +kernel⟩, tm_6 (i := 183) (by decide +kernel), tm_9 (i := 127) (by decide +kernel), tm_9 (i := 128) (by decide +kernel)⟩
theorem lw_p99 : lw_okq (⟨"WeekBoatsModel", "lastEnd", "(I)I"⟩, 101) := ⟨⟨by decide +kernel, by decide +kernel⟩, tm_6 (i := 183) (by decide +kernel), tm_9 (i := 131) (by decide +kernel), tm_9 (i := 132) (by decide +kernel)⟩
theorem lw_p100 : lw_okq (⟨"WeekBoatsModel", "handOf", "(III)I"⟩, 101) := ⟨⟨by decide +kernel, by decide +kernel⟩, tm_6 (i := 183) (by decide +kernel), tm_9 (i := 135) (by decide +kernel), tm_9 (i := 136) (by decide +kernel)⟩
theorem lw_p101 : lw_okq (⟨"WeekBoatsModel", "sumOf", "(I)I"⟩, 101) := ⟨⟨by decide +kernel, by decide +kernel⟩, tm_6 (i := 183) (by decide +kernel), tm_9 (i := 147) (by decide +kernel), tm_9 (i := 148) (by decide +kernel)⟩
theorem lw_p102 : lw_okq (⟨"WeekBoatsModel", "drive", "(II)I"⟩, 101) := ⟨⟨by decide +kernel, by decide +kernel⟩, tm_6 (i := 183) (by decide +kernel), tm_9 (i := 151) (by decide +kernel), tm_9 (i := 152) (by decide +kernel)⟩
theorem lw_p103 : lw_okq (⟨"WeekBoatsModel", "worstOf", "(I)I"⟩, 101) := ⟨⟨by decide +kernel, by decide +kernel⟩, tm_6 (i := 183) (by decide +kernel), tm_9 (i := 155) (by decide +kernel), tm_9 (i := 156) (by decide +kernel)⟩
theorem lw_p104 : lw_okq (⟨"WeekBoatsModel", "nearer", "(III)I"⟩, 101) := ⟨⟨by decide +kernel, by decide +kernel⟩, tm_6 (i := 183) (by decide +kernel), tm_9 (i := 163) (by decide +kernel), tm_9 (i := 164) (by decide +kernel)⟩
theorem lw_p105 : lw_okq (⟨"WeekBoatsModel", "arrives", "(II)I"⟩, 101) := ⟨⟨by decide +kernel, by decide +kernel⟩, tm_6 (i := 183) (by decide +kernel), tm_9 (i := 175) (by decide +kernel), tm_9 (i := 176) (by decide +kernel)⟩
theorem lw_p106 : lw_okq (⟨"WeekBoatsModel", "starts", "()V"⟩, 101) := ⟨⟨by decide +kernel, by decide +kernel⟩, tm_6 (i := 183) (by decide +kernel), tm_9 (i := 186) (by decide +kernel), tm_9 (i := 187) (by decide +kernel)⟩
theorem lw_p107 : lw_okq (⟨"WeekBoatsModel", "aDay", "(IIII)V"⟩, 101) := ⟨⟨by decide +kernel, by decide +kernel⟩, tm_6 (i := 183) (by decide +kernel), tm_9 (i := 191) (by decide +kernel), tm_9 (i := 192) (by decide +kernel)⟩
theorem lw_p108 : lw_okq (⟨"WeekBoatsModel", "falls", "(III)V"⟩, 101) := ⟨⟨by decide +kernel, by decide +kernel⟩, tm_6 (i := 183) (by decide +kernel), tm_9 (i := 196) (by decide +kernel), tm_9 (i := 197) (by decide +kernel)⟩
theorem lw_p109 : lw_okq (⟨"WeekBoatsModel", "kept", "()I"⟩, 101) := ⟨⟨by decide +kernel, by decide +kernel⟩, tm_6 (i := 183) (by decide +kernel), tm_9 (i := 200) (by decide +kernel), tm_9 (i := 201) (by decide +kernel)⟩
def lw_privs_7 : List (MethodName × Nat) := [(⟨"WeekBoatsModel", "gives", "(III)V"⟩, 101), (⟨"WeekBoatsModel", "docksOn", "(IIIII)V"⟩, 101), (⟨"WeekBoatsModel", "worked", "(I)I"⟩, 101), (⟨"WeekBoatsModel", "lastEnd", "(I)I"⟩, 101), (⟨"WeekBoatsModel", "handOf", "(III)I"⟩, 101), (⟨"WeekBoatsModel", "sumOf", "(I)I"⟩, 101), (⟨"WeekBoatsModel", "drive", "(II)I"⟩, 101), (⟨"WeekBoatsModel", "worstOf", "(I)I"⟩, 101), (⟨"WeekBoatsModel", "nearer", "(III)I"⟩, 101), (⟨"WeekBoatsModel", "arrives", "(II)I"⟩, 101), (⟨"WeekBoatsModel", "starts", "()V"⟩, 101), (⟨"WeekBoatsModel", "aDay", "(IIII)V"⟩, 101), (⟨"WeekBoatsModel", "falls", "(III)V"⟩, 101), (⟨"WeekBoatsModel", "kept", "()I"⟩, 101)]
theorem lw_r7 : ∀ q ∈ lw_privs_7, lw_okq q := List.forall_mem_cons.mpr ⟨lw_p96, List.forall_mem_cons.mpr ⟨lw_p97, List.forall_mem_cons.mpr ⟨lw_p98, List.forall_mem_cons.mpr ⟨lw_p99, List.forall_mem_cons.mpr ⟨lw_p100, List.forall_mem_cons.mpr ⟨lw_p101, List.forall_mem_cons.mpr ⟨lw_p102, List.forall_mem_cons.mpr ⟨lw_p103, List.forall_mem_cons.mpr ⟨lw_p104, List.forall_mem_cons.mpr ⟨lw_p105, List.forall_mem_cons.mpr ⟨lw_p106, List.forall_mem_cons.mpr ⟨lw_p107, List.forall_mem_cons.mpr ⟨lw_p108, List.forall_mem_cons.mpr ⟨lw_p109, fun _ h => absurd h List.not_mem_nil⟩⟩⟩⟩⟩⟩⟩⟩⟩⟩⟩⟩⟩⟩
def lw_privs : List (MethodName × Nat) := lw_privs_1 ++ (lw_privs_2 ++ (lw_privs_3 ++ (lw_privs_4 ++ (lw_privs_5 ++ (lw_privs_6 ++ (lw_privs_7))))))
def lw_tbl : List Cond := k2_sels lw_privs ++ tables_1
theorem lw_privs_ok : ∀ q ∈ lw_privs, lw_okq q := by
  show ∀ q ∈ lw_privs_1 ++ (lw_privs_2 ++ (lw_privs_3 ++ (lw_privs_4 ++ (lw_privs_5 ++ (lw_privs_6 ++ (lw_privs_7)))))), lw_okq q
  exact List.forall_mem_append.mpr ⟨lw_r1, List.forall_mem_append.mpr ⟨lw_r2, List.forall_mem_append.mpr ⟨lw_r3, List.forall_mem_append.mpr ⟨lw_r4, List.forall_mem_append.mpr ⟨lw_r5, List.forall_mem_append.mpr ⟨lw_r6, lw_r7⟩⟩⟩⟩⟩⟩
theorem memPl {α : Type} {big ws : List α} (ps : List Nat) (h : ws = ps.filterMap (fun i => big[i]?)) : ∀ w ∈ ws, w ∈ big := by
  intro w hw
  rw [h] at hw
  obtain ⟨i, -, hi⟩ := List.mem_filterMap.mp hw
  exact List.mem_of_getElem? hi
def RX0 : String := "WeekBoats$Boats"
def TX0 : u_T := fun k => match k with
  | 0 => ("WeekBoats$Boats", "canal", "LWeekBoats$Canal;", true)
  | 1 => ("WeekBoats$Boats", "rules", "LWeekBoats$Rules;", true)
  | 2 => ("WeekBoats$Boats", "voyage", "LWeekBoats$Voyage;", true)
  | 3 => ("WeekBoats$Boats", "berths", "[I", true)
  | 4 => ("WeekBoats$Boats", "age", "[I", true)
  | 5 => ("WeekBoats$Boats", "home", "[I", true)
  | 6 => ("WeekBoats$Boats", "taught", "[I", true)
  | 7 => ("WeekBoats$Boats", "count", "I", false)
  | 8 => ("WeekBoats$Boats", "logPoint", "[[I", true)
  | 9 => ("WeekBoats$Boats", "logTime", "[[I", true)
  | 10 => ("WeekBoats$Boats", "logs", "[I", true)
  | _ => ("WeekBoats$Boats", "tonightAt", "[I", true)
def tyX0 : Nat → FieldType := fun k => match k with
  | 0 => .object "WeekBoats$Canal"
  | 1 => .object "WeekBoats$Rules"
  | 2 => .object "WeekBoats$Voyage"
  | 3 => .array .int
  | 4 => .array .int
  | 5 => .array .int
  | 6 => .array .int
  | 7 => .int
  | 8 => .array (.array .int)
  | 9 => .array (.array .int)
  | 10 => .array .int
  | _ => .array .int
abbrev wsX00 : List Cond := u_ws RX0 TX0 12
theorem nmX0 : ∀ a, a < 12 → ∀ b, b < 12 → a ≠ b → (TX0 a).2.1 ≠ (TX0 b).2.1 := by decide +kernel
theorem tyX0_ok : ∀ k, k < 12 → parseFieldDescriptor (TX0 k).2.2.1 = some (tyX0 k) := by decide +kernel
abbrev cX0_init : ByteArray := prog_2_method_1_code
def yX0_init : MethodName := ⟨RX0, "<init>", "(LWeekBoats$Canal;LWeekBoats$Rules;LWeekBoats$Voyage;)V"⟩
abbrev cX0_add : ByteArray := prog_2_method_2_code
def yX0_add : MethodName := ⟨RX0, "add", "(IIII)I"⟩
abbrev cX0_addLog : ByteArray := prog_2_method_3_code
def yX0_addLog : MethodName := ⟨RX0, "addLog", "(III)I"⟩
abbrev cX0_placeOf : ByteArray := prog_2_method_4_code
def yX0_placeOf : MethodName := ⟨RX0, "placeOf", "(II)I"⟩
abbrev cX0_timeOf : ByteArray := prog_2_method_5_code
def yX0_timeOf : MethodName := ⟨RX0, "timeOf", "(II)I"⟩
abbrev cX0_canHaveBeen : ByteArray := prog_2_method_6_code
def yX0_canHaveBeen : MethodName := ⟨RX0, "canHaveBeen", "(IIII)Z"⟩
abbrev cX0_canBetween : ByteArray := prog_2_method_7_code
def yX0_canBetween : MethodName := ⟨RX0, "canBetween", "(IIIII)Z"⟩
abbrev cX0_settleTonight : ByteArray := prog_2_method_8_code
def yX0_settleTonight : MethodName := ⟨RX0, "settleTonight", "(I)V"⟩
abbrev cX0_lastLog : ByteArray := prog_2_method_9_code
def yX0_lastLog : MethodName := ⟨RX0, "lastLog", "(II)I"⟩
abbrev cX0_crowd : ByteArray := prog_2_method_10_code
def yX0_crowd : MethodName := ⟨RX0, "crowd", "()I"⟩
abbrev cX0_harmOfLatestWay : ByteArray := prog_2_method_11_code
def yX0_harmOfLatestWay : MethodName := ⟨RX0, "harmOfLatestWay", "(I)I"⟩
abbrev cX0_harmOfLock : ByteArray := prog_2_method_12_code
def yX0_harmOfLock : MethodName := ⟨RX0, "harmOfLock", "(II)I"⟩
abbrev cX0_priceLine : ByteArray := prog_2_method_13_code
def yX0_priceLine : MethodName := ⟨RX0, "priceLine", "(IIZ)I"⟩
abbrev cX0_holdLine : ByteArray := prog_2_method_14_code
def yX0_holdLine : MethodName := ⟨RX0, "holdLine", "(IIII)I"⟩
def RX1 : String := "WeekBoats$Bookings"
def TX1 : u_T := fun k => match k with
  | 0 => ("WeekBoats$Bookings", "from", "[I", true)
  | 1 => ("WeekBoats$Bookings", "to", "[I", true)
  | 2 => ("WeekBoats$Bookings", "week", "[I", true)
  | 3 => ("WeekBoats$Bookings", "berths", "[I", true)
  | 4 => ("WeekBoats$Bookings", "count", "I", false)
  | 5 => ("WeekBoats$Bookings", "inOrder", "[I", true)
  | 6 => ("WeekBoats$Bookings", "boatBerths", "[I", true)
  | 7 => ("WeekBoats$Bookings", "boatHome", "[I", true)
  | 8 => ("WeekBoats$Bookings", "boatAt", "[I", true)
  | 9 => ("WeekBoats$Bookings", "boatWeek", "[I", true)
  | 10 => ("WeekBoats$Bookings", "asked", "I", false)
  | 11 => ("WeekBoats$Bookings", "settled", "I", false)
  | 12 => ("WeekBoats$Bookings", "hope", "[I", true)
  | 13 => ("WeekBoats$Bookings", "boatOf", "[I", true)
  | 14 => ("WeekBoats$Bookings", "bestBoat", "[I", true)
  | 15 => ("WeekBoats$Bookings", "bestServed", "I", false)
  | _ => ("WeekBoats$Bookings", "bestHome", "I", false)
def tyX1 : Nat → FieldType := fun k => match k with
  | 0 => .array .int
  | 1 => .array .int
  | 2 => .array .int
  | 3 => .array .int
  | 4 => .int
  | 5 => .array .int
  | 6 => .array .int
  | 7 => .array .int
  | 8 => .array .int
  | 9 => .array .int
  | 10 => .int
  | 11 => .int
  | 12 => .array .int
  | 13 => .array .int
  | 14 => .array .int
  | 15 => .int
  | _ => .int
abbrev wsX10 : List Cond := u_ws RX1 TX1 17
theorem nmX1 : ∀ a, a < 17 → ∀ b, b < 17 → a ≠ b → (TX1 a).2.1 ≠ (TX1 b).2.1 := by decide +kernel
theorem tyX1_ok : ∀ k, k < 17 → parseFieldDescriptor (TX1 k).2.2.1 = some (tyX1 k) := by decide +kernel
abbrev cX1_init : ByteArray := prog_3_method_1_code
def yX1_init : MethodName := ⟨RX1, "<init>", "()V"⟩
abbrev cX1_add : ByteArray := prog_3_method_2_code
def yX1_add : MethodName := ⟨RX1, "add", "(IIII)I"⟩
abbrev cX1_putInOrder : ByteArray := prog_3_method_3_code
def yX1_putInOrder : MethodName := ⟨RX1, "putInOrder", "()V"⟩
abbrev cX1_hire : ByteArray := prog_3_method_4_code
def yX1_hire : MethodName := ⟨RX1, "hire", "(III)V"⟩
abbrev cX1_giveBest : ByteArray := prog_3_method_5_code
def yX1_giveBest : MethodName := ⟨RX1, "giveBest", "(I)V"⟩
abbrev cX1_canEverBeGiven : ByteArray := prog_3_method_6_code
def yX1_canEverBeGiven : MethodName := ⟨RX1, "canEverBeGiven", "(I)Z"⟩
abbrev cX1_canCome : ByteArray := prog_3_method_7_code
def yX1_canCome : MethodName := ⟨RX1, "canCome", "(II)Z"⟩
abbrev cX1_giveNext : ByteArray := prog_3_method_8_code
def yX1_giveNext : MethodName := ⟨RX1, "giveNext", "(LWeekBoats$Bookings;II)V"⟩
abbrev cX1_canHave : ByteArray := prog_3_method_9_code
def yX1_canHave : MethodName := ⟨RX1, "canHave", "(II)Z"⟩
abbrev cX1_compare : ByteArray := prog_3_method_10_code
def yX1_compare : MethodName := ⟨RX1, "compare", "(I)V"⟩
def RX2 : String := "WeekBoats$Canal"
def TX2 : u_T := fun k => match k with
  | 0 => ("WeekBoats$Canal", "miles", "[I", true)
  | 1 => ("WeekBoats$Canal", "locks", "[I", true)
  | 2 => ("WeekBoats$Canal", "road", "[I", true)
  | 3 => ("WeekBoats$Canal", "stopped", "[I", true)
  | 4 => ("WeekBoats$Canal", "stoppages", "I", false)
  | 5 => ("WeekBoats$Canal", "water", "I", false)
  | _ => ("WeekBoats$Canal", "pumps", "I", false)
def tyX2 : Nat → FieldType := fun k => match k with
  | 0 => .array .int
  | 1 => .array .int
  | 2 => .array .int
  | 3 => .array .int
  | 4 => .int
  | 5 => .int
  | _ => .int
abbrev wsX20 : List Cond := u_ws RX2 TX2 7
theorem nmX2 : ∀ a, a < 7 → ∀ b, b < 7 → a ≠ b → (TX2 a).2.1 ≠ (TX2 b).2.1 := by decide +kernel
theorem tyX2_ok : ∀ k, k < 7 → parseFieldDescriptor (TX2 k).2.2.1 = some (tyX2 k) := by decide +kernel
abbrev cX2_init : ByteArray := prog_4_method_1_code
def yX2_init : MethodName := ⟨RX2, "<init>", "()V"⟩
abbrev cX2_stop : ByteArray := prog_4_method_2_code
def yX2_stop : MethodName := ⟨RX2, "stop", "(III)V"⟩
abbrev cX2_reopen : ByteArray := prog_4_method_3_code
def yX2_reopen : MethodName := ⟨RX2, "reopen", "()V"⟩
abbrev cX2_setPump : ByteArray := prog_4_method_4_code
def yX2_setPump : MethodName := ⟨RX2, "setPump", "(IZ)V"⟩
def RX3 : String := "WeekBoats$LockQueue"
def TX3 : u_T := fun k => match k with
  | 0 => ("WeekBoats$LockQueue", "minute", "[I", true)
  | 1 => ("WeekBoats$LockQueue", "way", "[I", true)
  | 2 => ("WeekBoats$LockQueue", "count", "I", false)
  | 3 => ("WeekBoats$LockQueue", "waitAsCome", "I", false)
  | 4 => ("WeekBoats$LockQueue", "bestWait", "I", false)
  | 5 => ("WeekBoats$LockQueue", "order", "[I", true)
  | _ => ("WeekBoats$LockQueue", "best", "[I", true)
def tyX3 : Nat → FieldType := fun k => match k with
  | 0 => .array .int
  | 1 => .array .int
  | 2 => .int
  | 3 => .int
  | 4 => .int
  | 5 => .array .int
  | _ => .array .int
abbrev wsX30 : List Cond := u_ws RX3 TX3 7
theorem nmX3 : ∀ a, a < 7 → ∀ b, b < 7 → a ≠ b → (TX3 a).2.1 ≠ (TX3 b).2.1 := by decide +kernel
theorem tyX3_ok : ∀ k, k < 7 → parseFieldDescriptor (TX3 k).2.2.1 = some (tyX3 k) := by decide +kernel
abbrev cX3_init : ByteArray := prog_5_method_1_code
def yX3_init : MethodName := ⟨RX3, "<init>", "()V"⟩
abbrev cX3_clear : ByteArray := prog_5_method_2_code
def yX3_clear : MethodName := ⟨RX3, "clear", "()V"⟩
abbrev cX3_add : ByteArray := prog_5_method_3_code
def yX3_add : MethodName := ⟨RX3, "add", "(II)I"⟩
abbrev cX3_findBest : ByteArray := prog_5_method_4_code
def yX3_findBest : MethodName := ⟨RX3, "findBest", "()V"⟩
abbrev cX3_waitOf : ByteArray := prog_5_method_5_code
def yX3_waitOf : MethodName := ⟨RX3, "waitOf", "([I)I"⟩
abbrev cX3_minutesOf : ByteArray := prog_5_method_6_code
def yX3_minutesOf : MethodName := ⟨RX3, "minutesOf", "([II)I"⟩
abbrev cX3_putNext : ByteArray := prog_5_method_7_code
def yX3_putNext : MethodName := ⟨RX3, "putNext", "(LWeekBoats$LockQueue;IIII)V"⟩
abbrev cX3_lockfulsAsCome : ByteArray := prog_5_method_8_code
def yX3_lockfulsAsCome : MethodName := ⟨RX3, "lockfulsAsCome", "()I"⟩
abbrev cX3_lockfulsAtBest : ByteArray := prog_5_method_9_code
def yX3_lockfulsAtBest : MethodName := ⟨RX3, "lockfulsAtBest", "()I"⟩
abbrev cX3_atBest : ByteArray := prog_5_method_10_code
def yX3_atBest : MethodName := ⟨RX3, "atBest", "(I)I"⟩
def RX4 : String := "WeekBoats$Parser"
def TX4 : u_T := fun k => match k with
  | 0 => ("WeekBoats$Parser", "draft", "LWeekBoats$Rules;", true)
  | 1 => ("WeekBoats$Parser", "tape", "[I", true)
  | 2 => ("WeekBoats$Parser", "length", "I", false)
  | 3 => ("WeekBoats$Parser", "token", "[I", true)
  | 4 => ("WeekBoats$Parser", "place", "[I", true)
  | 5 => ("WeekBoats$Parser", "tokens", "I", false)
  | 6 => ("WeekBoats$Parser", "at", "I", false)
  | 7 => ("WeekBoats$Parser", "fault", "I", false)
  | _ => ("WeekBoats$Parser", "faultPlace", "I", false)
def tyX4 : Nat → FieldType := fun k => match k with
  | 0 => .object "WeekBoats$Rules"
  | 1 => .array .int
  | 2 => .int
  | 3 => .array .int
  | 4 => .array .int
  | 5 => .int
  | 6 => .int
  | 7 => .int
  | _ => .int
abbrev wsX40 : List Cond := u_ws RX4 TX4 9
theorem nmX4 : ∀ a, a < 9 → ∀ b, b < 9 → a ≠ b → (TX4 a).2.1 ≠ (TX4 b).2.1 := by decide +kernel
theorem tyX4_ok : ∀ k, k < 9 → parseFieldDescriptor (TX4 k).2.2.1 = some (tyX4 k) := by decide +kernel
abbrev cX4_init : ByteArray := prog_6_method_1_code
def yX4_init : MethodName := ⟨RX4, "<init>", "(LWeekBoats$Rules;)V"⟩
abbrev cX4_put : ByteArray := prog_6_method_2_code
def yX4_put : MethodName := ⟨RX4, "put", "(I)V"⟩
abbrev cX4_read : ByteArray := prog_6_method_3_code
def yX4_read : MethodName := ⟨RX4, "read", "()I"⟩
abbrev cX4_scan : ByteArray := prog_6_method_4_code
def yX4_scan : MethodName := ⟨RX4, "scan", "()V"⟩
abbrev cX4_add : ByteArray := prog_6_method_5_code
def yX4_add : MethodName := ⟨RX4, "add", "(II)V"⟩
abbrev cX4_isLetter : ByteArray := prog_6_method_6_code
def yX4_isLetter : MethodName := ⟨RX4, "isLetter", "(I)Z"⟩
abbrev cX4_isDigit : ByteArray := prog_6_method_7_code
def yX4_isDigit : MethodName := ⟨RX4, "isDigit", "(I)Z"⟩
abbrev cX4_endOfWord : ByteArray := prog_6_method_8_code
def yX4_endOfWord : MethodName := ⟨RX4, "endOfWord", "(I)I"⟩
abbrev cX4_endOfDigits : ByteArray := prog_6_method_9_code
def yX4_endOfDigits : MethodName := ⟨RX4, "endOfDigits", "(I)I"⟩
abbrev cX4_numberOf : ByteArray := prog_6_method_10_code
def yX4_numberOf : MethodName := ⟨RX4, "numberOf", "(II)I"⟩
abbrev cX4_wordOf : ByteArray := prog_6_method_11_code
def yX4_wordOf : MethodName := ⟨RX4, "wordOf", "(II)I"⟩
abbrev cX4_isSame : ByteArray := prog_6_method_12_code
def yX4_isSame : MethodName := ⟨RX4, "isSame", "(III)Z"⟩
abbrev cX4_fail : ByteArray := prog_6_method_13_code
def yX4_fail : MethodName := ⟨RX4, "fail", "(I)V"⟩
abbrev cX4_is : ByteArray := prog_6_method_14_code
def yX4_is : MethodName := ⟨RX4, "is", "(I)Z"⟩
abbrev cX4_goOn : ByteArray := prog_6_method_15_code
def yX4_goOn : MethodName := ⟨RX4, "goOn", "()V"⟩
abbrev cX4_readLine : ByteArray := prog_6_method_16_code
def yX4_readLine : MethodName := ⟨RX4, "readLine", "()V"⟩
abbrev cX4_readTunnel : ByteArray := prog_6_method_17_code
def yX4_readTunnel : MethodName := ⟨RX4, "readTunnel", "()V"⟩
abbrev cX4_numberUpTo : ByteArray := prog_6_method_18_code
def yX4_numberUpTo : MethodName := ⟨RX4, "numberUpTo", "(I)I"⟩
abbrev cX4_demand : ByteArray := prog_6_method_19_code
def yX4_demand : MethodName := ⟨RX4, "demand", "(I)V"⟩
abbrev cX4_readEither : ByteArray := prog_6_method_20_code
def yX4_readEither : MethodName := ⟨RX4, "readEither", "(I)V"⟩
abbrev cX4_readAll : ByteArray := prog_6_method_21_code
def yX4_readAll : MethodName := ⟨RX4, "readAll", "(I)V"⟩
abbrev cX4_readOne : ByteArray := prog_6_method_22_code
def yX4_readOne : MethodName := ⟨RX4, "readOne", "(I)V"⟩
abbrev cX4_openOneMore : ByteArray := prog_6_method_23_code
def yX4_openOneMore : MethodName := ⟨RX4, "openOneMore", "(I)V"⟩
abbrev cX4_demandComparing : ByteArray := prog_6_method_24_code
def yX4_demandComparing : MethodName := ⟨RX4, "demandComparing", "()V"⟩
abbrev cX4_readSum : ByteArray := prog_6_method_25_code
def yX4_readSum : MethodName := ⟨RX4, "readSum", "()V"⟩
abbrev cX4_readProduct : ByteArray := prog_6_method_26_code
def yX4_readProduct : MethodName := ⟨RX4, "readProduct", "()V"⟩
abbrev cX4_readUnit : ByteArray := prog_6_method_27_code
def yX4_readUnit : MethodName := ⟨RX4, "readUnit", "()V"⟩
abbrev cX4_readPart : ByteArray := prog_6_method_28_code
def yX4_readPart : MethodName := ⟨RX4, "readPart", "()V"⟩
def RX5 : String := "WeekBoats$Rain"
def TX5 : u_T := fun k => match k with
  | 0 => ("WeekBoats$Rain", "now", "[I", false)
  | 1 => ("WeekBoats$Rain", "then", "[I", false)
  | _ => ("WeekBoats$Rain", "kept", "I", false)
def tyX5 : Nat → FieldType := fun k => match k with
  | 0 => .array .int
  | 1 => .array .int
  | _ => .int
abbrev wsX50 : List Cond := u_ws RX5 TX5 3
theorem nmX5 : ∀ a, a < 3 → ∀ b, b < 3 → a ≠ b → (TX5 a).2.1 ≠ (TX5 b).2.1 := by decide +kernel
theorem tyX5_ok : ∀ k, k < 3 → parseFieldDescriptor (TX5 k).2.2.1 = some (tyX5 k) := by decide +kernel
abbrev cX5_init : ByteArray := prog_7_method_1_code
def yX5_init : MethodName := ⟨RX5, "<init>", "()V"⟩
abbrev cX5_start : ByteArray := prog_7_method_2_code
def yX5_start : MethodName := ⟨RX5, "start", "(II)V"⟩
abbrev cX5_passDay : ByteArray := prog_7_method_3_code
def yX5_passDay : MethodName := ⟨RX5, "passDay", "(IIII)V"⟩
def RX6 : String := "WeekBoats$Rules"
def TX6 : u_T := fun k => match k with
  | 0 => ("WeekBoats$Rules", "step", "[I", true)
  | 1 => ("WeekBoats$Rules", "with", "[I", true)
  | 2 => ("WeekBoats$Rules", "steps", "I", false)
  | 3 => ("WeekBoats$Rules", "lines", "I", false)
  | 4 => ("WeekBoats$Rules", "kind", "[I", true)
  | 5 => ("WeekBoats$Rules", "first", "[I", true)
  | 6 => ("WeekBoats$Rules", "when", "[I", true)
  | 7 => ("WeekBoats$Rules", "end", "[I", true)
  | 8 => ("WeekBoats$Rules", "hourFrom", "[I", true)
  | 9 => ("WeekBoats$Rules", "hourTo", "[I", true)
  | 10 => ("WeekBoats$Rules", "tunnels", "I", false)
  | 11 => ("WeekBoats$Rules", "tunnelFrom", "[I", true)
  | 12 => ("WeekBoats$Rules", "tunnelTo", "[I", true)
  | 13 => ("WeekBoats$Rules", "asked", "[I", true)
  | _ => ("WeekBoats$Rules", "stack", "[I", true)
def tyX6 : Nat → FieldType := fun k => match k with
  | 0 => .array .int
  | 1 => .array .int
  | 2 => .int
  | 3 => .int
  | 4 => .array .int
  | 5 => .array .int
  | 6 => .array .int
  | 7 => .array .int
  | 8 => .array .int
  | 9 => .array .int
  | 10 => .int
  | 11 => .array .int
  | 12 => .array .int
  | 13 => .array .int
  | _ => .array .int
abbrev wsX60 : List Cond := u_ws RX6 TX6 15
theorem nmX6 : ∀ a, a < 15 → ∀ b, b < 15 → a ≠ b → (TX6 a).2.1 ≠ (TX6 b).2.1 := by decide +kernel
theorem tyX6_ok : ∀ k, k < 15 → parseFieldDescriptor (TX6 k).2.2.1 = some (tyX6 k) := by decide +kernel
abbrev cX6_init : ByteArray := prog_8_method_1_code
def yX6_init : MethodName := ⟨RX6, "<init>", "()V"⟩
abbrev cX6_clear : ByteArray := prog_8_method_2_code
def yX6_clear : MethodName := ⟨RX6, "clear", "()V"⟩
abbrev cX6_takeOver : ByteArray := prog_8_method_3_code
def yX6_takeOver : MethodName := ⟨RX6, "takeOver", "(LWeekBoats$Rules;)V"⟩
abbrev cX6_put : ByteArray := prog_8_method_4_code
def yX6_put : MethodName := ⟨RX6, "put", "(II)V"⟩
abbrev cX6_hasTunnel : ByteArray := prog_8_method_5_code
def yX6_hasTunnel : MethodName := ⟨RX6, "hasTunnel", "(I)Z"⟩
abbrev cX6_isTunnel : ByteArray := prog_8_method_6_code
def yX6_isTunnel : MethodName := ⟨RX6, "isTunnel", "(I)Z"⟩
abbrev cX6_askDay : ByteArray := prog_8_method_7_code
def yX6_askDay : MethodName := ⟨RX6, "askDay", "(II)V"⟩
abbrev cX6_askWeek : ByteArray := prog_8_method_8_code
def yX6_askWeek : MethodName := ⟨RX6, "askWeek", "(I)V"⟩
abbrev cX6_serving : ByteArray := prog_8_method_9_code
def yX6_serving : MethodName := ⟨RX6, "serving", "(I)I"⟩
abbrev cX6_valueOf : ByteArray := prog_8_method_10_code
def yX6_valueOf : MethodName := ⟨RX6, "valueOf", "(I)I"⟩
abbrev cX6_run : ByteArray := prog_8_method_11_code
def yX6_run : MethodName := ⟨RX6, "run", "(II)I"⟩
abbrev cX6_askedOf : ByteArray := prog_8_method_12_code
def yX6_askedOf : MethodName := ⟨RX6, "askedOf", "(I)I"⟩
abbrev cX6_alone : ByteArray := prog_8_method_13_code
def yX6_alone : MethodName := ⟨RX6, "alone", "(III)I"⟩
abbrev cX6_both : ByteArray := prog_8_method_14_code
def yX6_both : MethodName := ⟨RX6, "both", "(III)I"⟩
def RX7 : String := "WeekBoats$Trips"
def TX7 : u_T := fun k => match k with
  | 0 => ("WeekBoats$Trips", "boats", "LWeekBoats$Boats;", true)
  | 1 => ("WeekBoats$Trips", "rules", "LWeekBoats$Rules;", true)
  | 2 => ("WeekBoats$Trips", "voyage", "LWeekBoats$Voyage;", true)
  | 3 => ("WeekBoats$Trips", "boat", "[I", true)
  | 4 => ("WeekBoats$Trips", "from", "[I", true)
  | 5 => ("WeekBoats$Trips", "to", "[I", true)
  | 6 => ("WeekBoats$Trips", "time", "[I", true)
  | 7 => ("WeekBoats$Trips", "due", "[I", true)
  | _ => ("WeekBoats$Trips", "count", "I", false)
def tyX7 : Nat → FieldType := fun k => match k with
  | 0 => .object "WeekBoats$Boats"
  | 1 => .object "WeekBoats$Rules"
  | 2 => .object "WeekBoats$Voyage"
  | 3 => .array .int
  | 4 => .array .int
  | 5 => .array .int
  | 6 => .array .int
  | 7 => .array .int
  | _ => .int
abbrev wsX70 : List Cond := u_ws RX7 TX7 9
theorem nmX7 : ∀ a, a < 9 → ∀ b, b < 9 → a ≠ b → (TX7 a).2.1 ≠ (TX7 b).2.1 := by decide +kernel
theorem tyX7_ok : ∀ k, k < 9 → parseFieldDescriptor (TX7 k).2.2.1 = some (tyX7 k) := by decide +kernel
abbrev cX7_init : ByteArray := prog_9_method_1_code
def yX7_init : MethodName := ⟨RX7, "<init>", "(LWeekBoats$Boats;LWeekBoats$Rules;LWeekBoats$Voyage;)V"⟩
abbrev cX7_add : ByteArray := prog_9_method_2_code
def yX7_add : MethodName := ⟨RX7, "add", "(IIIII)I"⟩
abbrev cX7_lateBy : ByteArray := prog_9_method_3_code
def yX7_lateBy : MethodName := ⟨RX7, "lateBy", "(IZ)I"⟩
abbrev cX7_howManyLate : ByteArray := prog_9_method_4_code
def yX7_howManyLate : MethodName := ⟨RX7, "howManyLate", "()I"⟩
abbrev cX7_turningBack : ByteArray := prog_9_method_5_code
def yX7_turningBack : MethodName := ⟨RX7, "turningBack", "(I)I"⟩
abbrev cX7_isBackInTime : ByteArray := prog_9_method_6_code
def yX7_isBackInTime : MethodName := ⟨RX7, "isBackInTime", "(II)Z"⟩
abbrev cX7_refund : ByteArray := prog_9_method_7_code
def yX7_refund : MethodName := ⟨RX7, "refund", "(I)I"⟩
def RX8 : String := "WeekBoats$Vans"
def TX8 : u_T := fun k => match k with
  | 0 => ("WeekBoats$Vans", "canal", "LWeekBoats$Canal;", true)
  | 1 => ("WeekBoats$Vans", "weight", "[I", true)
  | 2 => ("WeekBoats$Vans", "along", "[I", true)
  | 3 => ("WeekBoats$Vans", "couple", "I", false)
  | 4 => ("WeekBoats$Vans", "coupleSum", "I", false)
  | 5 => ("WeekBoats$Vans", "calls", "I", false)
  | 6 => ("WeekBoats$Vans", "callMinute", "[I", true)
  | 7 => ("WeekBoats$Vans", "callPoint", "[I", true)
  | 8 => ("WeekBoats$Vans", "callWork", "[I", true)
  | 9 => ("WeekBoats$Vans", "taker", "[I", true)
  | 10 => ("WeekBoats$Vans", "vanAt", "[I", true)
  | 11 => ("WeekBoats$Vans", "vanFree", "[I", true)
  | 12 => ("WeekBoats$Vans", "waitSum", "I", false)
  | 13 => ("WeekBoats$Vans", "waitLongest", "I", false)
  | _ => ("WeekBoats$Vans", "lastDone", "I", false)
def tyX8 : Nat → FieldType := fun k => match k with
  | 0 => .object "WeekBoats$Canal"
  | 1 => .array .int
  | 2 => .array .int
  | 3 => .int
  | 4 => .int
  | 5 => .int
  | 6 => .array .int
  | 7 => .array .int
  | 8 => .array .int
  | 9 => .array .int
  | 10 => .array .int
  | 11 => .array .int
  | 12 => .int
  | 13 => .int
  | _ => .int
abbrev wsX80 : List Cond := u_ws RX8 TX8 15
theorem nmX8 : ∀ a, a < 15 → ∀ b, b < 15 → a ≠ b → (TX8 a).2.1 ≠ (TX8 b).2.1 := by decide +kernel
theorem tyX8_ok : ∀ k, k < 15 → parseFieldDescriptor (TX8 k).2.2.1 = some (tyX8 k) := by decide +kernel
abbrev cX8_init : ByteArray := prog_10_method_1_code
def yX8_init : MethodName := ⟨RX8, "<init>", "(LWeekBoats$Canal;)V"⟩
abbrev cX8_measure : ByteArray := prog_10_method_2_code
def yX8_measure : MethodName := ⟨RX8, "measure", "()V"⟩
abbrev cX8_minutes : ByteArray := prog_10_method_3_code
def yX8_minutes : MethodName := ⟨RX8, "minutes", "(II)I"⟩
abbrev cX8_sumFrom : ByteArray := prog_10_method_4_code
def yX8_sumFrom : MethodName := ⟨RX8, "sumFrom", "(II)I"⟩
abbrev cX8_bestPoint : ByteArray := prog_10_method_5_code
def yX8_bestPoint : MethodName := ⟨RX8, "bestPoint", "()I"⟩
abbrev cX8_worstFrom : ByteArray := prog_10_method_6_code
def yX8_worstFrom : MethodName := ⟨RX8, "worstFrom", "(I)I"⟩
abbrev cX8_findCouple : ByteArray := prog_10_method_7_code
def yX8_findCouple : MethodName := ⟨RX8, "findCouple", "()V"⟩
abbrev cX8_addCall : ByteArray := prog_10_method_8_code
def yX8_addCall : MethodName := ⟨RX8, "addCall", "(III)I"⟩
abbrev cX8_takeCalls : ByteArray := prog_10_method_9_code
def yX8_takeCalls : MethodName := ⟨RX8, "takeCalls", "(II)V"⟩
abbrev cX8_comesAt : ByteArray := prog_10_method_10_code
def yX8_comesAt : MethodName := ⟨RX8, "comesAt", "(II)I"⟩
abbrev cX8_takerOf : ByteArray := prog_10_method_11_code
def yX8_takerOf : MethodName := ⟨RX8, "takerOf", "(I)I"⟩
def RX9 : String := "WeekBoats$Voyage"
def TX9 : u_T := fun k => match k with
  | 0 => ("WeekBoats$Voyage", "canal", "LWeekBoats$Canal;", true)
  | 1 => ("WeekBoats$Voyage", "rules", "LWeekBoats$Rules;", true)
  | 2 => ("WeekBoats$Voyage", "openFrom", "[I", true)
  | 3 => ("WeekBoats$Voyage", "openTo", "[I", true)
  | 4 => ("WeekBoats$Voyage", "arrival", "[I", true)
  | 5 => ("WeekBoats$Voyage", "locksBegun", "[I", true)
  | 6 => ("WeekBoats$Voyage", "lockMinutes", "I", false)
  | _ => ("WeekBoats$Voyage", "heedsStoppages", "Z", false)
def tyX9 : Nat → FieldType := fun k => match k with
  | 0 => .object "WeekBoats$Canal"
  | 1 => .object "WeekBoats$Rules"
  | 2 => .array .int
  | 3 => .array .int
  | 4 => .array .int
  | 5 => .array .int
  | 6 => .int
  | _ => .boolean
abbrev wsX90 : List Cond := u_ws RX9 TX9 8
theorem nmX9 : ∀ a, a < 8 → ∀ b, b < 8 → a ≠ b → (TX9 a).2.1 ≠ (TX9 b).2.1 := by decide +kernel
theorem tyX9_ok : ∀ k, k < 8 → parseFieldDescriptor (TX9 k).2.2.1 = some (tyX9 k) := by decide +kernel
abbrev cX9_init : ByteArray := prog_11_method_1_code
def yX9_init : MethodName := ⟨RX9, "<init>", "(LWeekBoats$Canal;LWeekBoats$Rules;)V"⟩
abbrev cX9_learnHours : ByteArray := prog_11_method_2_code
def yX9_learnHours : MethodName := ⟨RX9, "learnHours", "()V"⟩
abbrev cX9_setOut : ByteArray := prog_11_method_3_code
def yX9_setOut : MethodName := ⟨RX9, "setOut", "(IZ)V"⟩
abbrev cX9_comesTo : ByteArray := prog_11_method_4_code
def yX9_comesTo : MethodName := ⟨RX9, "comesTo", "(IIIIZ)I"⟩
abbrev cX9_reach : ByteArray := prog_11_method_5_code
def yX9_reach : MethodName := ⟨RX9, "reach", "(III)V"⟩
abbrev cX9_reached : ByteArray := prog_11_method_6_code
def yX9_reached : MethodName := ⟨RX9, "reached", "(I)I"⟩
abbrev cX9_nextPump : ByteArray := prog_11_method_7_code
def yX9_nextPump : MethodName := ⟨RX9, "nextPump", "()I"⟩
abbrev cX9_pass : ByteArray := prog_11_method_8_code
def yX9_pass : MethodName := ⟨RX9, "pass", "(IZI)I"⟩
abbrev cX9_step : ByteArray := prog_11_method_9_code
def yX9_step : MethodName := ⟨RX9, "step", "(IIII)I"⟩
abbrev cX9_begins : ByteArray := prog_11_method_10_code
def yX9_begins : MethodName := ⟨RX9, "begins", "(III)I"⟩
abbrev cX9_isStopped : ByteArray := prog_11_method_11_code
def yX9_isStopped : MethodName := ⟨RX9, "isStopped", "(II)Z"⟩
abbrev cX9_firstHour : ByteArray := prog_11_method_12_code
def yX9_firstHour : MethodName := ⟨RX9, "firstHour", "(III)I"⟩
abbrev cX9_hourBehind : ByteArray := prog_11_method_13_code
def yX9_hourBehind : MethodName := ⟨RX9, "hourBehind", "(III)I"⟩
def RX10 : String := "WeekBoats$Yard"
def TX10 : u_T := fun k => match k with
  | 0 => ("WeekBoats$Yard", "date", "[I", true)
  | 1 => ("WeekBoats$Yard", "days", "[I", true)
  | 2 => ("WeekBoats$Yard", "docked", "I", false)
  | 3 => ("WeekBoats$Yard", "dockBoat", "[I", true)
  | 4 => ("WeekBoats$Yard", "dockLate", "[I", true)
  | 5 => ("WeekBoats$Yard", "dockSum", "[I", true)
  | 6 => ("WeekBoats$Yard", "dockNext", "[I", true)
  | 7 => ("WeekBoats$Yard", "jobs", "I", false)
  | 8 => ("WeekBoats$Yard", "minutes", "[I", true)
  | 9 => ("WeekBoats$Yard", "handEnd", "[I", true)
  | 10 => ("WeekBoats$Yard", "hand", "[I", true)
  | 11 => ("WeekBoats$Yard", "bestHand", "[I", true)
  | 12 => ("WeekBoats$Yard", "bestEnd", "I", false)
  | 13 => ("WeekBoats$Yard", "workedEnd", "I", false)
  | _ => ("WeekBoats$Yard", "over", "I", false)
def tyX10 : Nat → FieldType := fun k => match k with
  | 0 => .array .int
  | 1 => .array .int
  | 2 => .int
  | 3 => .array .int
  | 4 => .array .int
  | 5 => .array .int
  | 6 => .array .int
  | 7 => .int
  | 8 => .array .int
  | 9 => .array .int
  | 10 => .array .int
  | 11 => .array .int
  | 12 => .int
  | 13 => .int
  | _ => .int
abbrev wsX100 : List Cond := u_ws RX10 TX10 15
theorem nmX10 : ∀ a, a < 15 → ∀ b, b < 15 → a ≠ b → (TX10 a).2.1 ≠ (TX10 b).2.1 := by decide +kernel
theorem tyX10_ok : ∀ k, k < 15 → parseFieldDescriptor (TX10 k).2.2.1 = some (tyX10 k) := by decide +kernel
abbrev cX10_init : ByteArray := prog_12_method_1_code
def yX10_init : MethodName := ⟨RX10, "<init>", "()V"⟩
abbrev cX10_tellDock : ByteArray := prog_12_method_2_code
def yX10_tellDock : MethodName := ⟨RX10, "tellDock", "(III)Z"⟩
abbrev cX10_othersInDock : ByteArray := prog_12_method_3_code
def yX10_othersInDock : MethodName := ⟨RX10, "othersInDock", "(I)I"⟩
abbrev cX10_orderDock : ByteArray := prog_12_method_4_code
def yX10_orderDock : MethodName := ⟨RX10, "orderDock", "()V"⟩
abbrev cX10_chooseNext : ByteArray := prog_12_method_5_code
def yX10_chooseNext : MethodName := ⟨RX10, "chooseNext", "(I)V"⟩
abbrev cX10_isBetter : ByteArray := prog_12_method_6_code
def yX10_isBetter : MethodName := ⟨RX10, "isBetter", "(III)Z"⟩
abbrev cX10_dockedAt : ByteArray := prog_12_method_7_code
def yX10_dockedAt : MethodName := ⟨RX10, "dockedAt", "(I)I"⟩
abbrev cX10_addJob : ByteArray := prog_12_method_8_code
def yX10_addJob : MethodName := ⟨RX10, "addJob", "(I)I"⟩
abbrev cX10_workInOrder : ByteArray := prog_12_method_9_code
def yX10_workInOrder : MethodName := ⟨RX10, "workInOrder", "(I)V"⟩
abbrev cX10_shareBest : ByteArray := prog_12_method_10_code
def yX10_shareBest : MethodName := ⟨RX10, "shareBest", "(I)V"⟩
abbrev cX10_shareNext : ByteArray := prog_12_method_11_code
def yX10_shareNext : MethodName := ⟨RX10, "shareNext", "(LWeekBoats$Yard;III)V"⟩
def RX11 : String := "WeekBoats"
def TX11 : u_T := fun k => match k with
  | 0 => ("WeekBoats", "canal", "LWeekBoats$Canal;", true)
  | 1 => ("WeekBoats", "ruling", "LWeekBoats$Rules;", true)
  | 2 => ("WeekBoats", "draft", "LWeekBoats$Rules;", true)
  | 3 => ("WeekBoats", "parser", "LWeekBoats$Parser;", true)
  | 4 => ("WeekBoats", "voyage", "LWeekBoats$Voyage;", true)
  | 5 => ("WeekBoats", "boats", "LWeekBoats$Boats;", true)
  | 6 => ("WeekBoats", "trips", "LWeekBoats$Trips;", true)
  | 7 => ("WeekBoats", "waiting", "LWeekBoats$LockQueue;", true)
  | 8 => ("WeekBoats", "bookings", "LWeekBoats$Bookings;", true)
  | 9 => ("WeekBoats", "yard", "LWeekBoats$Yard;", true)
  | 10 => ("WeekBoats", "roads", "LWeekBoats$Vans;", true)
  | _ => ("WeekBoats", "rains", "LWeekBoats$Rain;", true)
def tyX11 : Nat → FieldType := fun k => match k with
  | 0 => .object "WeekBoats$Canal"
  | 1 => .object "WeekBoats$Rules"
  | 2 => .object "WeekBoats$Rules"
  | 3 => .object "WeekBoats$Parser"
  | 4 => .object "WeekBoats$Voyage"
  | 5 => .object "WeekBoats$Boats"
  | 6 => .object "WeekBoats$Trips"
  | 7 => .object "WeekBoats$LockQueue"
  | 8 => .object "WeekBoats$Bookings"
  | 9 => .object "WeekBoats$Yard"
  | 10 => .object "WeekBoats$Vans"
  | _ => .object "WeekBoats$Rain"
abbrev wsX110 : List Cond := u_ws RX11 TX11 12
theorem nmX11 : ∀ a, a < 12 → ∀ b, b < 12 → a ≠ b → (TX11 a).2.1 ≠ (TX11 b).2.1 := by decide +kernel
theorem tyX11_ok : ∀ k, k < 12 → parseFieldDescriptor (TX11 k).2.2.1 = some (tyX11 k) := by decide +kernel
abbrev cX11_init : ByteArray := prog_1_method_1_code
def yX11_init : MethodName := ⟨RX11, "<init>", "()V"⟩
abbrev cX11_within : ByteArray := prog_1_method_2_code
def yX11_within : MethodName := ⟨RX11, "within", "(III)Z"⟩
abbrev cX11_isPoint : ByteArray := prog_1_method_3_code
def yX11_isPoint : MethodName := ⟨RX11, "isPoint", "(I)Z"⟩
abbrev cX11_isTime : ByteArray := prog_1_method_4_code
def yX11_isTime : MethodName := ⟨RX11, "isTime", "(I)Z"⟩
abbrev cX11_isWeek : ByteArray := prog_1_method_5_code
def yX11_isWeek : MethodName := ⟨RX11, "isWeek", "(I)Z"⟩
abbrev cX11_isBerths : ByteArray := prog_1_method_6_code
def yX11_isBerths : MethodName := ⟨RX11, "isBerths", "(I)Z"⟩
abbrev cX11_isBoat : ByteArray := prog_1_method_7_code
def yX11_isBoat : MethodName := ⟨RX11, "isBoat", "(I)Z"⟩
abbrev cX11_isWay : ByteArray := prog_1_method_8_code
def yX11_isWay : MethodName := ⟨RX11, "isWay", "(IIII)Z"⟩
abbrev cX11_stretch : ByteArray := prog_1_method_9_code
def yX11_stretch : MethodName := ⟨RX11, "stretch", "(IIII)Z"⟩
abbrev cX11_water : ByteArray := prog_1_method_10_code
def yX11_water : MethodName := ⟨RX11, "water", "(I)Z"⟩
abbrev cX11_stoppage : ByteArray := prog_1_method_11_code
def yX11_stoppage : MethodName := ⟨RX11, "stoppage", "(III)I"⟩
abbrev cX11_boat : ByteArray := prog_1_method_12_code
def yX11_boat : MethodName := ⟨RX11, "boat", "(IIII)I"⟩
abbrev cX11_feed : ByteArray := prog_1_method_13_code
def yX11_feed : MethodName := ⟨RX11, "feed", "(IIIII)I"⟩
abbrev cX11_end : ByteArray := prog_1_method_14_code
def yX11_end : MethodName := ⟨RX11, "end", "(I)Z"⟩
abbrev cX11_rules : ByteArray := prog_1_method_15_code
def yX11_rules : MethodName := ⟨RX11, "rules", "()I"⟩
abbrev cX11_fault : ByteArray := prog_1_method_16_code
def yX11_fault : MethodName := ⟨RX11, "fault", "(I)I"⟩
abbrev cX11_open : ByteArray := prog_1_method_17_code
def yX11_open : MethodName := ⟨RX11, "open", "(II)I"⟩
abbrev cX11_comes : ByteArray := prog_1_method_18_code
def yX11_comes : MethodName := ⟨RX11, "comes", "(IIII)I"⟩
abbrev cX11_maybe : ByteArray := prog_1_method_19_code
def yX11_maybe : MethodName := ⟨RX11, "maybe", "(IIII)I"⟩
abbrev cX11_harm : ByteArray := prog_1_method_20_code
def yX11_harm : MethodName := ⟨RX11, "harm", "(IIII)I"⟩
abbrev cX11_back : ByteArray := prog_1_method_21_code
def yX11_back : MethodName := ⟨RX11, "back", "(II)I"⟩
abbrev cX11_rung : ByteArray := prog_1_method_22_code
def yX11_rung : MethodName := ⟨RX11, "rung", "()I"⟩
abbrev cX11_pump : ByteArray := prog_1_method_23_code
def yX11_pump : MethodName := ⟨RX11, "pump", "(IZ)Z"⟩
abbrev cX11_pumped : ByteArray := prog_1_method_24_code
def yX11_pumped : MethodName := ⟨RX11, "pumped", "(IIIII)I"⟩
abbrev cX11_enough : ByteArray := prog_1_method_25_code
def yX11_enough : MethodName := ⟨RX11, "enough", "(IIIII)I"⟩
abbrev cX11_trip : ByteArray := prog_1_method_26_code
def yX11_trip : MethodName := ⟨RX11, "trip", "(IIIII)I"⟩
abbrev cX11_late : ByteArray := prog_1_method_27_code
def yX11_late : MethodName := ⟨RX11, "late", "(I)I"⟩
abbrev cX11_log : ByteArray := prog_1_method_28_code
def yX11_log : MethodName := ⟨RX11, "log", "(III)I"⟩
abbrev cX11_could : ByteArray := prog_1_method_29_code
def yX11_could : MethodName := ⟨RX11, "could", "(IIII)I"⟩
abbrev cX11_whose : ByteArray := prog_1_method_30_code
def yX11_whose : MethodName := ⟨RX11, "whose", "(IIII)I"⟩
abbrev cX11_tonight : ByteArray := prog_1_method_31_code
def yX11_tonight : MethodName := ⟨RX11, "tonight", "(II)I"⟩
abbrev cX11_queue : ByteArray := prog_1_method_32_code
def yX11_queue : MethodName := ⟨RX11, "queue", "(II)I"⟩
abbrev cX11_lock : ByteArray := prog_1_method_33_code
def yX11_lock : MethodName := ⟨RX11, "lock", "(I)I"⟩
abbrev cX11_booking : ByteArray := prog_1_method_34_code
def yX11_booking : MethodName := ⟨RX11, "booking", "(IIII)I"⟩
abbrev cX11_given : ByteArray := prog_1_method_35_code
def yX11_given : MethodName := ⟨RX11, "given", "(II)I"⟩
abbrev cX11_hireFirst : ByteArray := prog_1_method_36_code
def yX11_hireFirst : MethodName := ⟨RX11, "hireFirst", "(I)V"⟩
abbrev cX11_more : ByteArray := prog_1_method_37_code
def yX11_more : MethodName := ⟨RX11, "more", "(III)I"⟩
abbrev cX11_gas : ByteArray := prog_1_method_38_code
def yX11_gas : MethodName := ⟨RX11, "gas", "(III)Z"⟩
abbrev cX11_dock : ByteArray := prog_1_method_39_code
def yX11_dock : MethodName := ⟨RX11, "dock", "(I)I"⟩
abbrev cX11_job : ByteArray := prog_1_method_40_code
def yX11_job : MethodName := ⟨RX11, "job", "(I)I"⟩
abbrev cX11_turned : ByteArray := prog_1_method_41_code
def yX11_turned : MethodName := ⟨RX11, "turned", "(II)I"⟩
abbrev cX11_weight : ByteArray := prog_1_method_42_code
def yX11_weight : MethodName := ⟨RX11, "weight", "(II)Z"⟩
abbrev cX11_van : ByteArray := prog_1_method_43_code
def yX11_van : MethodName := ⟨RX11, "van", "(I)I"⟩
abbrev cX11_vans : ByteArray := prog_1_method_44_code
def yX11_vans : MethodName := ⟨RX11, "vans", "(I)I"⟩
abbrev cX11_call : ByteArray := prog_1_method_45_code
def yX11_call : MethodName := ⟨RX11, "call", "(III)I"⟩
abbrev cX11_taken : ByteArray := prog_1_method_46_code
def yX11_taken : MethodName := ⟨RX11, "taken", "(III)I"⟩
abbrev cX11_left : ByteArray := prog_1_method_47_code
def yX11_left : MethodName := ⟨RX11, "left", "(IIIII)I"⟩
abbrev cX11_isWeather : ByteArray := prog_1_method_48_code
def yX11_isWeather : MethodName := ⟨RX11, "isWeather", "(IIII)Z"⟩
abbrev cX11_shuts : ByteArray := prog_1_method_49_code
def yX11_shuts : MethodName := ⟨RX11, "shuts", "(IIII)I"⟩
abbrev cX11_price : ByteArray := prog_1_method_50_code
def yX11_price : MethodName := ⟨RX11, "price", "(IIZ)I"⟩
abbrev cX11_held : ByteArray := prog_1_method_51_code
def yX11_held : MethodName := ⟨RX11, "held", "(IIII)I"⟩
abbrev cX11_look : ByteArray := prog_1_method_52_code
def yX11_look : MethodName := ⟨RX11, "look", "(I)I"⟩
def RX12 : String := "WeekBoatsModel"
def TX12 : u_T := fun k => match k with
  | 0 => ("WeekBoatsModel", "miles", "[I", true)
  | 1 => ("WeekBoatsModel", "locks", "[I", true)
  | 2 => ("WeekBoatsModel", "road", "[I", true)
  | 3 => ("WeekBoatsModel", "stopAt", "[I", true)
  | 4 => ("WeekBoatsModel", "stopFrom", "[I", true)
  | 5 => ("WeekBoatsModel", "stopTo", "[I", true)
  | 6 => ("WeekBoatsModel", "berthsOf", "[I", true)
  | 7 => ("WeekBoatsModel", "ageOf", "[I", true)
  | 8 => ("WeekBoatsModel", "homeOf", "[I", true)
  | 9 => ("WeekBoatsModel", "taughtOf", "[I", true)
  | 10 => ("WeekBoatsModel", "water", "I", false)
  | 11 => ("WeekBoatsModel", "stops", "I", false)
  | 12 => ("WeekBoatsModel", "boats", "I", false)
  | 13 => ("WeekBoatsModel", "lineSort", "[I", true)
  | 14 => ("WeekBoatsModel", "lineOne", "[I", true)
  | 15 => ("WeekBoatsModel", "lineTwo", "[I", true)
  | 16 => ("WeekBoatsModel", "from", "[I", true)
  | 17 => ("WeekBoatsModel", "mid", "[I", true)
  | 18 => ("WeekBoatsModel", "to", "[I", true)
  | 19 => ("WeekBoatsModel", "step", "[I", true)
  | 20 => ("WeekBoatsModel", "freshSort", "[I", true)
  | 21 => ("WeekBoatsModel", "freshOne", "[I", true)
  | 22 => ("WeekBoatsModel", "freshTwo", "[I", true)
  | 23 => ("WeekBoatsModel", "freshFrom", "[I", true)
  | 24 => ("WeekBoatsModel", "freshMid", "[I", true)
  | 25 => ("WeekBoatsModel", "freshTo", "[I", true)
  | 26 => ("WeekBoatsModel", "freshStep", "[I", true)
  | 27 => ("WeekBoatsModel", "tunnel", "[I", true)
  | 28 => ("WeekBoatsModel", "freshTunnel", "[I", true)
  | 29 => ("WeekBoatsModel", "hasTunnel", "[Z", true)
  | 30 => ("WeekBoatsModel", "freshHas", "[Z", true)
  | 31 => ("WeekBoatsModel", "tape", "[I", true)
  | 32 => ("WeekBoatsModel", "pile", "[I", true)
  | 33 => ("WeekBoatsModel", "facts", "[I", true)
  | 34 => ("WeekBoatsModel", "lines", "I", false)
  | 35 => ("WeekBoatsModel", "freshLines", "I", false)
  | 36 => ("WeekBoatsModel", "steps", "I", false)
  | 37 => ("WeekBoatsModel", "taped", "I", false)
  | 38 => ("WeekBoatsModel", "at", "I", false)
  | 39 => ("WeekBoatsModel", "token", "I", false)
  | 40 => ("WeekBoatsModel", "tokenAt", "I", false)
  | 41 => ("WeekBoatsModel", "value", "I", false)
  | 42 => ("WeekBoatsModel", "wrong", "I", false)
  | 43 => ("WeekBoatsModel", "wrongAt", "I", false)
  | 44 => ("WeekBoatsModel", "faultKind", "I", false)
  | 45 => ("WeekBoatsModel", "depth", "I", false)
  | 46 => ("WeekBoatsModel", "faultPlace", "I", false)
  | 47 => ("WeekBoatsModel", "counts", "Z", false)
  | 48 => ("WeekBoatsModel", "harmed", "I", false)
  | 49 => ("WeekBoatsModel", "trips", "I", false)
  | 50 => ("WeekBoatsModel", "tripBoat", "[I", true)
  | 51 => ("WeekBoatsModel", "tripFrom", "[I", true)
  | 52 => ("WeekBoatsModel", "tripTo", "[I", true)
  | 53 => ("WeekBoatsModel", "tripTime", "[I", true)
  | 54 => ("WeekBoatsModel", "tripDue", "[I", true)
  | 55 => ("WeekBoatsModel", "isPump", "[Z", true)
  | 56 => ("WeekBoatsModel", "logMany", "[I", true)
  | 57 => ("WeekBoatsModel", "logPoint", "[I", true)
  | 58 => ("WeekBoatsModel", "logTime", "[I", true)
  | 59 => ("WeekBoatsModel", "queued", "I", false)
  | 60 => ("WeekBoatsModel", "comesAt", "[I", true)
  | 61 => ("WeekBoatsModel", "goesWay", "[I", true)
  | 62 => ("WeekBoatsModel", "order", "[I", true)
  | 63 => ("WeekBoatsModel", "best", "[I", true)
  | 64 => ("WeekBoatsModel", "bestWait", "I", false)
  | 65 => ("WeekBoatsModel", "bookings", "I", false)
  | 66 => ("WeekBoatsModel", "served", "I", false)
  | 67 => ("WeekBoatsModel", "atHome", "I", false)
  | 68 => ("WeekBoatsModel", "bookFrom", "[I", true)
  | 69 => ("WeekBoatsModel", "bookTo", "[I", true)
  | 70 => ("WeekBoatsModel", "bookWeek", "[I", true)
  | 71 => ("WeekBoatsModel", "bookBerths", "[I", true)
  | 72 => ("WeekBoatsModel", "goneThrough", "[I", true)
  | 73 => ("WeekBoatsModel", "gives", "[I", true)
  | 74 => ("WeekBoatsModel", "given", "[I", true)
  | 75 => ("WeekBoatsModel", "where", "[I", true)
  | 76 => ("WeekBoatsModel", "busy", "[I", true)
  | 77 => ("WeekBoatsModel", "askBerths", "[I", true)
  | 78 => ("WeekBoatsModel", "askHome", "[I", true)
  | 79 => ("WeekBoatsModel", "date", "[I", true)
  | 80 => ("WeekBoatsModel", "days", "[I", true)
  | 81 => ("WeekBoatsModel", "docked", "[I", true)
  | 82 => ("WeekBoatsModel", "dockOrder", "[I", true)
  | 83 => ("WeekBoatsModel", "dockBest", "[I", true)
  | 84 => ("WeekBoatsModel", "docks", "I", false)
  | 85 => ("WeekBoatsModel", "leastLate", "I", false)
  | 86 => ("WeekBoatsModel", "leastSum", "I", false)
  | 87 => ("WeekBoatsModel", "jobs", "I", false)
  | 88 => ("WeekBoatsModel", "job", "[I", true)
  | 89 => ("WeekBoatsModel", "ends", "[I", true)
  | 90 => ("WeekBoatsModel", "over", "I", false)
  | 91 => ("WeekBoatsModel", "weights", "[I", true)
  | 92 => ("WeekBoatsModel", "calls", "I", false)
  | 93 => ("WeekBoatsModel", "callMinute", "[I", true)
  | 94 => ("WeekBoatsModel", "callPoint", "[I", true)
  | 95 => ("WeekBoatsModel", "callWork", "[I", true)
  | 96 => ("WeekBoatsModel", "vanAt", "[I", true)
  | 97 => ("WeekBoatsModel", "vanFree", "[I", true)
  | 98 => ("WeekBoatsModel", "chances", "[I", true)
  | 99 => ("WeekBoatsModel", "later", "[I", true)
  | _ => ("WeekBoatsModel", "isPriced", "Z", false)
def tyX12 : Nat → FieldType := fun k => match k with
  | 0 => .array .int
  | 1 => .array .int
  | 2 => .array .int
  | 3 => .array .int
  | 4 => .array .int
  | 5 => .array .int
  | 6 => .array .int
  | 7 => .array .int
  | 8 => .array .int
  | 9 => .array .int
  | 10 => .int
  | 11 => .int
  | 12 => .int
  | 13 => .array .int
  | 14 => .array .int
  | 15 => .array .int
  | 16 => .array .int
  | 17 => .array .int
  | 18 => .array .int
  | 19 => .array .int
  | 20 => .array .int
  | 21 => .array .int
  | 22 => .array .int
  | 23 => .array .int
  | 24 => .array .int
  | 25 => .array .int
  | 26 => .array .int
  | 27 => .array .int
  | 28 => .array .int
  | 29 => .array .boolean
  | 30 => .array .boolean
  | 31 => .array .int
  | 32 => .array .int
  | 33 => .array .int
  | 34 => .int
  | 35 => .int
  | 36 => .int
  | 37 => .int
  | 38 => .int
  | 39 => .int
  | 40 => .int
  | 41 => .int
  | 42 => .int
  | 43 => .int
  | 44 => .int
  | 45 => .int
  | 46 => .int
  | 47 => .boolean
  | 48 => .int
  | 49 => .int
  | 50 => .array .int
  | 51 => .array .int
  | 52 => .array .int
  | 53 => .array .int
  | 54 => .array .int
  | 55 => .array .boolean
  | 56 => .array .int
  | 57 => .array .int
  | 58 => .array .int
  | 59 => .int
  | 60 => .array .int
  | 61 => .array .int
  | 62 => .array .int
  | 63 => .array .int
  | 64 => .int
  | 65 => .int
  | 66 => .int
  | 67 => .int
  | 68 => .array .int
  | 69 => .array .int
  | 70 => .array .int
  | 71 => .array .int
  | 72 => .array .int
  | 73 => .array .int
  | 74 => .array .int
  | 75 => .array .int
  | 76 => .array .int
  | 77 => .array .int
  | 78 => .array .int
  | 79 => .array .int
  | 80 => .array .int
  | 81 => .array .int
  | 82 => .array .int
  | 83 => .array .int
  | 84 => .int
  | 85 => .int
  | 86 => .int
  | 87 => .int
  | 88 => .array .int
  | 89 => .array .int
  | 90 => .int
  | 91 => .array .int
  | 92 => .int
  | 93 => .array .int
  | 94 => .array .int
  | 95 => .array .int
  | 96 => .array .int
  | 97 => .array .int
  | 98 => .array .int
  | 99 => .array .int
  | _ => .boolean
abbrev wsX120 : List Cond := u_ws RX12 TX12 101
theorem nmX12 : ∀ a, a < 101 → ∀ b, b < 101 → a ≠ b → (TX12 a).2.1 ≠ (TX12 b).2.1 := by decide +kernel
theorem tyX12_ok : ∀ k, k < 101 → parseFieldDescriptor (TX12 k).2.2.1 = some (tyX12 k) := by decide +kernel
abbrev cX12_isIn : ByteArray := prog_14_method_1_code
def yX12_isIn : MethodName := ⟨RX12, "isIn", "(III)Z"⟩
abbrev cX12_isPoint : ByteArray := prog_14_method_2_code
def yX12_isPoint : MethodName := ⟨RX12, "isPoint", "(I)Z"⟩
abbrev cX12_isTime : ByteArray := prog_14_method_3_code
def yX12_isTime : MethodName := ⟨RX12, "isTime", "(I)Z"⟩
abbrev cX12_init : ByteArray := prog_14_method_4_code
def yX12_init : MethodName := ⟨RX12, "<init>", "()V"⟩
abbrev cX12_stretch : ByteArray := prog_14_method_5_code
def yX12_stretch : MethodName := ⟨RX12, "stretch", "(IIII)Z"⟩
abbrev cX12_water : ByteArray := prog_14_method_6_code
def yX12_water : MethodName := ⟨RX12, "water", "(I)Z"⟩
abbrev cX12_stoppage : ByteArray := prog_14_method_7_code
def yX12_stoppage : MethodName := ⟨RX12, "stoppage", "(III)I"⟩
abbrev cX12_isBoat : ByteArray := prog_14_method_8_code
def yX12_isBoat : MethodName := ⟨RX12, "isBoat", "(I)Z"⟩
abbrev cX12_boat : ByteArray := prog_14_method_9_code
def yX12_boat : MethodName := ⟨RX12, "boat", "(IIII)I"⟩
abbrev cX12_feed : ByteArray := prog_14_method_10_code
def yX12_feed : MethodName := ⟨RX12, "feed", "(IIIII)I"⟩
abbrev cX12_end : ByteArray := prog_14_method_11_code
def yX12_end : MethodName := ⟨RX12, "end", "(I)Z"⟩
abbrev cX12_see : ByteArray := prog_14_method_12_code
def yX12_see : MethodName := ⟨RX12, "see", "(I)I"⟩
abbrev cX12_isLetter : ByteArray := prog_14_method_13_code
def yX12_isLetter : MethodName := ⟨RX12, "isLetter", "(I)Z"⟩
abbrev cX12_isDigit : ByteArray := prog_14_method_14_code
def yX12_isDigit : MethodName := ⟨RX12, "isDigit", "(I)Z"⟩
abbrev cX12_is : ByteArray := prog_14_method_15_code
def yX12_is : MethodName := ⟨RX12, "is", "(Ljava/lang/String;)Z"⟩
abbrev cX12_word : ByteArray := prog_14_method_16_code
def yX12_word : MethodName := ⟨RX12, "word", "()I"⟩
abbrev cX12_next0 : ByteArray := prog_14_method_17_code
def yX12_next0 : MethodName := ⟨RX12, "next0", "()V"⟩
abbrev cX12_bad : ByteArray := prog_14_method_18_code
def yX12_bad : MethodName := ⟨RX12, "bad", "(I)Z"⟩
abbrev cX12_need : ByteArray := prog_14_method_19_code
def yX12_need : MethodName := ⟨RX12, "need", "(I)Z"⟩
abbrev cX12_number : ByteArray := prog_14_method_20_code
def yX12_number : MethodName := ⟨RX12, "number", "(II)Z"⟩
abbrev cX12_lay : ByteArray := prog_14_method_21_code
def yX12_lay : MethodName := ⟨RX12, "lay", "(II)V"⟩
abbrev cX12_opens : ByteArray := prog_14_method_22_code
def yX12_opens : MethodName := ⟨RX12, "opens", "()Z"⟩
abbrev cX12_sumUp : ByteArray := prog_14_method_23_code
def yX12_sumUp : MethodName := ⟨RX12, "sumUp", "()Z"⟩
abbrev cX12_product : ByteArray := prog_14_method_24_code
def yX12_product : MethodName := ⟨RX12, "product", "()Z"⟩
abbrev cX12_unit : ByteArray := prog_14_method_25_code
def yX12_unit : MethodName := ⟨RX12, "unit", "()Z"⟩
abbrev cX12_any : ByteArray := prog_14_method_26_code
def yX12_any : MethodName := ⟨RX12, "any", "()Z"⟩
abbrev cX12_every : ByteArray := prog_14_method_27_code
def yX12_every : MethodName := ⟨RX12, "every", "()Z"⟩
abbrev cX12_one : ByteArray := prog_14_method_28_code
def yX12_one : MethodName := ⟨RX12, "one", "()Z"⟩
abbrev cX12_hours : ByteArray := prog_14_method_29_code
def yX12_hours : MethodName := ⟨RX12, "hours", "([II[II)Z"⟩
abbrev cX12_aTunnel : ByteArray := prog_14_method_30_code
def yX12_aTunnel : MethodName := ⟨RX12, "aTunnel", "()Z"⟩
abbrev cX12_aLine : ByteArray := prog_14_method_31_code
def yX12_aLine : MethodName := ⟨RX12, "aLine", "()Z"⟩
abbrev cX12_rules : ByteArray := prog_14_method_32_code
def yX12_rules : MethodName := ⟨RX12, "rules", "()I"⟩
abbrev cX12_keeps : ByteArray := prog_14_method_33_code
def yX12_keeps : MethodName := ⟨RX12, "keeps", "()V"⟩
abbrev cX12_fault : ByteArray := prog_14_method_34_code
def yX12_fault : MethodName := ⟨RX12, "fault", "(I)I"⟩
abbrev cX12_both : ByteArray := prog_14_method_35_code
def yX12_both : MethodName := ⟨RX12, "both", "(III)I"⟩
abbrev cX12_comesTo : ByteArray := prog_14_method_36_code
def yX12_comesTo : MethodName := ⟨RX12, "comesTo", "(II)I"⟩
abbrev cX12_serves : ByteArray := prog_14_method_37_code
def yX12_serves : MethodName := ⟨RX12, "serves", "(I)I"⟩
abbrev cX12_forgets : ByteArray := prog_14_method_38_code
def yX12_forgets : MethodName := ⟨RX12, "forgets", "()V"⟩
abbrev cX12_locksLine : ByteArray := prog_14_method_39_code
def yX12_locksLine : MethodName := ⟨RX12, "locksLine", "(I)I"⟩
abbrev cX12_open : ByteArray := prog_14_method_40_code
def yX12_open : MethodName := ⟨RX12, "open", "(II)I"⟩
abbrev cX12_isStopped : ByteArray := prog_14_method_41_code
def yX12_isStopped : MethodName := ⟨RX12, "isStopped", "(II)Z"⟩
abbrev cX12_mayBegin : ByteArray := prog_14_method_42_code
def yX12_mayBegin : MethodName := ⟨RX12, "mayBegin", "(IIII)Z"⟩
abbrev cX12_endOf : ByteArray := prog_14_method_43_code
def yX12_endOf : MethodName := ⟨RX12, "endOf", "(IIII)I"⟩
abbrev cX12_harmOf : ByteArray := prog_14_method_44_code
def yX12_harmOf : MethodName := ⟨RX12, "harmOf", "(II)I"⟩
abbrev cX12_through : ByteArray := prog_14_method_45_code
def yX12_through : MethodName := ⟨RX12, "through", "(IIZI)I"⟩
abbrev cX12_led : ByteArray := prog_14_method_46_code
def yX12_led : MethodName := ⟨RX12, "led", "(IIII)I"⟩
abbrev cX12_comes : ByteArray := prog_14_method_47_code
def yX12_comes : MethodName := ⟨RX12, "comes", "(IIII)I"⟩
abbrev cX12_harm : ByteArray := prog_14_method_48_code
def yX12_harm : MethodName := ⟨RX12, "harm", "(IIII)I"⟩
abbrev cX12_enough : ByteArray := prog_14_method_49_code
def yX12_enough : MethodName := ⟨RX12, "enough", "(IIIII)I"⟩
abbrev cX12_maybe : ByteArray := prog_14_method_50_code
def yX12_maybe : MethodName := ⟨RX12, "maybe", "(IIII)I"⟩
abbrev cX12_trip : ByteArray := prog_14_method_51_code
def yX12_trip : MethodName := ⟨RX12, "trip", "(IIIII)I"⟩
abbrev cX12_lateOf : ByteArray := prog_14_method_52_code
def yX12_lateOf : MethodName := ⟨RX12, "lateOf", "(I)I"⟩
abbrev cX12_late : ByteArray := prog_14_method_53_code
def yX12_late : MethodName := ⟨RX12, "late", "(I)I"⟩
abbrev cX12_turningBack : ByteArray := prog_14_method_54_code
def yX12_turningBack : MethodName := ⟨RX12, "turningBack", "(I)I"⟩
abbrev cX12_refund : ByteArray := prog_14_method_55_code
def yX12_refund : MethodName := ⟨RX12, "refund", "(I)I"⟩
abbrev cX12_back : ByteArray := prog_14_method_56_code
def yX12_back : MethodName := ⟨RX12, "back", "(II)I"⟩
abbrev cX12_rung : ByteArray := prog_14_method_57_code
def yX12_rung : MethodName := ⟨RX12, "rung", "()I"⟩
abbrev cX12_pump : ByteArray := prog_14_method_58_code
def yX12_pump : MethodName := ⟨RX12, "pump", "(IZ)Z"⟩
abbrev cX12_pumped : ByteArray := prog_14_method_59_code
def yX12_pumped : MethodName := ⟨RX12, "pumped", "(IIIII)I"⟩
abbrev cX12_log : ByteArray := prog_14_method_60_code
def yX12_log : MethodName := ⟨RX12, "log", "(III)I"⟩
abbrev cX12_between : ByteArray := prog_14_method_61_code
def yX12_between : MethodName := ⟨RX12, "between", "(IIIII)Z"⟩
abbrev cX12_canHaveBeen : ByteArray := prog_14_method_62_code
def yX12_canHaveBeen : MethodName := ⟨RX12, "canHaveBeen", "(IIII)Z"⟩
abbrev cX12_isSpan : ByteArray := prog_14_method_63_code
def yX12_isSpan : MethodName := ⟨RX12, "isSpan", "(II)Z"⟩
abbrev cX12_could : ByteArray := prog_14_method_64_code
def yX12_could : MethodName := ⟨RX12, "could", "(IIII)I"⟩
abbrev cX12_whose : ByteArray := prog_14_method_65_code
def yX12_whose : MethodName := ⟨RX12, "whose", "(IIII)I"⟩
abbrev cX12_tonight : ByteArray := prog_14_method_66_code
def yX12_tonight : MethodName := ⟨RX12, "tonight", "(II)I"⟩
abbrev cX12_queue : ByteArray := prog_14_method_67_code
def yX12_queue : MethodName := ⟨RX12, "queue", "(II)I"⟩
abbrev cX12_waits : ByteArray := prog_14_method_68_code
def yX12_waits : MethodName := ⟨RX12, "waits", "()I"⟩
abbrev cX12_lockfuls : ByteArray := prog_14_method_69_code
def yX12_lockfuls : MethodName := ⟨RX12, "lockfuls", "()I"⟩
abbrev cX12_orders : ByteArray := prog_14_method_70_code
def yX12_orders : MethodName := ⟨RX12, "orders", "(II)V"⟩
abbrev cX12_asTheyCome : ByteArray := prog_14_method_71_code
def yX12_asTheyCome : MethodName := ⟨RX12, "asTheyCome", "()V"⟩
abbrev cX12_lock : ByteArray := prog_14_method_72_code
def yX12_lock : MethodName := ⟨RX12, "lock", "(I)I"⟩
abbrev cX12_booking : ByteArray := prog_14_method_73_code
def yX12_booking : MethodName := ⟨RX12, "booking", "(IIII)I"⟩
abbrev cX12_sorts : ByteArray := prog_14_method_74_code
def yX12_sorts : MethodName := ⟨RX12, "sorts", "()V"⟩
abbrev cX12_gives : ByteArray := prog_14_method_75_code
def yX12_gives : MethodName := ⟨RX12, "gives", "(III)V"⟩
abbrev cX12_given : ByteArray := prog_14_method_76_code
def yX12_given : MethodName := ⟨RX12, "given", "(II)I"⟩
abbrev cX12_asks : ByteArray := prog_14_method_77_code
def yX12_asks : MethodName := ⟨RX12, "asks", "(I)V"⟩
abbrev cX12_givesBest : ByteArray := prog_14_method_78_code
def yX12_givesBest : MethodName := ⟨RX12, "givesBest", "(I)V"⟩
abbrev cX12_more : ByteArray := prog_14_method_79_code
def yX12_more : MethodName := ⟨RX12, "more", "(III)I"⟩
abbrev cX12_gas : ByteArray := prog_14_method_80_code
def yX12_gas : MethodName := ⟨RX12, "gas", "(III)Z"⟩
abbrev cX12_docksOn : ByteArray := prog_14_method_81_code
def yX12_docksOn : MethodName := ⟨RX12, "docksOn", "(IIIII)V"⟩
abbrev cX12_dock : ByteArray := prog_14_method_82_code
def yX12_dock : MethodName := ⟨RX12, "dock", "(I)I"⟩
abbrev cX12_job : ByteArray := prog_14_method_83_code
def yX12_job : MethodName := ⟨RX12, "job", "(I)I"⟩
abbrev cX12_worked : ByteArray := prog_14_method_84_code
def yX12_worked : MethodName := ⟨RX12, "worked", "(I)I"⟩
abbrev cX12_lastEnd : ByteArray := prog_14_method_85_code
def yX12_lastEnd : MethodName := ⟨RX12, "lastEnd", "(I)I"⟩
abbrev cX12_handOf : ByteArray := prog_14_method_86_code
def yX12_handOf : MethodName := ⟨RX12, "handOf", "(III)I"⟩
abbrev cX12_turned : ByteArray := prog_14_method_87_code
def yX12_turned : MethodName := ⟨RX12, "turned", "(II)I"⟩
abbrev cX12_weight : ByteArray := prog_14_method_88_code
def yX12_weight : MethodName := ⟨RX12, "weight", "(II)Z"⟩
abbrev cX12_drive : ByteArray := prog_14_method_89_code
def yX12_drive : MethodName := ⟨RX12, "drive", "(II)I"⟩
abbrev cX12_sumOf : ByteArray := prog_14_method_90_code
def yX12_sumOf : MethodName := ⟨RX12, "sumOf", "(I)I"⟩
abbrev cX12_worstOf : ByteArray := prog_14_method_91_code
def yX12_worstOf : MethodName := ⟨RX12, "worstOf", "(I)I"⟩
abbrev cX12_van : ByteArray := prog_14_method_92_code
def yX12_van : MethodName := ⟨RX12, "van", "(I)I"⟩
abbrev cX12_nearer : ByteArray := prog_14_method_93_code
def yX12_nearer : MethodName := ⟨RX12, "nearer", "(III)I"⟩
abbrev cX12_vans : ByteArray := prog_14_method_94_code
def yX12_vans : MethodName := ⟨RX12, "vans", "(I)I"⟩
abbrev cX12_call : ByteArray := prog_14_method_95_code
def yX12_call : MethodName := ⟨RX12, "call", "(III)I"⟩
abbrev cX12_arrives : ByteArray := prog_14_method_96_code
def yX12_arrives : MethodName := ⟨RX12, "arrives", "(II)I"⟩
abbrev cX12_taken : ByteArray := prog_14_method_97_code
def yX12_taken : MethodName := ⟨RX12, "taken", "(III)I"⟩
abbrev cX12_canAsk : ByteArray := prog_14_method_98_code
def yX12_canAsk : MethodName := ⟨RX12, "canAsk", "(IIII)Z"⟩
abbrev cX12_falls : ByteArray := prog_14_method_99_code
def yX12_falls : MethodName := ⟨RX12, "falls", "(III)V"⟩
abbrev cX12_kept : ByteArray := prog_14_method_100_code
def yX12_kept : MethodName := ⟨RX12, "kept", "()I"⟩
abbrev cX12_starts : ByteArray := prog_14_method_101_code
def yX12_starts : MethodName := ⟨RX12, "starts", "()V"⟩
abbrev cX12_aDay : ByteArray := prog_14_method_102_code
def yX12_aDay : MethodName := ⟨RX12, "aDay", "(IIII)V"⟩
abbrev cX12_left : ByteArray := prog_14_method_103_code
def yX12_left : MethodName := ⟨RX12, "left", "(IIIII)I"⟩
abbrev cX12_shuts : ByteArray := prog_14_method_104_code
def yX12_shuts : MethodName := ⟨RX12, "shuts", "(IIII)I"⟩
abbrev cX12_price : ByteArray := prog_14_method_105_code
def yX12_price : MethodName := ⟨RX12, "price", "(IIZ)I"⟩
abbrev cX12_held : ByteArray := prog_14_method_106_code
def yX12_held : MethodName := ⟨RX12, "held", "(IIII)I"⟩
abbrev cX12_look : ByteArray := prog_14_method_107_code
def yX12_look : MethodName := ⟨RX12, "look", "(I)I"⟩
def RJx145de : String := "java/io/Serializable"
def TJx145de : u_T := fun k => match k with
  | _ => ("", "", "", false)
def tyJx145de : Nat → FieldType := fun k => match k with
  | _ => .int
abbrev wsJx145de0 : List Cond := u_ws RJx145de TJx145de 0
theorem nmJx145de : ∀ a, a < 0 → ∀ b, b < 0 → a ≠ b → (TJx145de a).2.1 ≠ (TJx145de b).2.1 := by decide +kernel
theorem tyJx145de_ok : ∀ k, k < 0 → parseFieldDescriptor (TJx145de k).2.2.1 = some (tyJx145de k) := by decide +kernel
def RJx9f9b0 : String := "java/lang/CharSequence"
def TJx9f9b0 : u_T := fun k => match k with
  | _ => ("", "", "", false)
def tyJx9f9b0 : Nat → FieldType := fun k => match k with
  | _ => .int
abbrev wsJx9f9b00 : List Cond := u_ws RJx9f9b0 TJx9f9b0 0
theorem nmJx9f9b0 : ∀ a, a < 0 → ∀ b, b < 0 → a ≠ b → (TJx9f9b0 a).2.1 ≠ (TJx9f9b0 b).2.1 := by decide +kernel
theorem tyJx9f9b0_ok : ∀ k, k < 0 → parseFieldDescriptor (TJx9f9b0 k).2.2.1 = some (tyJx9f9b0 k) := by decide +kernel
def RJ11 : String := "java/lang/Character"
def TJ11 : u_T := fun k => match k with
  | _ => ("", "", "", false)
def tyJ11 : Nat → FieldType := fun k => match k with
  | _ => .int
abbrev wsJ110 : List Cond := u_ws RJ11 TJ11 0
theorem nmJ11 : ∀ a, a < 0 → ∀ b, b < 0 → a ≠ b → (TJ11 a).2.1 ≠ (TJ11 b).2.1 := by decide +kernel
theorem tyJ11_ok : ∀ k, k < 0 → parseFieldDescriptor (TJ11 k).2.2.1 = some (tyJ11 k) := by decide +kernel
abbrev cJ11_isValidCodePoint_9a6ad : ByteArray := prog_15_method_11_code
def yJ11_isValidCodePoint_9a6ad : MethodName := ⟨RJ11, "isValidCodePoint", "(I)Z"⟩
abbrev cJ11_highSurrogate_5068e : ByteArray := prog_15_method_28_code
def yJ11_highSurrogate_5068e : MethodName := ⟨RJ11, "highSurrogate", "(I)C"⟩
abbrev cJ11_lowSurrogate_5068e : ByteArray := prog_15_method_29_code
def yJ11_lowSurrogate_5068e : MethodName := ⟨RJ11, "lowSurrogate", "(I)C"⟩
def RJxb160c : String := "java/lang/Comparable"
def TJxb160c : u_T := fun k => match k with
  | _ => ("", "", "", false)
def tyJxb160c : Nat → FieldType := fun k => match k with
  | _ => .int
abbrev wsJxb160c0 : List Cond := u_ws RJxb160c TJxb160c 0
theorem nmJxb160c : ∀ a, a < 0 → ∀ b, b < 0 → a ≠ b → (TJxb160c a).2.1 ≠ (TJxb160c b).2.1 := by decide +kernel
theorem tyJxb160c_ok : ∀ k, k < 0 → parseFieldDescriptor (TJxb160c k).2.2.1 = some (tyJxb160c k) := by decide +kernel
def RJ6 : String := "java/lang/Integer"
def TJ6 : u_T := fun k => match k with
  | _ => ("", "", "", false)
def tyJ6 : Nat → FieldType := fun k => match k with
  | _ => .int
abbrev wsJ60 : List Cond := u_ws RJ6 TJ6 0
theorem nmJ6 : ∀ a, a < 0 → ∀ b, b < 0 → a ≠ b → (TJ6 a).2.1 ≠ (TJ6 b).2.1 := by decide +kernel
theorem tyJ6_ok : ∀ k, k < 0 → parseFieldDescriptor (TJ6 k).2.2.1 = some (tyJ6 k) := by decide +kernel
abbrev cJ6_bitCount_0f7a4 : ByteArray := prog_16_method_49_code
def yJ6_bitCount_0f7a4 : MethodName := ⟨RJ6, "bitCount", "(I)I"⟩
def RJ9 : String := "java/lang/Math"
def TJ9 : u_T := fun k => match k with
  | _ => ("", "", "", false)
def tyJ9 : Nat → FieldType := fun k => match k with
  | _ => .int
abbrev wsJ90 : List Cond := u_ws RJ9 TJ9 0
theorem nmJ9 : ∀ a, a < 0 → ∀ b, b < 0 → a ≠ b → (TJ9 a).2.1 ≠ (TJ9 b).2.1 := by decide +kernel
theorem tyJ9_ok : ∀ k, k < 0 → parseFieldDescriptor (TJ9 k).2.2.1 = some (tyJ9 k) := by decide +kernel
abbrev cJ9_abs_0f7a4 : ByteArray := prog_17_method_59_code
def yJ9_abs_0f7a4 : MethodName := ⟨RJ9, "abs", "(I)I"⟩
abbrev cJ9_max_7cf53 : ByteArray := prog_17_method_65_code
def yJ9_max_7cf53 : MethodName := ⟨RJ9, "max", "(II)I"⟩
abbrev cJ9_min_7cf53 : ByteArray := prog_17_method_69_code
def yJ9_min_7cf53 : MethodName := ⟨RJ9, "min", "(II)I"⟩
def RJ0 : String := "java/lang/String"
def TJ0 : u_T := fun k => match k with
  | _ => ("", "", "", false)
def tyJ0 : Nat → FieldType := fun k => match k with
  | _ => .int
abbrev wsJ00 : List Cond := u_ws RJ0 TJ0 0
theorem nmJ0 : ∀ a, a < 0 → ∀ b, b < 0 → a ≠ b → (TJ0 a).2.1 ≠ (TJ0 b).2.1 := by decide +kernel
theorem tyJ0_ok : ∀ k, k < 0 → parseFieldDescriptor (TJ0 k).2.2.1 = some (tyJ0 k) := by decide +kernel
abbrev cJ0_length_8abf5 : ByteArray := prog_18_method_54_code
def yJ0_length_8abf5 : MethodName := ⟨RJ0, "length", "()I"⟩
abbrev cJ0_charAt_5068e : ByteArray := prog_18_method_56_code
def yJ0_charAt_5068e : MethodName := ⟨RJ0, "charAt", "(I)C"⟩
abbrev cJ0_indexOf_0f7a4 : ByteArray := prog_18_method_79_code
def yJ0_indexOf_0f7a4 : MethodName := ⟨RJ0, "indexOf", "(I)I"⟩
abbrev cJ0_indexOf_7cf53 : ByteArray := prog_18_method_80_code
def yJ0_indexOf_7cf53 : MethodName := ⟨RJ0, "indexOf", "(II)I"⟩
abbrev cJ0_coder_7d493 : ByteArray := prog_18_method_152_code
def yJ0_coder_7d493 : MethodName := ⟨RJ0, "coder", "()B"⟩
abbrev cJ0_isLatin1_aae02 : ByteArray := prog_18_method_154_code
def yJ0_isLatin1_aae02 : MethodName := ⟨RJ0, "isLatin1", "()Z"⟩
abbrev cJ0_checkIndex_df160 : ByteArray := prog_18_method_155_code
def yJ0_checkIndex_df160 : MethodName := ⟨RJ0, "checkIndex", "(II)V"⟩
abbrev cJ0_checkBoundsBeginEnd_23922 : ByteArray := prog_18_method_158_code
def yJ0_checkBoundsBeginEnd_23922 : MethodName := ⟨RJ0, "checkBoundsBeginEnd", "(III)V"⟩
def RJ1 : String := "java/lang/StringLatin1"
def TJ1 : u_T := fun k => match k with
  | _ => ("", "", "", false)
def tyJ1 : Nat → FieldType := fun k => match k with
  | _ => .int
abbrev wsJ10 : List Cond := u_ws RJ1 TJ1 0
theorem nmJ1 : ∀ a, a < 0 → ∀ b, b < 0 → a ≠ b → (TJ1 a).2.1 ≠ (TJ1 b).2.1 := by decide +kernel
theorem tyJ1_ok : ∀ k, k < 0 → parseFieldDescriptor (TJ1 k).2.2.1 = some (tyJ1 k) := by decide +kernel
abbrev cJ1_charAt_3b067 : ByteArray := prog_19_method_2_code
def yJ1_charAt_3b067 : MethodName := ⟨RJ1, "charAt", "([BI)C"⟩
abbrev cJ1_canEncode_9a6ad : ByteArray := prog_19_method_4_code
def yJ1_canEncode_9a6ad : MethodName := ⟨RJ1, "canEncode", "(I)Z"⟩
abbrev cJ1_indexOf_4cfef : ByteArray := prog_19_method_22_code
def yJ1_indexOf_4cfef : MethodName := ⟨RJ1, "indexOf", "([BIII)I"⟩
abbrev cJ1_indexOfChar_4cfef : ByteArray := prog_19_method_23_code
def yJ1_indexOfChar_4cfef : MethodName := ⟨RJ1, "indexOfChar", "([BIII)I"⟩
def RJ2 : String := "java/lang/StringUTF16"
def TJ2 : u_T := fun k => match k with
  | _ => ("", "", "", false)
def tyJ2 : Nat → FieldType := fun k => match k with
  | _ => .int
abbrev wsJ20 : List Cond := u_ws RJ2 TJ2 0
theorem nmJ2 : ∀ a, a < 0 → ∀ b, b < 0 → a ≠ b → (TJ2 a).2.1 ≠ (TJ2 b).2.1 := by decide +kernel
theorem tyJ2_ok : ∀ k, k < 0 → parseFieldDescriptor (TJ2 k).2.2.1 = some (tyJ2 k) := by decide +kernel
abbrev cJ2_getChar_3b067 : ByteArray := prog_20_method_5_code
def yJ2_getChar_3b067 : MethodName := ⟨RJ2, "getChar", "([BI)C"⟩
abbrev cJ2_length_9d52b : ByteArray := prog_20_method_6_code
def yJ2_length_9d52b : MethodName := ⟨RJ2, "length", "([B)I"⟩
abbrev cJ2_indexOf_4cfef : ByteArray := prog_20_method_40_code
def yJ2_indexOf_4cfef : MethodName := ⟨RJ2, "indexOf", "([BIII)I"⟩
abbrev cJ2_indexOfChar_4cfef : ByteArray := prog_20_method_47_code
def yJ2_indexOfChar_4cfef : MethodName := ⟨RJ2, "indexOfChar", "([BIII)I"⟩
abbrev cJ2_indexOfCharUnsafe_4cfef : ByteArray := prog_20_method_48_code
def yJ2_indexOfCharUnsafe_4cfef : MethodName := ⟨RJ2, "indexOfCharUnsafe", "([BIII)I"⟩
abbrev cJ2_indexOfSupplementary_4cfef : ByteArray := prog_20_method_49_code
def yJ2_indexOfSupplementary_4cfef : MethodName := ⟨RJ2, "indexOfSupplementary", "([BIII)I"⟩
abbrev cJ2_charAt_3b067 : ByteArray := prog_20_method_83_code
def yJ2_charAt_3b067 : MethodName := ⟨RJ2, "charAt", "([BI)C"⟩
abbrev cJ2_checkIndex_2214a : ByteArray := prog_20_method_91_code
def yJ2_checkIndex_2214a : MethodName := ⟨RJ2, "checkIndex", "(I[B)V"⟩
abbrev cJ2_checkBoundsBeginEnd_d044e : ByteArray := prog_20_method_93_code
def yJ2_checkBoundsBeginEnd_d044e : MethodName := ⟨RJ2, "checkBoundsBeginEnd", "(II[B)V"⟩
def RJ10 : String := "java/lang/System"
def TJ10 : u_T := fun k => match k with
  | _ => ("", "", "", false)
def tyJ10 : Nat → FieldType := fun k => match k with
  | _ => .int
abbrev wsJ100 : List Cond := u_ws RJ10 TJ10 0
theorem nmJ10 : ∀ a, a < 0 → ∀ b, b < 0 → a ≠ b → (TJ10 a).2.1 ≠ (TJ10 b).2.1 := by decide +kernel
theorem tyJ10_ok : ∀ k, k < 0 → parseFieldDescriptor (TJ10 k).2.2.1 = some (tyJ10 k) := by decide +kernel
def RJxfd54e : String := "java/lang/constant/Constable"
def TJxfd54e : u_T := fun k => match k with
  | _ => ("", "", "", false)
def tyJxfd54e : Nat → FieldType := fun k => match k with
  | _ => .int
abbrev wsJxfd54e0 : List Cond := u_ws RJxfd54e TJxfd54e 0
theorem nmJxfd54e : ∀ a, a < 0 → ∀ b, b < 0 → a ≠ b → (TJxfd54e a).2.1 ≠ (TJxfd54e b).2.1 := by decide +kernel
theorem tyJxfd54e_ok : ∀ k, k < 0 → parseFieldDescriptor (TJxfd54e k).2.2.1 = some (tyJxfd54e k) := by decide +kernel
def RJx3cf43 : String := "java/lang/constant/ConstantDesc"
def TJx3cf43 : u_T := fun k => match k with
  | _ => ("", "", "", false)
def tyJx3cf43 : Nat → FieldType := fun k => match k with
  | _ => .int
abbrev wsJx3cf430 : List Cond := u_ws RJx3cf43 TJx3cf43 0
theorem nmJx3cf43 : ∀ a, a < 0 → ∀ b, b < 0 → a ≠ b → (TJx3cf43 a).2.1 ≠ (TJx3cf43 b).2.1 := by decide +kernel
theorem tyJx3cf43_ok : ∀ k, k < 0 → parseFieldDescriptor (TJx3cf43 k).2.2.1 = some (tyJx3cf43 k) := by decide +kernel
def RJ7 : String := "java/util/Arrays"
def TJ7 : u_T := fun k => match k with
  | _ => ("", "", "", false)
def tyJ7 : Nat → FieldType := fun k => match k with
  | _ => .int
abbrev wsJ70 : List Cond := u_ws RJ7 TJ7 0
theorem nmJ7 : ∀ a, a < 0 → ∀ b, b < 0 → a ≠ b → (TJ7 a).2.1 ≠ (TJ7 b).2.1 := by decide +kernel
theorem tyJ7_ok : ∀ k, k < 0 → parseFieldDescriptor (TJ7 k).2.2.1 = some (tyJ7 k) := by decide +kernel
abbrev cJ7_fill_53178 : ByteArray := prog_22_method_103_code
def yJ7_fill_53178 : MethodName := ⟨RJ7, "fill", "([II)V"⟩
def RJ3 : String := "jdk/internal/util/Preconditions"
def TJ3 : u_T := fun k => match k with
  | _ => ("", "", "", false)
def tyJ3 : Nat → FieldType := fun k => match k with
  | _ => .int
abbrev wsJ30 : List Cond := u_ws RJ3 TJ3 0
theorem nmJ3 : ∀ a, a < 0 → ∀ b, b < 0 → a ≠ b → (TJ3 a).2.1 ≠ (TJ3 b).2.1 := by decide +kernel
theorem tyJ3_ok : ∀ k, k < 0 → parseFieldDescriptor (TJ3 k).2.2.1 = some (tyJ3 k) := by decide +kernel
abbrev cJ3_checkIndex_8e157 : ByteArray := prog_23_method_11_code
def yJ3_checkIndex_8e157 : MethodName := ⟨RJ3, "checkIndex", "(IILjava/util/function/BiFunction;)I"⟩
abbrev cJ3_checkFromToIndex_8c36e : ByteArray := prog_23_method_12_code
def yJ3_checkFromToIndex_8c36e : MethodName := ⟨RJ3, "checkFromToIndex", "(IIILjava/util/function/BiFunction;)I"⟩
def RL : String := "WeekBoatsLaw"
abbrev cL_law : ByteArray := code
def yL_law : MethodName := ⟨RL, "law", "([I)Z"⟩
theorem inX0 : ∀ w ∈ wsX00, w ∈ lw_tbl := fun w hw => List.mem_append_right _ (tl_2 (memPl (big := tables_1_2) [2, 4, 6, 8, 10, 12, 14, 16, 18, 20, 22, 24] (by decide +kernel) w hw))
theorem inX1 : ∀ w ∈ wsX10, w ∈ lw_tbl := fun w hw => List.mem_append_right _ (tl_2 (memPl (big := tables_1_2) [120, 122, 124, 126, 128, 130, 132, 134, 136, 138, 140, 142, 144, 146, 148, 150, 152] (by decide +kernel) w hw))
theorem inX2 : ∀ w ∈ wsX20, w ∈ lw_tbl := fun w hw => List.mem_append_right _ (tl_1 (memPl (big := tables_1_1) [59, 61, 63, 65, 67, 69, 71] (by decide +kernel) w hw))
theorem inX3 : ∀ w ∈ wsX30, w ∈ lw_tbl := fun w hw => List.mem_append_right _ (tl_2 (memPl (big := tables_1_2) [78, 80, 82, 84, 86, 88, 90] (by decide +kernel) w hw))
theorem inX4 : ∀ w ∈ wsX40, w ∈ lw_tbl := fun w hw => List.mem_append_right _ (tl_1 (memPl (big := tables_1_1) [161, 163, 165, 167, 169, 171, 173, 175, 177] (by decide +kernel) w hw))
theorem inX5 : ∀ w ∈ wsX50, w ∈ lw_tbl := fun w hw => List.mem_append_right _ (tl_3 (memPl (big := tables_1_3) [44, 46, 48] (by decide +kernel) w hw))
theorem inX6 : ∀ w ∈ wsX60, w ∈ lw_tbl := fun w hw => List.mem_append_right _ (tl_1 (memPl (big := tables_1_1) [112, 114, 116, 118, 120, 122, 124, 126, 128, 130, 132, 134, 136, 138, 140] (by decide +kernel) w hw))
theorem inX7 : ∀ w ∈ wsX70, w ∈ lw_tbl := fun w hw => List.mem_append_right _ (tl_2 (memPl (big := tables_1_2) [43, 45, 47, 49, 51, 53, 55, 57, 59] (by decide +kernel) w hw))
theorem inX8 : ∀ w ∈ wsX80, w ∈ lw_tbl := fun w hw => List.mem_append_right _ (tl_3 (memPl (big := tables_1_3) [3, 5, 7, 9, 11, 13, 15, 17, 19, 21, 23, 25, 27, 29, 31] (by decide +kernel) w hw))
theorem inX9 : ∀ w ∈ wsX90, w ∈ lw_tbl := fun w hw => List.mem_append_right _ (tl_1 (memPl (big := tables_1_1) [199, 201, 203, 205, 207, 209, 211, 213] (by decide +kernel) w hw))
theorem inX10 : ∀ w ∈ wsX100, w ∈ lw_tbl := fun w hw => List.mem_append_right _ (tl_2 (memPl (big := tables_1_2) [184, 186, 188, 190, 192, 194, 196, 198, 200, 202, 204, 206, 208, 210, 212] (by decide +kernel) w hw))
theorem inX11 : ∀ w ∈ wsX110, w ∈ lw_tbl := fun w hw => List.mem_append_right _ (tl_3 (memPl (big := tables_1_3) [63, 65, 67, 69, 71, 73, 75, 77, 79, 81, 83, 85] (by decide +kernel) w hw))
theorem inX12 : ∀ w ∈ wsX120, w ∈ lw_tbl := memPl [1599, 1601, 1603, 1605, 1607, 1609, 1611, 1613, 1615, 1617, 1619, 1621, 1623, 1625, 1627, 1629, 1631, 1633, 1635, 1637, 1639, 1641, 1643, 1645, 1647, 1649, 1651, 1653, 1655, 1657, 1659, 1661, 1663, 1665, 1667, 1669, 1671, 1673, 1675, 1677, 1679, 1681, 1683, 1685, 1687, 1689, 1691, 1693, 1695, 1697, 1699, 1701, 1703, 1705, 1707, 1709, 1711, 1713, 1715, 1717, 1719, 1721, 1723, 1725, 1727, 1729, 1731, 1733, 1735, 1737, 1739, 1741, 1743, 1745, 1747, 1749, 1751, 1753, 1755, 1757, 1759, 1761, 1763, 1765, 1767, 1769, 1771, 1773, 1775, 1777, 1779, 1781, 1783, 1785, 1787, 1789, 1791, 1793, 1795, 1797, 1799] (by decide +kernel)
theorem inJx145de : ∀ w ∈ wsJx145de0, w ∈ lw_tbl := by decide +kernel
theorem inJx9f9b0 : ∀ w ∈ wsJx9f9b00, w ∈ lw_tbl := by decide +kernel
theorem inJ11 : ∀ w ∈ wsJ110, w ∈ lw_tbl := by decide +kernel
theorem inJxb160c : ∀ w ∈ wsJxb160c0, w ∈ lw_tbl := by decide +kernel
theorem inJ6 : ∀ w ∈ wsJ60, w ∈ lw_tbl := by decide +kernel
theorem inJ9 : ∀ w ∈ wsJ90, w ∈ lw_tbl := by decide +kernel
theorem inJ0 : ∀ w ∈ wsJ00, w ∈ lw_tbl := by decide +kernel
theorem inJ1 : ∀ w ∈ wsJ10, w ∈ lw_tbl := by decide +kernel
theorem inJ2 : ∀ w ∈ wsJ20, w ∈ lw_tbl := by decide +kernel
theorem inJ10 : ∀ w ∈ wsJ100, w ∈ lw_tbl := by decide +kernel
theorem inJxfd54e : ∀ w ∈ wsJxfd54e0, w ∈ lw_tbl := by decide +kernel
theorem inJx3cf43 : ∀ w ∈ wsJx3cf430, w ∈ lw_tbl := by decide +kernel
theorem inJ7 : ∀ w ∈ wsJ70, w ∈ lw_tbl := by decide +kernel
theorem inJ3 : ∀ w ∈ wsJ30, w ∈ lw_tbl := by decide +kernel
set_option maxRecDepth 20000 in
set_option maxRecDepth 20000 in
set_option maxRecDepth 20000 in
set_option maxRecDepth 20000 in
set_option maxRecDepth 20000 in
set_option maxRecDepth 20000 in
set_option maxRecDepth 20000 in
set_option maxRecDepth 20000 in
set_option maxRecDepth 20000 in
set_option maxRecDepth 20000 in
set_option maxRecDepth 20000 in
set_option maxRecDepth 20000 in
set_option maxRecDepth 20000 in
set_option maxRecDepth 20000 in
set_option maxRecDepth 20000 in
set_option maxRecDepth 20000 in
set_option maxRecDepth 20000 in
set_option maxRecDepth 20000 in
set_option maxRecDepth 20000 in
set_option maxRecDepth 20000 in
set_option maxRecDepth 20000 in
set_option maxRecDepth 20000 in
set_option maxRecDepth 20000 in
set_option maxRecDepth 20000 in
set_option maxRecDepth 20000 in
set_option maxRecDepth 20000 in
set_option maxRecDepth 20000 in
set_option maxRecDepth 20000 in
set_option maxRecDepth 20000 in
set_option maxRecDepth 20000 in
set_option maxRecDepth 20000 in
set_option maxRecDepth 20000 in
set_option maxRecDepth 20000 in
set_option maxRecDepth 20000 in
set_option maxRecDepth 20000 in
set_option maxRecDepth 20000 in
set_option maxRecDepth 20000 in
set_option maxRecDepth 20000 in
set_option maxRecDepth 20000 in
set_option maxRecDepth 20000 in
set_option maxRecDepth 20000 in
set_option maxRecDepth 20000 in
set_option maxRecDepth 20000 in
set_option maxRecDepth 20000 in
set_option maxRecDepth 20000 in
set_option maxRecDepth 20000 in
set_option maxRecDepth 20000 in
set_option maxRecDepth 20000 in
set_option maxRecDepth 20000 in
set_option maxRecDepth 20000 in
set_option maxRecDepth 20000 in
set_option maxRecDepth 20000 in
set_option maxRecDepth 20000 in
set_option maxRecDepth 20000 in
set_option maxRecDepth 20000 in
set_option maxRecDepth 20000 in
set_option maxRecDepth 20000 in
set_option maxRecDepth 20000 in
set_option maxRecDepth 20000 in
set_option maxRecDepth 20000 in
set_option maxRecDepth 20000 in
set_option maxRecDepth 20000 in
set_option maxRecDepth 20000 in
set_option maxRecDepth 20000 in
set_option maxRecDepth 20000 in
set_option maxRecDepth 20000 in
set_option maxRecDepth 20000 in
set_option maxRecDepth 20000 in
set_option maxRecDepth 20000 in
set_option maxRecDepth 20000 in
set_option maxRecDepth 20000 in
set_option maxRecDepth 20000 in
set_option maxRecDepth 20000 in
set_option maxRecDepth 20000 in
set_option maxRecDepth 20000 in
set_option maxRecDepth 20000 in
set_option maxRecDepth 20000 in
set_option maxRecDepth 20000 in
set_option maxRecDepth 20000 in
set_option maxRecDepth 20000 in
set_option maxRecDepth 20000 in
set_option maxRecDepth 20000 in
set_option maxRecDepth 20000 in
set_option maxRecDepth 20000 in
set_option maxRecDepth 20000 in
set_option maxRecDepth 20000 in
set_option maxRecDepth 20000 in
set_option maxRecDepth 20000 in
set_option maxRecDepth 20000 in
set_option maxRecDepth 20000 in
set_option maxRecDepth 20000 in
set_option maxRecDepth 20000 in
set_option maxRecDepth 20000 in
set_option maxRecDepth 20000 in
set_option maxRecDepth 20000 in
set_option maxRecDepth 20000 in
set_option maxRecDepth 20000 in
set_option maxRecDepth 20000 in
set_option maxRecDepth 20000 in
set_option maxRecDepth 20000 in
set_option maxRecDepth 20000 in
set_option maxRecDepth 20000 in
set_option maxRecDepth 20000 in
set_option maxRecDepth 20000 in
set_option maxRecDepth 20000 in
set_option maxRecDepth 20000 in
set_option maxRecDepth 20000 in
set_option maxRecDepth 20000 in
set_option maxRecDepth 20000 in
set_option maxRecDepth 20000 in
set_option maxRecDepth 20000 in
set_option maxRecDepth 20000 in
set_option maxRecDepth 20000 in
set_option maxRecDepth 20000 in
set_option maxRecDepth 20000 in
set_option maxRecDepth 20000 in
set_option maxRecDepth 20000 in
set_option maxRecDepth 20000 in
set_option maxRecDepth 20000 in
set_option maxRecDepth 20000 in
set_option maxRecDepth 20000 in
set_option maxRecDepth 20000 in
set_option maxRecDepth 20000 in
set_option maxRecDepth 20000 in
set_option maxRecDepth 20000 in
set_option maxRecDepth 20000 in
set_option maxRecDepth 20000 in
set_option maxRecDepth 20000 in
set_option maxRecDepth 20000 in
set_option maxRecDepth 20000 in
set_option maxRecDepth 20000 in
set_option maxRecDepth 20000 in
set_option maxRecDepth 20000 in
set_option maxRecDepth 20000 in
set_option maxRecDepth 20000 in
set_option maxRecDepth 20000 in
set_option maxRecDepth 20000 in
set_option maxRecDepth 20000 in
set_option maxRecDepth 20000 in
set_option maxRecDepth 20000 in
set_option maxRecDepth 20000 in
set_option maxRecDepth 20000 in
set_option maxRecDepth 20000 in
set_option maxRecDepth 20000 in
set_option maxRecDepth 20000 in
set_option maxRecDepth 20000 in
set_option maxRecDepth 20000 in
set_option maxRecDepth 20000 in
set_option maxRecDepth 20000 in
set_option maxRecDepth 20000 in
set_option maxRecDepth 20000 in
set_option maxRecDepth 20000 in
set_option maxRecDepth 20000 in
set_option maxRecDepth 20000 in
set_option maxRecDepth 20000 in
set_option maxRecDepth 20000 in
set_option maxRecDepth 20000 in
set_option maxRecDepth 20000 in
set_option maxRecDepth 20000 in
set_option maxRecDepth 20000 in
set_option maxRecDepth 20000 in
set_option maxRecDepth 20000 in
set_option maxRecDepth 20000 in
set_option maxRecDepth 20000 in
set_option maxRecDepth 20000 in
set_option maxRecDepth 20000 in
set_option maxRecDepth 20000 in
set_option maxRecDepth 20000 in
set_option maxRecDepth 20000 in
set_option maxRecDepth 20000 in
set_option maxRecDepth 20000 in
set_option maxRecDepth 20000 in
set_option maxRecDepth 20000 in
set_option maxRecDepth 20000 in
set_option maxRecDepth 20000 in
set_option maxRecDepth 20000 in
set_option maxRecDepth 20000 in
set_option maxRecDepth 20000 in
set_option maxRecDepth 20000 in
set_option maxRecDepth 20000 in
set_option maxRecDepth 20000 in
set_option maxRecDepth 20000 in
set_option maxRecDepth 20000 in
set_option maxRecDepth 20000 in
set_option maxRecDepth 20000 in
set_option maxRecDepth 20000 in
set_option maxRecDepth 20000 in
set_option maxRecDepth 20000 in
set_option maxRecDepth 20000 in
set_option maxRecDepth 20000 in
set_option maxRecDepth 20000 in
set_option maxRecDepth 20000 in
set_option maxRecDepth 20000 in
set_option maxRecDepth 20000 in
set_option maxRecDepth 20000 in
set_option maxRecDepth 20000 in
set_option maxRecDepth 20000 in
set_option maxRecDepth 20000 in
set_option maxRecDepth 20000 in
set_option maxRecDepth 20000 in
set_option maxRecDepth 20000 in
set_option maxRecDepth 20000 in
set_option maxRecDepth 20000 in
set_option maxRecDepth 20000 in
set_option maxRecDepth 20000 in
set_option maxRecDepth 20000 in
set_option maxRecDepth 20000 in
set_option maxRecDepth 20000 in
set_option maxRecDepth 20000 in
set_option maxRecDepth 20000 in
set_option maxRecDepth 20000 in
set_option maxRecDepth 20000 in
set_option maxRecDepth 20000 in
set_option maxRecDepth 20000 in
set_option maxRecDepth 20000 in
set_option maxRecDepth 20000 in
set_option maxRecDepth 20000 in
set_option maxRecDepth 20000 in
set_option maxRecDepth 20000 in
set_option maxRecDepth 20000 in
set_option maxRecDepth 20000 in
set_option maxRecDepth 20000 in
set_option maxRecDepth 20000 in
set_option maxRecDepth 20000 in
set_option maxRecDepth 20000 in
set_option maxRecDepth 20000 in
set_option maxRecDepth 20000 in
abbrev vwCl : List vw_C := [(RX0, TX0, 12), (RX1, TX1, 17), (RX2, TX2, 7), (RX3, TX3, 7), (RX4, TX4, 9), (RX5, TX5, 3), (RX6, TX6, 15), (RX7, TX7, 9), (RX8, TX8, 15), (RX9, TX9, 8), (RX10, TX10, 15), (RX11, TX11, 12), (RX12, TX12, 101)]
