theorem wmP {i : Nat} {w : Cond} (h : lw_tbl[i]? = some w) (hg : goodWord w = true) : w ∈ lw_gd := gd (List.mem_of_getElem? h) hg
theorem wk_1 {i : Nat} {w : Cond} (h : tables_1_1[i]? = some w) (hg : goodWord w = true) : w ∈ lw_gd := gd (List.mem_append_right _ (tm_1 h)) hg
theorem wk_2 {i : Nat} {w : Cond} (h : tables_1_2[i]? = some w) (hg : goodWord w = true) : w ∈ lw_gd := gd (List.mem_append_right _ (tm_2 h)) hg
theorem wk_3 {i : Nat} {w : Cond} (h : tables_1_3[i]? = some w) (hg : goodWord w = true) : w ∈ lw_gd := gd (List.mem_append_right _ (tm_3 h)) hg
theorem wk_4 {i : Nat} {w : Cond} (h : tables_1_4[i]? = some w) (hg : goodWord w = true) : w ∈ lw_gd := gd (List.mem_append_right _ (tm_4 h)) hg
theorem wk_5 {i : Nat} {w : Cond} (h : tables_1_5[i]? = some w) (hg : goodWord w = true) : w ∈ lw_gd := gd (List.mem_append_right _ (tm_5 h)) hg
theorem wk_6 {i : Nat} {w : Cond} (h : tables_1_6[i]? = some w) (hg : goodWord w = true) : w ∈ lw_gd := gd (List.mem_append_right _ (tm_6 h)) hg
theorem wk_7 {i : Nat} {w : Cond} (h : tables_1_7[i]? = some w) (hg : goodWord w = true) : w ∈ lw_gd := gd (List.mem_append_right _ (tm_7 h)) hg
theorem wk_8 {i : Nat} {w : Cond} (h : tables_1_8[i]? = some w) (hg : goodWord w = true) : w ∈ lw_gd := gd (List.mem_append_right _ (tm_8 h)) hg
theorem wk_9 {i : Nat} {w : Cond} (h : tables_1_9[i]? = some w) (hg : goodWord w = true) : w ∈ lw_gd := gd (List.mem_append_right _ (tm_9 h)) hg
theorem wm_0 : Cond.selects "WeekBoats$Rules" ⟨"WeekBoats$Rules", "run", "(II)I"⟩ ⟨"WeekBoats$Rules", "run", "(II)I"⟩ ∈ lw_gd := wmP (i := 0) (by decide +kernel) rfl
theorem wm_1 : Cond.selects "WeekBoats$Rules" ⟨"WeekBoats$Rules", "askedOf", "(I)I"⟩ ⟨"WeekBoats$Rules", "askedOf", "(I)I"⟩ ∈ lw_gd := wmP (i := 1) (by decide +kernel) rfl
theorem wm_2 : Cond.selects "WeekBoats$Parser" ⟨"WeekBoats$Parser", "scan", "()V"⟩ ⟨"WeekBoats$Parser", "scan", "()V"⟩ ∈ lw_gd := wmP (i := 2) (by decide +kernel) rfl
theorem wm_3 : Cond.selects "WeekBoats$Parser" ⟨"WeekBoats$Parser", "endOfWord", "(I)I"⟩ ⟨"WeekBoats$Parser", "endOfWord", "(I)I"⟩ ∈ lw_gd := wmP (i := 3) (by decide +kernel) rfl
theorem wm_4 : Cond.selects "WeekBoats$Parser" ⟨"WeekBoats$Parser", "wordOf", "(II)I"⟩ ⟨"WeekBoats$Parser", "wordOf", "(II)I"⟩ ∈ lw_gd := wmP (i := 4) (by decide +kernel) rfl
theorem wm_5 : Cond.selects "WeekBoats$Parser" ⟨"WeekBoats$Parser", "isSame", "(III)Z"⟩ ⟨"WeekBoats$Parser", "isSame", "(III)Z"⟩ ∈ lw_gd := wmP (i := 5) (by decide +kernel) rfl
theorem wm_6 : Cond.selects "WeekBoats$Parser" ⟨"WeekBoats$Parser", "add", "(II)V"⟩ ⟨"WeekBoats$Parser", "add", "(II)V"⟩ ∈ lw_gd := wmP (i := 6) (by decide +kernel) rfl
theorem wm_7 : Cond.selects "WeekBoats$Parser" ⟨"WeekBoats$Parser", "endOfDigits", "(I)I"⟩ ⟨"WeekBoats$Parser", "endOfDigits", "(I)I"⟩ ∈ lw_gd := wmP (i := 7) (by decide +kernel) rfl
theorem wm_8 : Cond.selects "WeekBoats$Parser" ⟨"WeekBoats$Parser", "numberOf", "(II)I"⟩ ⟨"WeekBoats$Parser", "numberOf", "(II)I"⟩ ∈ lw_gd := wmP (i := 8) (by decide +kernel) rfl
theorem wm_9 : Cond.selects "WeekBoats$Parser" ⟨"WeekBoats$Parser", "readLine", "()V"⟩ ⟨"WeekBoats$Parser", "readLine", "()V"⟩ ∈ lw_gd := wmP (i := 9) (by decide +kernel) rfl
theorem wm_10 : Cond.selects "WeekBoats$Parser" ⟨"WeekBoats$Parser", "fail", "(I)V"⟩ ⟨"WeekBoats$Parser", "fail", "(I)V"⟩ ∈ lw_gd := wmP (i := 10) (by decide +kernel) rfl
theorem wm_11 : Cond.selects "WeekBoats$Parser" ⟨"WeekBoats$Parser", "goOn", "()V"⟩ ⟨"WeekBoats$Parser", "goOn", "()V"⟩ ∈ lw_gd := wmP (i := 11) (by decide +kernel) rfl
theorem wm_12 : Cond.selects "WeekBoats$Parser" ⟨"WeekBoats$Parser", "readTunnel", "()V"⟩ ⟨"WeekBoats$Parser", "readTunnel", "()V"⟩ ∈ lw_gd := wmP (i := 12) (by decide +kernel) rfl
theorem wm_13 : Cond.selects "WeekBoats$Parser" ⟨"WeekBoats$Parser", "numberUpTo", "(I)I"⟩ ⟨"WeekBoats$Parser", "numberUpTo", "(I)I"⟩ ∈ lw_gd := wmP (i := 13) (by decide +kernel) rfl
theorem wm_14 : Cond.selects "WeekBoats$Parser" ⟨"WeekBoats$Parser", "is", "(I)Z"⟩ ⟨"WeekBoats$Parser", "is", "(I)Z"⟩ ∈ lw_gd := wmP (i := 14) (by decide +kernel) rfl
theorem wm_15 : Cond.selects "WeekBoats$Parser" ⟨"WeekBoats$Parser", "readSum", "()V"⟩ ⟨"WeekBoats$Parser", "readSum", "()V"⟩ ∈ lw_gd := wmP (i := 15) (by decide +kernel) rfl
theorem wm_16 : Cond.selects "WeekBoats$Parser" ⟨"WeekBoats$Parser", "readProduct", "()V"⟩ ⟨"WeekBoats$Parser", "readProduct", "()V"⟩ ∈ lw_gd := wmP (i := 16) (by decide +kernel) rfl
theorem wm_17 : Cond.selects "WeekBoats$Parser" ⟨"WeekBoats$Parser", "readUnit", "()V"⟩ ⟨"WeekBoats$Parser", "readUnit", "()V"⟩ ∈ lw_gd := wmP (i := 17) (by decide +kernel) rfl
theorem wm_18 : Cond.selects "WeekBoats$Parser" ⟨"WeekBoats$Parser", "readPart", "()V"⟩ ⟨"WeekBoats$Parser", "readPart", "()V"⟩ ∈ lw_gd := wmP (i := 18) (by decide +kernel) rfl
theorem wm_19 : Cond.selects "WeekBoats$Parser" ⟨"WeekBoats$Parser", "readEither", "(I)V"⟩ ⟨"WeekBoats$Parser", "readEither", "(I)V"⟩ ∈ lw_gd := wmP (i := 19) (by decide +kernel) rfl
theorem wm_20 : Cond.selects "WeekBoats$Parser" ⟨"WeekBoats$Parser", "readAll", "(I)V"⟩ ⟨"WeekBoats$Parser", "readAll", "(I)V"⟩ ∈ lw_gd := wmP (i := 20) (by decide +kernel) rfl
theorem wm_21 : Cond.selects "WeekBoats$Parser" ⟨"WeekBoats$Parser", "readOne", "(I)V"⟩ ⟨"WeekBoats$Parser", "readOne", "(I)V"⟩ ∈ lw_gd := wmP (i := 21) (by decide +kernel) rfl
theorem wm_22 : Cond.selects "WeekBoats$Parser" ⟨"WeekBoats$Parser", "openOneMore", "(I)V"⟩ ⟨"WeekBoats$Parser", "openOneMore", "(I)V"⟩ ∈ lw_gd := wmP (i := 22) (by decide +kernel) rfl
theorem wm_23 : Cond.selects "WeekBoats$Parser" ⟨"WeekBoats$Parser", "demand", "(I)V"⟩ ⟨"WeekBoats$Parser", "demand", "(I)V"⟩ ∈ lw_gd := wmP (i := 23) (by decide +kernel) rfl
theorem wm_24 : Cond.selects "WeekBoats$Parser" ⟨"WeekBoats$Parser", "demandComparing", "()V"⟩ ⟨"WeekBoats$Parser", "demandComparing", "()V"⟩ ∈ lw_gd := wmP (i := 24) (by decide +kernel) rfl
theorem wm_25 : Cond.selects "WeekBoats" ⟨"WeekBoats", "isWay", "(IIII)Z"⟩ ⟨"WeekBoats", "isWay", "(IIII)Z"⟩ ∈ lw_gd := wmP (i := 25) (by decide +kernel) rfl
theorem wm_26 : Cond.selects "WeekBoats" ⟨"WeekBoats", "isBoat", "(I)Z"⟩ ⟨"WeekBoats", "isBoat", "(I)Z"⟩ ∈ lw_gd := wmP (i := 26) (by decide +kernel) rfl
theorem wm_27 : Cond.selects "WeekBoats$Voyage" ⟨"WeekBoats$Voyage", "setOut", "(IZ)V"⟩ ⟨"WeekBoats$Voyage", "setOut", "(IZ)V"⟩ ∈ lw_gd := wmP (i := 27) (by decide +kernel) rfl
theorem wm_28 : Cond.selects "WeekBoats$Voyage" ⟨"WeekBoats$Voyage", "pass", "(IZI)I"⟩ ⟨"WeekBoats$Voyage", "pass", "(IZI)I"⟩ ∈ lw_gd := wmP (i := 28) (by decide +kernel) rfl
theorem wm_29 : Cond.selects "WeekBoats$Voyage" ⟨"WeekBoats$Voyage", "step", "(IIII)I"⟩ ⟨"WeekBoats$Voyage", "step", "(IIII)I"⟩ ∈ lw_gd := wmP (i := 29) (by decide +kernel) rfl
theorem wm_30 : Cond.selects "WeekBoats$Voyage" ⟨"WeekBoats$Voyage", "begins", "(III)I"⟩ ⟨"WeekBoats$Voyage", "begins", "(III)I"⟩ ∈ lw_gd := wmP (i := 30) (by decide +kernel) rfl
theorem wm_31 : Cond.selects "WeekBoats$Voyage" ⟨"WeekBoats$Voyage", "firstHour", "(III)I"⟩ ⟨"WeekBoats$Voyage", "firstHour", "(III)I"⟩ ∈ lw_gd := wmP (i := 31) (by decide +kernel) rfl
theorem wm_32 : Cond.selects "WeekBoats$Voyage" ⟨"WeekBoats$Voyage", "hourBehind", "(III)I"⟩ ⟨"WeekBoats$Voyage", "hourBehind", "(III)I"⟩ ∈ lw_gd := wmP (i := 32) (by decide +kernel) rfl
theorem wm_33 : Cond.selects "WeekBoats$Voyage" ⟨"WeekBoats$Voyage", "isStopped", "(II)Z"⟩ ⟨"WeekBoats$Voyage", "isStopped", "(II)Z"⟩ ∈ lw_gd := wmP (i := 33) (by decide +kernel) rfl
theorem wm_34 : Cond.selects "WeekBoats$Boats" ⟨"WeekBoats$Boats", "harmOfLock", "(II)I"⟩ ⟨"WeekBoats$Boats", "harmOfLock", "(II)I"⟩ ∈ lw_gd := wmP (i := 34) (by decide +kernel) rfl
theorem wm_35 : Cond.selects "WeekBoats$Trips" ⟨"WeekBoats$Trips", "isBackInTime", "(II)Z"⟩ ⟨"WeekBoats$Trips", "isBackInTime", "(II)Z"⟩ ∈ lw_gd := wmP (i := 35) (by decide +kernel) rfl
theorem wm_36 : Cond.selects "WeekBoats$Boats" ⟨"WeekBoats$Boats", "canBetween", "(IIIII)Z"⟩ ⟨"WeekBoats$Boats", "canBetween", "(IIIII)Z"⟩ ∈ lw_gd := wmP (i := 36) (by decide +kernel) rfl
theorem wm_37 : Cond.selects "WeekBoats$Boats" ⟨"WeekBoats$Boats", "placeOf", "(II)I"⟩ ⟨"WeekBoats$Boats", "placeOf", "(II)I"⟩ ∈ lw_gd := wmP (i := 37) (by decide +kernel) rfl
theorem wm_38 : Cond.selects "WeekBoats$Boats" ⟨"WeekBoats$Boats", "timeOf", "(II)I"⟩ ⟨"WeekBoats$Boats", "timeOf", "(II)I"⟩ ∈ lw_gd := wmP (i := 38) (by decide +kernel) rfl
theorem wm_39 : Cond.selects "WeekBoats$Boats" ⟨"WeekBoats$Boats", "lastLog", "(II)I"⟩ ⟨"WeekBoats$Boats", "lastLog", "(II)I"⟩ ∈ lw_gd := wmP (i := 39) (by decide +kernel) rfl
theorem wm_40 : Cond.selects "WeekBoats$LockQueue" ⟨"WeekBoats$LockQueue", "findBest", "()V"⟩ ⟨"WeekBoats$LockQueue", "findBest", "()V"⟩ ∈ lw_gd := wmP (i := 40) (by decide +kernel) rfl
theorem wm_41 : Cond.selects "WeekBoats$LockQueue" ⟨"WeekBoats$LockQueue", "waitOf", "([I)I"⟩ ⟨"WeekBoats$LockQueue", "waitOf", "([I)I"⟩ ∈ lw_gd := wmP (i := 41) (by decide +kernel) rfl
theorem wm_42 : Cond.selects "WeekBoats$LockQueue" ⟨"WeekBoats$LockQueue", "minutesOf", "([II)I"⟩ ⟨"WeekBoats$LockQueue", "minutesOf", "([II)I"⟩ ∈ lw_gd := wmP (i := 42) (by decide +kernel) rfl
theorem wm_43 : Cond.selects "WeekBoats$Bookings" ⟨"WeekBoats$Bookings", "putInOrder", "()V"⟩ ⟨"WeekBoats$Bookings", "putInOrder", "()V"⟩ ∈ lw_gd := wmP (i := 43) (by decide +kernel) rfl
theorem wm_44 : Cond.selects "WeekBoats" ⟨"WeekBoats", "hireFirst", "(I)V"⟩ ⟨"WeekBoats", "hireFirst", "(I)V"⟩ ∈ lw_gd := wmP (i := 44) (by decide +kernel) rfl
theorem wm_45 : Cond.selects "WeekBoats$Bookings" ⟨"WeekBoats$Bookings", "canEverBeGiven", "(I)Z"⟩ ⟨"WeekBoats$Bookings", "canEverBeGiven", "(I)Z"⟩ ∈ lw_gd := wmP (i := 45) (by decide +kernel) rfl
theorem wm_46 : Cond.selects "WeekBoats$Bookings" ⟨"WeekBoats$Bookings", "canCome", "(II)Z"⟩ ⟨"WeekBoats$Bookings", "canCome", "(II)Z"⟩ ∈ lw_gd := wmP (i := 46) (by decide +kernel) rfl
theorem wm_47 : Cond.selects "WeekBoats$Bookings" ⟨"WeekBoats$Bookings", "compare", "(I)V"⟩ ⟨"WeekBoats$Bookings", "compare", "(I)V"⟩ ∈ lw_gd := wmP (i := 47) (by decide +kernel) rfl
theorem wm_48 : Cond.selects "WeekBoats$Bookings" ⟨"WeekBoats$Bookings", "canHave", "(II)Z"⟩ ⟨"WeekBoats$Bookings", "canHave", "(II)Z"⟩ ∈ lw_gd := wmP (i := 48) (by decide +kernel) rfl
theorem wm_49 : Cond.selects "WeekBoats$Yard" ⟨"WeekBoats$Yard", "othersInDock", "(I)I"⟩ ⟨"WeekBoats$Yard", "othersInDock", "(I)I"⟩ ∈ lw_gd := wmP (i := 49) (by decide +kernel) rfl
theorem wm_50 : Cond.selects "WeekBoats$Yard" ⟨"WeekBoats$Yard", "chooseNext", "(I)V"⟩ ⟨"WeekBoats$Yard", "chooseNext", "(I)V"⟩ ∈ lw_gd := wmP (i := 50) (by decide +kernel) rfl
theorem wm_51 : Cond.selects "WeekBoats$Yard" ⟨"WeekBoats$Yard", "isBetter", "(III)Z"⟩ ⟨"WeekBoats$Yard", "isBetter", "(III)Z"⟩ ∈ lw_gd := wmP (i := 51) (by decide +kernel) rfl
theorem wm_52 : Cond.selects "WeekBoats$Vans" ⟨"WeekBoats$Vans", "minutes", "(II)I"⟩ ⟨"WeekBoats$Vans", "minutes", "(II)I"⟩ ∈ lw_gd := wmP (i := 52) (by decide +kernel) rfl
theorem wm_53 : Cond.selects "WeekBoats$Vans" ⟨"WeekBoats$Vans", "comesAt", "(II)I"⟩ ⟨"WeekBoats$Vans", "comesAt", "(II)I"⟩ ∈ lw_gd := wmP (i := 53) (by decide +kernel) rfl
theorem wm_54 : Cond.selects "WeekBoatsModel" ⟨"WeekBoatsModel", "next0", "()V"⟩ ⟨"WeekBoatsModel", "next0", "()V"⟩ ∈ lw_gd := wmP (i := 54) (by decide +kernel) rfl
theorem wm_55 : Cond.selects "WeekBoatsModel" ⟨"WeekBoatsModel", "see", "(I)I"⟩ ⟨"WeekBoatsModel", "see", "(I)I"⟩ ∈ lw_gd := wmP (i := 55) (by decide +kernel) rfl
theorem wm_56 : Cond.selects "WeekBoatsModel" ⟨"WeekBoatsModel", "word", "()I"⟩ ⟨"WeekBoatsModel", "word", "()I"⟩ ∈ lw_gd := wmP (i := 56) (by decide +kernel) rfl
theorem wm_57 : Cond.selects "WeekBoatsModel" ⟨"WeekBoatsModel", "is", "(Ljava/lang/String;)Z"⟩ ⟨"WeekBoatsModel", "is", "(Ljava/lang/String;)Z"⟩ ∈ lw_gd := wmP (i := 57) (by decide +kernel) rfl
theorem wm_58 : Cond.selects "WeekBoatsModel" ⟨"WeekBoatsModel", "aLine", "()Z"⟩ ⟨"WeekBoatsModel", "aLine", "()Z"⟩ ∈ lw_gd := wmP (i := 58) (by decide +kernel) rfl
theorem wm_59 : Cond.selects "WeekBoatsModel" ⟨"WeekBoatsModel", "bad", "(I)Z"⟩ ⟨"WeekBoatsModel", "bad", "(I)Z"⟩ ∈ lw_gd := wmP (i := 59) (by decide +kernel) rfl
theorem wm_60 : Cond.selects "WeekBoatsModel" ⟨"WeekBoatsModel", "aTunnel", "()Z"⟩ ⟨"WeekBoatsModel", "aTunnel", "()Z"⟩ ∈ lw_gd := wmP (i := 60) (by decide +kernel) rfl
theorem wm_61 : Cond.selects "WeekBoatsModel" ⟨"WeekBoatsModel", "number", "(II)Z"⟩ ⟨"WeekBoatsModel", "number", "(II)Z"⟩ ∈ lw_gd := wmP (i := 61) (by decide +kernel) rfl
theorem wm_62 : Cond.selects "WeekBoatsModel" ⟨"WeekBoatsModel", "hours", "([II[II)Z"⟩ ⟨"WeekBoatsModel", "hours", "([II[II)Z"⟩ ∈ lw_gd := wmP (i := 62) (by decide +kernel) rfl
theorem wm_63 : Cond.selects "WeekBoatsModel" ⟨"WeekBoatsModel", "need", "(I)Z"⟩ ⟨"WeekBoatsModel", "need", "(I)Z"⟩ ∈ lw_gd := wmP (i := 63) (by decide +kernel) rfl
theorem wm_64 : Cond.selects "WeekBoatsModel" ⟨"WeekBoatsModel", "sumUp", "()Z"⟩ ⟨"WeekBoatsModel", "sumUp", "()Z"⟩ ∈ lw_gd := wmP (i := 64) (by decide +kernel) rfl
theorem wm_65 : Cond.selects "WeekBoatsModel" ⟨"WeekBoatsModel", "product", "()Z"⟩ ⟨"WeekBoatsModel", "product", "()Z"⟩ ∈ lw_gd := wmP (i := 65) (by decide +kernel) rfl
theorem wm_66 : Cond.selects "WeekBoatsModel" ⟨"WeekBoatsModel", "unit", "()Z"⟩ ⟨"WeekBoatsModel", "unit", "()Z"⟩ ∈ lw_gd := wmP (i := 66) (by decide +kernel) rfl
theorem wm_67 : Cond.selects "WeekBoatsModel" ⟨"WeekBoatsModel", "lay", "(II)V"⟩ ⟨"WeekBoatsModel", "lay", "(II)V"⟩ ∈ lw_gd := wmP (i := 67) (by decide +kernel) rfl
theorem wm_68 : Cond.selects "WeekBoatsModel" ⟨"WeekBoatsModel", "any", "()Z"⟩ ⟨"WeekBoatsModel", "any", "()Z"⟩ ∈ lw_gd := wmP (i := 68) (by decide +kernel) rfl
theorem wm_69 : Cond.selects "WeekBoatsModel" ⟨"WeekBoatsModel", "every", "()Z"⟩ ⟨"WeekBoatsModel", "every", "()Z"⟩ ∈ lw_gd := wmP (i := 69) (by decide +kernel) rfl
theorem wm_70 : Cond.selects "WeekBoatsModel" ⟨"WeekBoatsModel", "one", "()Z"⟩ ⟨"WeekBoatsModel", "one", "()Z"⟩ ∈ lw_gd := wmP (i := 70) (by decide +kernel) rfl
theorem wm_71 : Cond.selects "WeekBoatsModel" ⟨"WeekBoatsModel", "opens", "()Z"⟩ ⟨"WeekBoatsModel", "opens", "()Z"⟩ ∈ lw_gd := wmP (i := 71) (by decide +kernel) rfl
theorem wm_72 : Cond.selects "WeekBoatsModel" ⟨"WeekBoatsModel", "keeps", "()V"⟩ ⟨"WeekBoatsModel", "keeps", "()V"⟩ ∈ lw_gd := wmP (i := 72) (by decide +kernel) rfl
theorem wm_73 : Cond.selects "WeekBoatsModel" ⟨"WeekBoatsModel", "locksLine", "(I)I"⟩ ⟨"WeekBoatsModel", "locksLine", "(I)I"⟩ ∈ lw_gd := wmP (i := 73) (by decide +kernel) rfl
theorem wm_74 : Cond.selects "WeekBoatsModel" ⟨"WeekBoatsModel", "forgets", "()V"⟩ ⟨"WeekBoatsModel", "forgets", "()V"⟩ ∈ lw_gd := wmP (i := 74) (by decide +kernel) rfl
theorem wm_75 : Cond.selects "WeekBoatsModel" ⟨"WeekBoatsModel", "serves", "(I)I"⟩ ⟨"WeekBoatsModel", "serves", "(I)I"⟩ ∈ lw_gd := wmP (i := 75) (by decide +kernel) rfl
theorem wm_76 : Cond.selects "WeekBoatsModel" ⟨"WeekBoatsModel", "comesTo", "(II)I"⟩ ⟨"WeekBoatsModel", "comesTo", "(II)I"⟩ ∈ lw_gd := wmP (i := 76) (by decide +kernel) rfl
theorem wm_77 : Cond.selects "WeekBoatsModel" ⟨"WeekBoatsModel", "isBoat", "(I)Z"⟩ ⟨"WeekBoatsModel", "isBoat", "(I)Z"⟩ ∈ lw_gd := wmP (i := 77) (by decide +kernel) rfl
theorem wm_78 : Cond.selects "WeekBoatsModel" ⟨"WeekBoatsModel", "led", "(IIII)I"⟩ ⟨"WeekBoatsModel", "led", "(IIII)I"⟩ ∈ lw_gd := wmP (i := 78) (by decide +kernel) rfl
theorem wm_79 : Cond.selects "WeekBoatsModel" ⟨"WeekBoatsModel", "through", "(IIZI)I"⟩ ⟨"WeekBoatsModel", "through", "(IIZI)I"⟩ ∈ lw_gd := wmP (i := 79) (by decide +kernel) rfl
theorem wm_80 : Cond.selects "WeekBoatsModel" ⟨"WeekBoatsModel", "endOf", "(IIII)I"⟩ ⟨"WeekBoatsModel", "endOf", "(IIII)I"⟩ ∈ lw_gd := wmP (i := 80) (by decide +kernel) rfl
theorem wm_81 : Cond.selects "WeekBoatsModel" ⟨"WeekBoatsModel", "mayBegin", "(IIII)Z"⟩ ⟨"WeekBoatsModel", "mayBegin", "(IIII)Z"⟩ ∈ lw_gd := wmP (i := 81) (by decide +kernel) rfl
theorem wm_82 : Cond.selects "WeekBoatsModel" ⟨"WeekBoatsModel", "isStopped", "(II)Z"⟩ ⟨"WeekBoatsModel", "isStopped", "(II)Z"⟩ ∈ lw_gd := wmP (i := 82) (by decide +kernel) rfl
theorem wm_83 : Cond.selects "WeekBoatsModel" ⟨"WeekBoatsModel", "harmOf", "(II)I"⟩ ⟨"WeekBoatsModel", "harmOf", "(II)I"⟩ ∈ lw_gd := wmP (i := 83) (by decide +kernel) rfl
theorem wm_84 : Cond.selects "WeekBoatsModel" ⟨"WeekBoatsModel", "lateOf", "(I)I"⟩ ⟨"WeekBoatsModel", "lateOf", "(I)I"⟩ ∈ lw_gd := wmP (i := 84) (by decide +kernel) rfl
theorem wm_85 : Cond.selects "WeekBoatsModel" ⟨"WeekBoatsModel", "turningBack", "(I)I"⟩ ⟨"WeekBoatsModel", "turningBack", "(I)I"⟩ ∈ lw_gd := wmP (i := 85) (by decide +kernel) rfl
theorem wm_86 : Cond.selects "WeekBoatsModel" ⟨"WeekBoatsModel", "refund", "(I)I"⟩ ⟨"WeekBoatsModel", "refund", "(I)I"⟩ ∈ lw_gd := wmP (i := 86) (by decide +kernel) rfl
theorem wm_87 : Cond.selects "WeekBoatsModel" ⟨"WeekBoatsModel", "canHaveBeen", "(IIII)Z"⟩ ⟨"WeekBoatsModel", "canHaveBeen", "(IIII)Z"⟩ ∈ lw_gd := wmP (i := 87) (by decide +kernel) rfl
theorem wm_88 : Cond.selects "WeekBoatsModel" ⟨"WeekBoatsModel", "between", "(IIIII)Z"⟩ ⟨"WeekBoatsModel", "between", "(IIIII)Z"⟩ ∈ lw_gd := wmP (i := 88) (by decide +kernel) rfl
theorem wm_89 : Cond.selects "WeekBoatsModel" ⟨"WeekBoatsModel", "orders", "(II)V"⟩ ⟨"WeekBoatsModel", "orders", "(II)V"⟩ ∈ lw_gd := wmP (i := 89) (by decide +kernel) rfl
theorem wm_90 : Cond.selects "WeekBoatsModel" ⟨"WeekBoatsModel", "waits", "()I"⟩ ⟨"WeekBoatsModel", "waits", "()I"⟩ ∈ lw_gd := wmP (i := 90) (by decide +kernel) rfl
theorem wm_91 : Cond.selects "WeekBoatsModel" ⟨"WeekBoatsModel", "asTheyCome", "()V"⟩ ⟨"WeekBoatsModel", "asTheyCome", "()V"⟩ ∈ lw_gd := wmP (i := 91) (by decide +kernel) rfl
theorem wm_92 : Cond.selects "WeekBoatsModel" ⟨"WeekBoatsModel", "lockfuls", "()I"⟩ ⟨"WeekBoatsModel", "lockfuls", "()I"⟩ ∈ lw_gd := wmP (i := 92) (by decide +kernel) rfl
theorem wm_93 : Cond.selects "WeekBoatsModel" ⟨"WeekBoatsModel", "asks", "(I)V"⟩ ⟨"WeekBoatsModel", "asks", "(I)V"⟩ ∈ lw_gd := wmP (i := 93) (by decide +kernel) rfl
theorem wm_94 : Cond.selects "WeekBoatsModel" ⟨"WeekBoatsModel", "givesBest", "(I)V"⟩ ⟨"WeekBoatsModel", "givesBest", "(I)V"⟩ ∈ lw_gd := wmP (i := 94) (by decide +kernel) rfl
theorem wm_95 : Cond.selects "WeekBoatsModel" ⟨"WeekBoatsModel", "sorts", "()V"⟩ ⟨"WeekBoatsModel", "sorts", "()V"⟩ ∈ lw_gd := wmP (i := 95) (by decide +kernel) rfl
theorem wm_96 : Cond.selects "WeekBoatsModel" ⟨"WeekBoatsModel", "gives", "(III)V"⟩ ⟨"WeekBoatsModel", "gives", "(III)V"⟩ ∈ lw_gd := wmP (i := 96) (by decide +kernel) rfl
theorem wm_97 : Cond.selects "WeekBoatsModel" ⟨"WeekBoatsModel", "docksOn", "(IIIII)V"⟩ ⟨"WeekBoatsModel", "docksOn", "(IIIII)V"⟩ ∈ lw_gd := wmP (i := 97) (by decide +kernel) rfl
theorem wm_98 : Cond.selects "WeekBoatsModel" ⟨"WeekBoatsModel", "worked", "(I)I"⟩ ⟨"WeekBoatsModel", "worked", "(I)I"⟩ ∈ lw_gd := wmP (i := 98) (by decide +kernel) rfl
theorem wm_99 : Cond.selects "WeekBoatsModel" ⟨"WeekBoatsModel", "lastEnd", "(I)I"⟩ ⟨"WeekBoatsModel", "lastEnd", "(I)I"⟩ ∈ lw_gd := wmP (i := 99) (by decide +kernel) rfl
theorem wm_100 : Cond.selects "WeekBoatsModel" ⟨"WeekBoatsModel", "handOf", "(III)I"⟩ ⟨"WeekBoatsModel", "handOf", "(III)I"⟩ ∈ lw_gd := wmP (i := 100) (by decide +kernel) rfl
theorem wm_101 : Cond.selects "WeekBoatsModel" ⟨"WeekBoatsModel", "sumOf", "(I)I"⟩ ⟨"WeekBoatsModel", "sumOf", "(I)I"⟩ ∈ lw_gd := wmP (i := 101) (by decide +kernel) rfl
theorem wm_102 : Cond.selects "WeekBoatsModel" ⟨"WeekBoatsModel", "drive", "(II)I"⟩ ⟨"WeekBoatsModel", "drive", "(II)I"⟩ ∈ lw_gd := wmP (i := 102) (by decide +kernel) rfl
theorem wm_103 : Cond.selects "WeekBoatsModel" ⟨"WeekBoatsModel", "worstOf", "(I)I"⟩ ⟨"WeekBoatsModel", "worstOf", "(I)I"⟩ ∈ lw_gd := wmP (i := 103) (by decide +kernel) rfl
theorem wm_104 : Cond.selects "WeekBoatsModel" ⟨"WeekBoatsModel", "nearer", "(III)I"⟩ ⟨"WeekBoatsModel", "nearer", "(III)I"⟩ ∈ lw_gd := wmP (i := 104) (by decide +kernel) rfl
theorem wm_105 : Cond.selects "WeekBoatsModel" ⟨"WeekBoatsModel", "arrives", "(II)I"⟩ ⟨"WeekBoatsModel", "arrives", "(II)I"⟩ ∈ lw_gd := wmP (i := 105) (by decide +kernel) rfl
theorem wm_106 : Cond.selects "WeekBoatsModel" ⟨"WeekBoatsModel", "starts", "()V"⟩ ⟨"WeekBoatsModel", "starts", "()V"⟩ ∈ lw_gd := wmP (i := 106) (by decide +kernel) rfl
theorem wm_107 : Cond.selects "WeekBoatsModel" ⟨"WeekBoatsModel", "aDay", "(IIII)V"⟩ ⟨"WeekBoatsModel", "aDay", "(IIII)V"⟩ ∈ lw_gd := wmP (i := 107) (by decide +kernel) rfl
theorem wm_108 : Cond.selects "WeekBoatsModel" ⟨"WeekBoatsModel", "falls", "(III)V"⟩ ⟨"WeekBoatsModel", "falls", "(III)V"⟩ ∈ lw_gd := wmP (i := 108) (by decide +kernel) rfl
theorem wm_109 : Cond.selects "WeekBoatsModel" ⟨"WeekBoatsModel", "kept", "()I"⟩ ⟨"WeekBoatsModel", "kept", "()I"⟩ ∈ lw_gd := wmP (i := 109) (by decide +kernel) rfl
theorem wm_110 : Cond.initialized "WeekBoatsLaw" ∈ lw_gd := wk_1 (i := 0) (by decide +kernel) rfl
theorem wm_111 : Cond.initialized "WeekBoats" ∈ lw_gd := wk_1 (i := 1) (by decide +kernel) rfl
theorem wm_112 : Cond.initialized "WeekBoats$Canal" ∈ lw_gd := wk_1 (i := 2) (by decide +kernel) rfl
theorem wm_113 : Cond.initialized "java/util/Arrays" ∈ lw_gd := wk_1 (i := 3) (by decide +kernel) rfl
theorem wm_114 : Cond.initialized "WeekBoats$Rules" ∈ lw_gd := wk_1 (i := 4) (by decide +kernel) rfl
theorem wm_115 : Cond.initialized "WeekBoats$Parser" ∈ lw_gd := wk_1 (i := 5) (by decide +kernel) rfl
theorem wm_116 : Cond.initialized "WeekBoats$Voyage" ∈ lw_gd := wk_1 (i := 6) (by decide +kernel) rfl
theorem wm_117 : Cond.initialized "WeekBoats$Boats" ∈ lw_gd := wk_1 (i := 7) (by decide +kernel) rfl
theorem wm_118 : Cond.initialized "WeekBoats$Trips" ∈ lw_gd := wk_1 (i := 8) (by decide +kernel) rfl
theorem wm_119 : Cond.initialized "WeekBoats$LockQueue" ∈ lw_gd := wk_1 (i := 9) (by decide +kernel) rfl
theorem wm_120 : Cond.initialized "WeekBoats$Bookings" ∈ lw_gd := wk_1 (i := 10) (by decide +kernel) rfl
theorem wm_121 : Cond.initialized "WeekBoats$Yard" ∈ lw_gd := wk_1 (i := 11) (by decide +kernel) rfl
theorem wm_122 : Cond.initialized "WeekBoats$Vans" ∈ lw_gd := wk_1 (i := 12) (by decide +kernel) rfl
theorem wm_123 : Cond.initialized "WeekBoats$Rain" ∈ lw_gd := wk_1 (i := 13) (by decide +kernel) rfl
theorem wm_124 : Cond.initialized "WeekBoatsModel" ∈ lw_gd := wk_1 (i := 14) (by decide +kernel) rfl
theorem wm_125 : Cond.initialized "java/lang/String" ∈ lw_gd := wk_1 (i := 15) (by decide +kernel) rfl
theorem wm_126 : Cond.initialized "java/lang/StringLatin1" ∈ lw_gd := wk_1 (i := 16) (by decide +kernel) rfl
theorem wm_127 : Cond.initialized "jdk/internal/util/Preconditions" ∈ lw_gd := wk_1 (i := 17) (by decide +kernel) rfl
theorem wm_128 : Cond.initialized "java/lang/StringUTF16" ∈ lw_gd := wk_1 (i := 18) (by decide +kernel) rfl
theorem wm_129 : Cond.initialized "java/lang/Math" ∈ lw_gd := wk_1 (i := 19) (by decide +kernel) rfl
theorem wm_130 : Cond.initialized "java/lang/Character" ∈ lw_gd := wk_1 (i := 20) (by decide +kernel) rfl
theorem wm_131 : Cond.initialized "java/lang/System" ∈ lw_gd := wk_1 (i := 21) (by decide +kernel) rfl
theorem wm_132 : Cond.initialized "java/lang/Integer" ∈ lw_gd := wk_1 (i := 22) (by decide +kernel) rfl
theorem wm_135 : Cond.methodLink "WeekBoatsLaw" 9 ⟨"WeekBoats", "<init>", "()V"⟩ ∈ lw_gd := wk_1 (i := 25) (by decide +kernel) rfl
theorem wm_136 : Cond.instanceMethod ⟨"WeekBoats", "<init>", "()V"⟩ ∈ lw_gd := wk_1 (i := 26) (by decide +kernel) rfl
set_option maxRecDepth 100000 in
theorem wm_137 : Cond.code ⟨"WeekBoats", "<init>", "()V"⟩ prog_1_method_1_code 1 none ∈ lw_gd := wk_1 (i := 27) rfl rfl
theorem wm_138 : Cond.methodLink "WeekBoats" 3 ⟨"java/lang/Object", "<init>", "()V"⟩ ∈ lw_gd := wk_1 (i := 28) (by decide +kernel) rfl
theorem wm_139 : Cond.instanceMethod ⟨"java/lang/Object", "<init>", "()V"⟩ ∈ lw_gd := wk_1 (i := 29) (by decide +kernel) rfl
set_option maxRecDepth 100000 in
theorem wm_140 : Cond.code ⟨"java/lang/Object", "<init>", "()V"⟩ object_method_1_code 1 none ∈ lw_gd := wk_1 (i := 30) rfl rfl
theorem wm_143 : Cond.methodLink "WeekBoats" 11 ⟨"WeekBoats$Canal", "<init>", "()V"⟩ ∈ lw_gd := wk_1 (i := 33) (by decide +kernel) rfl
theorem wm_144 : Cond.instanceMethod ⟨"WeekBoats$Canal", "<init>", "()V"⟩ ∈ lw_gd := wk_1 (i := 34) (by decide +kernel) rfl
set_option maxRecDepth 100000 in
theorem wm_145 : Cond.code ⟨"WeekBoats$Canal", "<init>", "()V"⟩ prog_4_method_1_code 1 none ∈ lw_gd := wk_1 (i := 35) rfl rfl
theorem wm_146 : Cond.methodLink "WeekBoats$Canal" 3 ⟨"java/lang/Object", "<init>", "()V"⟩ ∈ lw_gd := wk_1 (i := 36) (by decide +kernel) rfl
theorem wm_147 : Cond.methodLink "WeekBoats$Canal" 28 ⟨"java/util/Arrays", "fill", "([II)V"⟩ ∈ lw_gd := wk_1 (i := 37) (by decide +kernel) rfl
theorem wm_148 : Cond.static ⟨"java/util/Arrays", "fill", "([II)V"⟩ ∈ lw_gd := wk_1 (i := 38) (by decide +kernel) rfl
set_option maxRecDepth 100000 in
theorem wm_149 : Cond.code ⟨"java/util/Arrays", "fill", "([II)V"⟩ prog_22_method_103_code 4 none ∈ lw_gd := wk_1 (i := 39) rfl rfl
theorem wm_150 : Cond.fieldLink "WeekBoats$Canal" 9 "WeekBoats$Canal" "miles" "[I" ∈ lw_gd := wk_1 (i := 40) (by decide +kernel) rfl
theorem wm_151 : Cond.fieldLink "WeekBoats$Voyage" 78 "WeekBoats$Canal" "miles" "[I" ∈ lw_gd := wk_1 (i := 41) (by decide +kernel) rfl
theorem wm_152 : Cond.fieldLink "WeekBoats" 117 "WeekBoats$Canal" "miles" "[I" ∈ lw_gd := wk_1 (i := 42) (by decide +kernel) rfl
theorem wm_153 : Cond.fieldLink "WeekBoats$Canal" 15 "WeekBoats$Canal" "locks" "[I" ∈ lw_gd := wk_1 (i := 43) (by decide +kernel) rfl
theorem wm_154 : Cond.fieldLink "WeekBoats$Voyage" 89 "WeekBoats$Canal" "locks" "[I" ∈ lw_gd := wk_1 (i := 44) (by decide +kernel) rfl
theorem wm_155 : Cond.fieldLink "WeekBoats" 121 "WeekBoats$Canal" "locks" "[I" ∈ lw_gd := wk_1 (i := 45) (by decide +kernel) rfl
theorem wm_156 : Cond.fieldLink "WeekBoats$Canal" 18 "WeekBoats$Canal" "road" "[I" ∈ lw_gd := wk_1 (i := 46) (by decide +kernel) rfl
theorem wm_157 : Cond.fieldLink "WeekBoats$Vans" 40 "WeekBoats$Canal" "road" "[I" ∈ lw_gd := wk_1 (i := 47) (by decide +kernel) rfl
theorem wm_158 : Cond.fieldLink "WeekBoats" 124 "WeekBoats$Canal" "road" "[I" ∈ lw_gd := wk_1 (i := 48) (by decide +kernel) rfl
theorem wm_159 : Cond.fieldLink "WeekBoats$Canal" 21 "WeekBoats$Canal" "stopped" "[I" ∈ lw_gd := wk_1 (i := 49) (by decide +kernel) rfl
theorem wm_160 : Cond.fieldLink "WeekBoats$Voyage" 115 "WeekBoats$Canal" "stopped" "[I" ∈ lw_gd := wk_1 (i := 50) (by decide +kernel) rfl
theorem wm_161 : Cond.fieldLink "WeekBoats$Canal" 34 "WeekBoats$Canal" "stoppages" "I" ∈ lw_gd := wk_1 (i := 51) (by decide +kernel) rfl
theorem wm_162 : Cond.fieldLink "WeekBoats" 136 "WeekBoats$Canal" "stoppages" "I" ∈ lw_gd := wk_1 (i := 52) (by decide +kernel) rfl
theorem wm_163 : Cond.fieldLink "WeekBoats$Canal" 24 "WeekBoats$Canal" "water" "I" ∈ lw_gd := wk_1 (i := 53) (by decide +kernel) rfl
theorem wm_164 : Cond.fieldLink "WeekBoats$Voyage" 38 "WeekBoats$Canal" "water" "I" ∈ lw_gd := wk_1 (i := 54) (by decide +kernel) rfl
theorem wm_165 : Cond.fieldLink "WeekBoats" 127 "WeekBoats$Canal" "water" "I" ∈ lw_gd := wk_1 (i := 55) (by decide +kernel) rfl
theorem wm_166 : Cond.fieldLink "WeekBoats$Boats" 104 "WeekBoats$Canal" "water" "I" ∈ lw_gd := wk_1 (i := 56) (by decide +kernel) rfl
theorem wm_167 : Cond.fieldLink "WeekBoats$Canal" 37 "WeekBoats$Canal" "pumps" "I" ∈ lw_gd := wk_1 (i := 57) (by decide +kernel) rfl
theorem wm_168 : Cond.fieldLink "WeekBoats$Voyage" 75 "WeekBoats$Canal" "pumps" "I" ∈ lw_gd := wk_1 (i := 58) (by decide +kernel) rfl
theorem wm_188 : Cond.instanceMethod ⟨"WeekBoats$Rules", "<init>", "()V"⟩ ∈ lw_gd := wk_1 (i := 78) (by decide +kernel) rfl
set_option maxRecDepth 100000 in
theorem wm_189 : Cond.code ⟨"WeekBoats$Rules", "<init>", "()V"⟩ prog_8_method_1_code 1 none ∈ lw_gd := wk_1 (i := 79) rfl rfl
theorem wm_190 : Cond.methodLink "WeekBoats$Rules" 3 ⟨"java/lang/Object", "<init>", "()V"⟩ ∈ lw_gd := wk_1 (i := 80) (by decide +kernel) rfl
theorem wm_191 : Cond.fieldLink "WeekBoats$Rules" 9 "WeekBoats$Rules" "step" "[I" ∈ lw_gd := wk_1 (i := 81) (by decide +kernel) rfl
theorem wm_192 : Cond.fieldLink "WeekBoats$Rules" 15 "WeekBoats$Rules" "with" "[I" ∈ lw_gd := wk_1 (i := 82) (by decide +kernel) rfl
theorem wm_193 : Cond.fieldLink "WeekBoats$Rules" 48 "WeekBoats$Rules" "steps" "I" ∈ lw_gd := wk_1 (i := 83) (by decide +kernel) rfl
theorem wm_194 : Cond.fieldLink "WeekBoats$Parser" 116 "WeekBoats$Rules" "steps" "I" ∈ lw_gd := wk_1 (i := 84) (by decide +kernel) rfl
theorem wm_195 : Cond.fieldLink "WeekBoats$Rules" 52 "WeekBoats$Rules" "lines" "I" ∈ lw_gd := wk_1 (i := 85) (by decide +kernel) rfl
theorem wm_196 : Cond.fieldLink "WeekBoats$Parser" 49 "WeekBoats$Rules" "lines" "I" ∈ lw_gd := wk_1 (i := 86) (by decide +kernel) rfl
theorem wm_197 : Cond.fieldLink "WeekBoats$Rules" 18 "WeekBoats$Rules" "kind" "[I" ∈ lw_gd := wk_1 (i := 87) (by decide +kernel) rfl
theorem wm_198 : Cond.fieldLink "WeekBoats$Parser" 110 "WeekBoats$Rules" "kind" "[I" ∈ lw_gd := wk_1 (i := 88) (by decide +kernel) rfl
theorem wm_199 : Cond.fieldLink "WeekBoats$Rules" 21 "WeekBoats$Rules" "first" "[I" ∈ lw_gd := wk_1 (i := 89) (by decide +kernel) rfl
theorem wm_200 : Cond.fieldLink "WeekBoats$Parser" 113 "WeekBoats$Rules" "first" "[I" ∈ lw_gd := wk_1 (i := 90) (by decide +kernel) rfl
theorem wm_201 : Cond.fieldLink "WeekBoats$Rules" 24 "WeekBoats$Rules" "when" "[I" ∈ lw_gd := wk_1 (i := 91) (by decide +kernel) rfl
theorem wm_202 : Cond.fieldLink "WeekBoats$Parser" 134 "WeekBoats$Rules" "when" "[I" ∈ lw_gd := wk_1 (i := 92) (by decide +kernel) rfl
theorem wm_203 : Cond.fieldLink "WeekBoats$Rules" 27 "WeekBoats$Rules" "end" "[I" ∈ lw_gd := wk_1 (i := 93) (by decide +kernel) rfl
theorem wm_204 : Cond.fieldLink "WeekBoats$Parser" 143 "WeekBoats$Rules" "end" "[I" ∈ lw_gd := wk_1 (i := 94) (by decide +kernel) rfl
theorem wm_205 : Cond.fieldLink "WeekBoats$Rules" 30 "WeekBoats$Rules" "hourFrom" "[I" ∈ lw_gd := wk_1 (i := 95) (by decide +kernel) rfl
theorem wm_206 : Cond.fieldLink "WeekBoats$Voyage" 54 "WeekBoats$Rules" "hourFrom" "[I" ∈ lw_gd := wk_1 (i := 96) (by decide +kernel) rfl
theorem wm_207 : Cond.fieldLink "WeekBoats$Parser" 122 "WeekBoats$Rules" "hourFrom" "[I" ∈ lw_gd := wk_1 (i := 97) (by decide +kernel) rfl
theorem wm_208 : Cond.fieldLink "WeekBoats$Rules" 33 "WeekBoats$Rules" "hourTo" "[I" ∈ lw_gd := wk_1 (i := 98) (by decide +kernel) rfl
theorem wm_209 : Cond.fieldLink "WeekBoats$Voyage" 57 "WeekBoats$Rules" "hourTo" "[I" ∈ lw_gd := wk_1 (i := 99) (by decide +kernel) rfl
theorem wm_210 : Cond.fieldLink "WeekBoats$Parser" 128 "WeekBoats$Rules" "hourTo" "[I" ∈ lw_gd := wk_1 (i := 100) (by decide +kernel) rfl
theorem wm_211 : Cond.fieldLink "WeekBoats$Rules" 55 "WeekBoats$Rules" "tunnels" "I" ∈ lw_gd := wk_1 (i := 101) (by decide +kernel) rfl
theorem wm_212 : Cond.fieldLink "WeekBoats$Parser" 152 "WeekBoats$Rules" "tunnels" "I" ∈ lw_gd := wk_1 (i := 102) (by decide +kernel) rfl
theorem wm_213 : Cond.fieldLink "WeekBoats$Rules" 36 "WeekBoats$Rules" "tunnelFrom" "[I" ∈ lw_gd := wk_1 (i := 103) (by decide +kernel) rfl
theorem wm_214 : Cond.fieldLink "WeekBoats$Voyage" 118 "WeekBoats$Rules" "tunnelFrom" "[I" ∈ lw_gd := wk_1 (i := 104) (by decide +kernel) rfl
theorem wm_215 : Cond.fieldLink "WeekBoats$Parser" 155 "WeekBoats$Rules" "tunnelFrom" "[I" ∈ lw_gd := wk_1 (i := 105) (by decide +kernel) rfl
theorem wm_216 : Cond.fieldLink "WeekBoats$Rules" 39 "WeekBoats$Rules" "tunnelTo" "[I" ∈ lw_gd := wk_1 (i := 106) (by decide +kernel) rfl
theorem wm_217 : Cond.fieldLink "WeekBoats$Voyage" 121 "WeekBoats$Rules" "tunnelTo" "[I" ∈ lw_gd := wk_1 (i := 107) (by decide +kernel) rfl
theorem wm_218 : Cond.fieldLink "WeekBoats$Parser" 158 "WeekBoats$Rules" "tunnelTo" "[I" ∈ lw_gd := wk_1 (i := 108) (by decide +kernel) rfl
theorem wm_219 : Cond.fieldLink "WeekBoats$Rules" 42 "WeekBoats$Rules" "asked" "[I" ∈ lw_gd := wk_1 (i := 109) (by decide +kernel) rfl
theorem wm_220 : Cond.fieldLink "WeekBoats$Boats" 115 "WeekBoats$Rules" "asked" "[I" ∈ lw_gd := wk_1 (i := 110) (by decide +kernel) rfl
theorem wm_221 : Cond.fieldLink "WeekBoats$Rules" 45 "WeekBoats$Rules" "stack" "[I" ∈ lw_gd := wk_1 (i := 111) (by decide +kernel) rfl
theorem wm_255 : Cond.methodLink "WeekBoats" 28 ⟨"WeekBoats$Parser", "<init>", "(LWeekBoats$Rules;)V"⟩ ∈ lw_gd := wk_1 (i := 145) (by decide +kernel) rfl
theorem wm_256 : Cond.instanceMethod ⟨"WeekBoats$Parser", "<init>", "(LWeekBoats$Rules;)V"⟩ ∈ lw_gd := wk_1 (i := 146) (by decide +kernel) rfl
set_option maxRecDepth 100000 in
theorem wm_257 : Cond.code ⟨"WeekBoats$Parser", "<init>", "(LWeekBoats$Rules;)V"⟩ prog_6_method_1_code 2 none ∈ lw_gd := wk_1 (i := 147) rfl rfl
theorem wm_258 : Cond.methodLink "WeekBoats$Parser" 3 ⟨"java/lang/Object", "<init>", "()V"⟩ ∈ lw_gd := wk_1 (i := 148) (by decide +kernel) rfl
theorem wm_259 : Cond.fieldLink "WeekBoats$Parser" 25 "WeekBoats$Parser" "draft" "LWeekBoats$Rules;" ∈ lw_gd := wk_1 (i := 149) (by decide +kernel) rfl
theorem wm_260 : Cond.fieldLink "WeekBoats$Parser" 9 "WeekBoats$Parser" "tape" "[I" ∈ lw_gd := wk_1 (i := 150) (by decide +kernel) rfl
theorem wm_261 : Cond.fieldLink "WeekBoats$Parser" 29 "WeekBoats$Parser" "length" "I" ∈ lw_gd := wk_1 (i := 151) (by decide +kernel) rfl
theorem wm_262 : Cond.fieldLink "WeekBoats" 150 "WeekBoats$Parser" "length" "I" ∈ lw_gd := wk_1 (i := 152) (by decide +kernel) rfl
theorem wm_263 : Cond.fieldLink "WeekBoats$Parser" 15 "WeekBoats$Parser" "token" "[I" ∈ lw_gd := wk_1 (i := 153) (by decide +kernel) rfl
theorem wm_264 : Cond.fieldLink "WeekBoats$Parser" 18 "WeekBoats$Parser" "place" "[I" ∈ lw_gd := wk_1 (i := 154) (by decide +kernel) rfl
theorem wm_265 : Cond.fieldLink "WeekBoats$Parser" 52 "WeekBoats$Parser" "tokens" "I" ∈ lw_gd := wk_1 (i := 155) (by decide +kernel) rfl
theorem wm_266 : Cond.fieldLink "WeekBoats$Parser" 35 "WeekBoats$Parser" "at" "I" ∈ lw_gd := wk_1 (i := 156) (by decide +kernel) rfl
theorem wm_267 : Cond.fieldLink "WeekBoats$Parser" 32 "WeekBoats$Parser" "fault" "I" ∈ lw_gd := wk_1 (i := 157) (by decide +kernel) rfl
theorem wm_268 : Cond.fieldLink "WeekBoats" 164 "WeekBoats$Parser" "fault" "I" ∈ lw_gd := wk_1 (i := 158) (by decide +kernel) rfl
theorem wm_269 : Cond.fieldLink "WeekBoats$Parser" 21 "WeekBoats$Parser" "faultPlace" "I" ∈ lw_gd := wk_1 (i := 159) (by decide +kernel) rfl
theorem wm_270 : Cond.fieldLink "WeekBoats" 167 "WeekBoats$Parser" "faultPlace" "I" ∈ lw_gd := wk_1 (i := 160) (by decide +kernel) rfl
theorem wm_292 : Cond.methodLink "WeekBoats" 37 ⟨"WeekBoats$Voyage", "<init>", "(LWeekBoats$Canal;LWeekBoats$Rules;)V"⟩ ∈ lw_gd := wk_1 (i := 182) (by decide +kernel) rfl
theorem wm_293 : Cond.instanceMethod ⟨"WeekBoats$Voyage", "<init>", "(LWeekBoats$Canal;LWeekBoats$Rules;)V"⟩ ∈ lw_gd := wk_1 (i := 183) (by decide +kernel) rfl
set_option maxRecDepth 100000 in
theorem wm_294 : Cond.code ⟨"WeekBoats$Voyage", "<init>", "(LWeekBoats$Canal;LWeekBoats$Rules;)V"⟩ prog_11_method_1_code 3 none ∈ lw_gd := wk_1 (i := 184) rfl rfl
theorem wm_295 : Cond.methodLink "WeekBoats$Voyage" 3 ⟨"java/lang/Object", "<init>", "()V"⟩ ∈ lw_gd := wk_1 (i := 185) (by decide +kernel) rfl
theorem wm_296 : Cond.methodLink "WeekBoats$Voyage" 32 ⟨"java/util/Arrays", "fill", "([II)V"⟩ ∈ lw_gd := wk_1 (i := 186) (by decide +kernel) rfl
theorem wm_297 : Cond.fieldLink "WeekBoats$Voyage" 24 "WeekBoats$Voyage" "canal" "LWeekBoats$Canal;" ∈ lw_gd := wk_1 (i := 187) (by decide +kernel) rfl
theorem wm_298 : Cond.fieldLink "WeekBoats$Voyage" 28 "WeekBoats$Voyage" "rules" "LWeekBoats$Rules;" ∈ lw_gd := wk_1 (i := 188) (by decide +kernel) rfl
theorem wm_299 : Cond.fieldLink "WeekBoats$Voyage" 9 "WeekBoats$Voyage" "openFrom" "[I" ∈ lw_gd := wk_1 (i := 189) (by decide +kernel) rfl
theorem wm_300 : Cond.fieldLink "WeekBoats" 170 "WeekBoats$Voyage" "openFrom" "[I" ∈ lw_gd := wk_1 (i := 190) (by decide +kernel) rfl
theorem wm_301 : Cond.fieldLink "WeekBoats$Voyage" 15 "WeekBoats$Voyage" "openTo" "[I" ∈ lw_gd := wk_1 (i := 191) (by decide +kernel) rfl
theorem wm_302 : Cond.fieldLink "WeekBoats" 173 "WeekBoats$Voyage" "openTo" "[I" ∈ lw_gd := wk_1 (i := 192) (by decide +kernel) rfl
theorem wm_303 : Cond.fieldLink "WeekBoats$Voyage" 18 "WeekBoats$Voyage" "arrival" "[I" ∈ lw_gd := wk_1 (i := 193) (by decide +kernel) rfl
theorem wm_304 : Cond.fieldLink "WeekBoats" 216 "WeekBoats$Voyage" "arrival" "[I" ∈ lw_gd := wk_1 (i := 194) (by decide +kernel) rfl
theorem wm_305 : Cond.fieldLink "WeekBoats$Voyage" 21 "WeekBoats$Voyage" "locksBegun" "[I" ∈ lw_gd := wk_1 (i := 195) (by decide +kernel) rfl
theorem wm_306 : Cond.fieldLink "WeekBoats$Boats" 98 "WeekBoats$Voyage" "locksBegun" "[I" ∈ lw_gd := wk_1 (i := 196) (by decide +kernel) rfl
theorem wm_307 : Cond.fieldLink "WeekBoats$Voyage" 60 "WeekBoats$Voyage" "lockMinutes" "I" ∈ lw_gd := wk_1 (i := 197) (by decide +kernel) rfl
theorem wm_308 : Cond.fieldLink "WeekBoats$Voyage" 63 "WeekBoats$Voyage" "heedsStoppages" "Z" ∈ lw_gd := wk_1 (i := 198) (by decide +kernel) rfl
theorem wm_328 : Cond.methodLink "WeekBoats" 46 ⟨"WeekBoats$Boats", "<init>", "(LWeekBoats$Canal;LWeekBoats$Rules;LWeekBoats$Voyage;)V"⟩ ∈ lw_gd := wk_1 (i := 218) (by decide +kernel) rfl
theorem wm_329 : Cond.instanceMethod ⟨"WeekBoats$Boats", "<init>", "(LWeekBoats$Canal;LWeekBoats$Rules;LWeekBoats$Voyage;)V"⟩ ∈ lw_gd := wk_1 (i := 219) (by decide +kernel) rfl
set_option maxRecDepth 100000 in
theorem wm_330 : Cond.code ⟨"WeekBoats$Boats", "<init>", "(LWeekBoats$Canal;LWeekBoats$Rules;LWeekBoats$Voyage;)V"⟩ prog_2_method_1_code 4 none ∈ lw_gd := wk_1 (i := 220) rfl rfl
theorem wm_331 : Cond.methodLink "WeekBoats$Boats" 3 ⟨"java/lang/Object", "<init>", "()V"⟩ ∈ lw_gd := wk_1 (i := 221) (by decide +kernel) rfl
theorem wm_334 : Cond.fieldLink "WeekBoats$Boats" 38 "WeekBoats$Boats" "canal" "LWeekBoats$Canal;" ∈ lw_gd := wk_1 (i := 224) (by decide +kernel) rfl
theorem wm_335 : Cond.fieldLink "WeekBoats$Boats" 42 "WeekBoats$Boats" "rules" "LWeekBoats$Rules;" ∈ lw_gd := wk_1 (i := 225) (by decide +kernel) rfl
theorem wm_336 : Cond.fieldLink "WeekBoats$Boats" 46 "WeekBoats$Boats" "voyage" "LWeekBoats$Voyage;" ∈ lw_gd := wk_1 (i := 226) (by decide +kernel) rfl
theorem wm_337 : Cond.fieldLink "WeekBoats$Boats" 9 "WeekBoats$Boats" "berths" "[I" ∈ lw_gd := wk_1 (i := 227) (by decide +kernel) rfl
theorem wm_338 : Cond.fieldLink "WeekBoats" 287 "WeekBoats$Boats" "berths" "[I" ∈ lw_gd := wk_1 (i := 228) (by decide +kernel) rfl
theorem wm_339 : Cond.fieldLink "WeekBoats$Boats" 15 "WeekBoats$Boats" "age" "[I" ∈ lw_gd := wk_1 (i := 229) (by decide +kernel) rfl
theorem wm_340 : Cond.fieldLink "WeekBoats$Boats" 18 "WeekBoats$Boats" "home" "[I" ∈ lw_gd := wk_1 (i := 230) (by decide +kernel) rfl
theorem wm_341 : Cond.fieldLink "WeekBoats" 290 "WeekBoats$Boats" "home" "[I" ∈ lw_gd := wk_1 (i := 231) (by decide +kernel) rfl
theorem wm_342 : Cond.fieldLink "WeekBoats$Boats" 21 "WeekBoats$Boats" "taught" "[I" ∈ lw_gd := wk_1 (i := 232) (by decide +kernel) rfl
theorem wm_343 : Cond.fieldLink "WeekBoats$Trips" 43 "WeekBoats$Boats" "taught" "[I" ∈ lw_gd := wk_1 (i := 233) (by decide +kernel) rfl
theorem wm_344 : Cond.fieldLink "WeekBoats" 180 "WeekBoats$Boats" "taught" "[I" ∈ lw_gd := wk_1 (i := 234) (by decide +kernel) rfl
theorem wm_345 : Cond.fieldLink "WeekBoats$Boats" 50 "WeekBoats$Boats" "count" "I" ∈ lw_gd := wk_1 (i := 235) (by decide +kernel) rfl
theorem wm_346 : Cond.fieldLink "WeekBoats" 103 "WeekBoats$Boats" "count" "I" ∈ lw_gd := wk_1 (i := 236) (by decide +kernel) rfl
theorem wm_347 : Cond.fieldLink "WeekBoats$Boats" 26 "WeekBoats$Boats" "logPoint" "[[I" ∈ lw_gd := wk_1 (i := 237) (by decide +kernel) rfl
theorem wm_348 : Cond.fieldLink "WeekBoats$Boats" 29 "WeekBoats$Boats" "logTime" "[[I" ∈ lw_gd := wk_1 (i := 238) (by decide +kernel) rfl
theorem wm_349 : Cond.fieldLink "WeekBoats$Boats" 32 "WeekBoats$Boats" "logs" "[I" ∈ lw_gd := wk_1 (i := 239) (by decide +kernel) rfl
theorem wm_350 : Cond.fieldLink "WeekBoats$Boats" 35 "WeekBoats$Boats" "tonightAt" "[I" ∈ lw_gd := wk_2 (i := 0) (by decide +kernel) rfl
theorem wm_351 : Cond.fieldLink "WeekBoats" 240 "WeekBoats$Boats" "tonightAt" "[I" ∈ lw_gd := wk_2 (i := 1) (by decide +kernel) rfl
theorem wm_379 : Cond.methodLink "WeekBoats" 55 ⟨"WeekBoats$Trips", "<init>", "(LWeekBoats$Boats;LWeekBoats$Rules;LWeekBoats$Voyage;)V"⟩ ∈ lw_gd := wk_2 (i := 29) (by decide +kernel) rfl
theorem wm_380 : Cond.instanceMethod ⟨"WeekBoats$Trips", "<init>", "(LWeekBoats$Boats;LWeekBoats$Rules;LWeekBoats$Voyage;)V"⟩ ∈ lw_gd := wk_2 (i := 30) (by decide +kernel) rfl
set_option maxRecDepth 100000 in
theorem wm_381 : Cond.code ⟨"WeekBoats$Trips", "<init>", "(LWeekBoats$Boats;LWeekBoats$Rules;LWeekBoats$Voyage;)V"⟩ prog_9_method_1_code 4 none ∈ lw_gd := wk_2 (i := 31) rfl rfl
theorem wm_382 : Cond.methodLink "WeekBoats$Trips" 3 ⟨"java/lang/Object", "<init>", "()V"⟩ ∈ lw_gd := wk_2 (i := 32) (by decide +kernel) rfl
theorem wm_383 : Cond.fieldLink "WeekBoats$Trips" 27 "WeekBoats$Trips" "boats" "LWeekBoats$Boats;" ∈ lw_gd := wk_2 (i := 33) (by decide +kernel) rfl
theorem wm_384 : Cond.fieldLink "WeekBoats$Trips" 31 "WeekBoats$Trips" "rules" "LWeekBoats$Rules;" ∈ lw_gd := wk_2 (i := 34) (by decide +kernel) rfl
theorem wm_385 : Cond.fieldLink "WeekBoats$Trips" 35 "WeekBoats$Trips" "voyage" "LWeekBoats$Voyage;" ∈ lw_gd := wk_2 (i := 35) (by decide +kernel) rfl
theorem wm_386 : Cond.fieldLink "WeekBoats$Trips" 9 "WeekBoats$Trips" "boat" "[I" ∈ lw_gd := wk_2 (i := 36) (by decide +kernel) rfl
theorem wm_387 : Cond.fieldLink "WeekBoats$Trips" 15 "WeekBoats$Trips" "from" "[I" ∈ lw_gd := wk_2 (i := 37) (by decide +kernel) rfl
theorem wm_388 : Cond.fieldLink "WeekBoats$Trips" 18 "WeekBoats$Trips" "to" "[I" ∈ lw_gd := wk_2 (i := 38) (by decide +kernel) rfl
theorem wm_389 : Cond.fieldLink "WeekBoats$Trips" 21 "WeekBoats$Trips" "time" "[I" ∈ lw_gd := wk_2 (i := 39) (by decide +kernel) rfl
theorem wm_390 : Cond.fieldLink "WeekBoats$Trips" 24 "WeekBoats$Trips" "due" "[I" ∈ lw_gd := wk_2 (i := 40) (by decide +kernel) rfl
theorem wm_391 : Cond.fieldLink "WeekBoats$Trips" 39 "WeekBoats$Trips" "count" "I" ∈ lw_gd := wk_2 (i := 41) (by decide +kernel) rfl
theorem wm_392 : Cond.fieldLink "WeekBoats" 197 "WeekBoats$Trips" "count" "I" ∈ lw_gd := wk_2 (i := 42) (by decide +kernel) rfl
theorem wm_415 : Cond.instanceMethod ⟨"WeekBoats$LockQueue", "<init>", "()V"⟩ ∈ lw_gd := wk_2 (i := 65) (by decide +kernel) rfl
set_option maxRecDepth 100000 in
theorem wm_416 : Cond.code ⟨"WeekBoats$LockQueue", "<init>", "()V"⟩ prog_5_method_1_code 1 none ∈ lw_gd := wk_2 (i := 66) rfl rfl
theorem wm_417 : Cond.methodLink "WeekBoats$LockQueue" 3 ⟨"java/lang/Object", "<init>", "()V"⟩ ∈ lw_gd := wk_2 (i := 67) (by decide +kernel) rfl
theorem wm_418 : Cond.fieldLink "WeekBoats$LockQueue" 9 "WeekBoats$LockQueue" "minute" "[I" ∈ lw_gd := wk_2 (i := 68) (by decide +kernel) rfl
theorem wm_419 : Cond.fieldLink "WeekBoats$LockQueue" 15 "WeekBoats$LockQueue" "way" "[I" ∈ lw_gd := wk_2 (i := 69) (by decide +kernel) rfl
theorem wm_420 : Cond.fieldLink "WeekBoats$LockQueue" 24 "WeekBoats$LockQueue" "count" "I" ∈ lw_gd := wk_2 (i := 70) (by decide +kernel) rfl
theorem wm_421 : Cond.fieldLink "WeekBoats" 408 "WeekBoats$LockQueue" "count" "I" ∈ lw_gd := wk_2 (i := 71) (by decide +kernel) rfl
theorem wm_422 : Cond.fieldLink "WeekBoats$LockQueue" 28 "WeekBoats$LockQueue" "waitAsCome" "I" ∈ lw_gd := wk_2 (i := 72) (by decide +kernel) rfl
theorem wm_423 : Cond.fieldLink "WeekBoats" 252 "WeekBoats$LockQueue" "waitAsCome" "I" ∈ lw_gd := wk_2 (i := 73) (by decide +kernel) rfl
theorem wm_424 : Cond.fieldLink "WeekBoats$LockQueue" 31 "WeekBoats$LockQueue" "bestWait" "I" ∈ lw_gd := wk_2 (i := 74) (by decide +kernel) rfl
theorem wm_425 : Cond.fieldLink "WeekBoats" 255 "WeekBoats$LockQueue" "bestWait" "I" ∈ lw_gd := wk_2 (i := 75) (by decide +kernel) rfl
theorem wm_426 : Cond.fieldLink "WeekBoats$LockQueue" 18 "WeekBoats$LockQueue" "order" "[I" ∈ lw_gd := wk_2 (i := 76) (by decide +kernel) rfl
theorem wm_427 : Cond.fieldLink "WeekBoats$LockQueue" 21 "WeekBoats$LockQueue" "best" "[I" ∈ lw_gd := wk_2 (i := 77) (by decide +kernel) rfl
theorem wm_446 : Cond.instanceMethod ⟨"WeekBoats$Bookings", "<init>", "()V"⟩ ∈ lw_gd := wk_2 (i := 96) (by decide +kernel) rfl
set_option maxRecDepth 100000 in
theorem wm_447 : Cond.code ⟨"WeekBoats$Bookings", "<init>", "()V"⟩ prog_3_method_1_code 1 none ∈ lw_gd := wk_2 (i := 97) rfl rfl
theorem wm_448 : Cond.methodLink "WeekBoats$Bookings" 3 ⟨"java/lang/Object", "<init>", "()V"⟩ ∈ lw_gd := wk_2 (i := 98) (by decide +kernel) rfl
theorem wm_449 : Cond.fieldLink "WeekBoats$Bookings" 9 "WeekBoats$Bookings" "from" "[I" ∈ lw_gd := wk_2 (i := 99) (by decide +kernel) rfl
theorem wm_450 : Cond.fieldLink "WeekBoats$Bookings" 15 "WeekBoats$Bookings" "to" "[I" ∈ lw_gd := wk_2 (i := 100) (by decide +kernel) rfl
theorem wm_451 : Cond.fieldLink "WeekBoats$Bookings" 18 "WeekBoats$Bookings" "week" "[I" ∈ lw_gd := wk_2 (i := 101) (by decide +kernel) rfl
theorem wm_452 : Cond.fieldLink "WeekBoats$Bookings" 21 "WeekBoats$Bookings" "berths" "[I" ∈ lw_gd := wk_2 (i := 102) (by decide +kernel) rfl
theorem wm_453 : Cond.fieldLink "WeekBoats$Bookings" 48 "WeekBoats$Bookings" "count" "I" ∈ lw_gd := wk_2 (i := 103) (by decide +kernel) rfl
theorem wm_454 : Cond.fieldLink "WeekBoats" 283 "WeekBoats$Bookings" "count" "I" ∈ lw_gd := wk_2 (i := 104) (by decide +kernel) rfl
theorem wm_455 : Cond.fieldLink "WeekBoats$Bookings" 24 "WeekBoats$Bookings" "inOrder" "[I" ∈ lw_gd := wk_2 (i := 105) (by decide +kernel) rfl
theorem wm_456 : Cond.fieldLink "WeekBoats$Bookings" 27 "WeekBoats$Bookings" "boatBerths" "[I" ∈ lw_gd := wk_2 (i := 106) (by decide +kernel) rfl
theorem wm_457 : Cond.fieldLink "WeekBoats$Bookings" 30 "WeekBoats$Bookings" "boatHome" "[I" ∈ lw_gd := wk_2 (i := 107) (by decide +kernel) rfl
theorem wm_458 : Cond.fieldLink "WeekBoats$Bookings" 33 "WeekBoats$Bookings" "boatAt" "[I" ∈ lw_gd := wk_2 (i := 108) (by decide +kernel) rfl
theorem wm_459 : Cond.fieldLink "WeekBoats$Bookings" 36 "WeekBoats$Bookings" "boatWeek" "[I" ∈ lw_gd := wk_2 (i := 109) (by decide +kernel) rfl
theorem wm_460 : Cond.fieldLink "WeekBoats$Bookings" 64 "WeekBoats$Bookings" "asked" "I" ∈ lw_gd := wk_2 (i := 110) (by decide +kernel) rfl
theorem wm_461 : Cond.fieldLink "WeekBoats$Bookings" 52 "WeekBoats$Bookings" "settled" "I" ∈ lw_gd := wk_2 (i := 111) (by decide +kernel) rfl
theorem wm_462 : Cond.fieldLink "WeekBoats$Bookings" 39 "WeekBoats$Bookings" "hope" "[I" ∈ lw_gd := wk_2 (i := 112) (by decide +kernel) rfl
theorem wm_463 : Cond.fieldLink "WeekBoats$Bookings" 42 "WeekBoats$Bookings" "boatOf" "[I" ∈ lw_gd := wk_2 (i := 113) (by decide +kernel) rfl
theorem wm_464 : Cond.fieldLink "WeekBoats$Bookings" 45 "WeekBoats$Bookings" "bestBoat" "[I" ∈ lw_gd := wk_2 (i := 114) (by decide +kernel) rfl
theorem wm_465 : Cond.fieldLink "WeekBoats" 284 "WeekBoats$Bookings" "bestBoat" "[I" ∈ lw_gd := wk_2 (i := 115) (by decide +kernel) rfl
theorem wm_466 : Cond.fieldLink "WeekBoats$Bookings" 67 "WeekBoats$Bookings" "bestServed" "I" ∈ lw_gd := wk_2 (i := 116) (by decide +kernel) rfl
theorem wm_467 : Cond.fieldLink "WeekBoats" 277 "WeekBoats$Bookings" "bestServed" "I" ∈ lw_gd := wk_2 (i := 117) (by decide +kernel) rfl
theorem wm_468 : Cond.fieldLink "WeekBoats$Bookings" 70 "WeekBoats$Bookings" "bestHome" "I" ∈ lw_gd := wk_2 (i := 118) (by decide +kernel) rfl
theorem wm_469 : Cond.fieldLink "WeekBoats" 280 "WeekBoats$Bookings" "bestHome" "I" ∈ lw_gd := wk_2 (i := 119) (by decide +kernel) rfl
theorem wm_508 : Cond.instanceMethod ⟨"WeekBoats$Yard", "<init>", "()V"⟩ ∈ lw_gd := wk_2 (i := 158) (by decide +kernel) rfl
set_option maxRecDepth 100000 in
theorem wm_509 : Cond.code ⟨"WeekBoats$Yard", "<init>", "()V"⟩ prog_12_method_1_code 1 none ∈ lw_gd := wk_2 (i := 159) rfl rfl
theorem wm_510 : Cond.methodLink "WeekBoats$Yard" 3 ⟨"java/lang/Object", "<init>", "()V"⟩ ∈ lw_gd := wk_2 (i := 160) (by decide +kernel) rfl
theorem wm_511 : Cond.fieldLink "WeekBoats$Yard" 9 "WeekBoats$Yard" "date" "[I" ∈ lw_gd := wk_2 (i := 161) (by decide +kernel) rfl
theorem wm_512 : Cond.fieldLink "WeekBoats$Yard" 15 "WeekBoats$Yard" "days" "[I" ∈ lw_gd := wk_2 (i := 162) (by decide +kernel) rfl
theorem wm_513 : Cond.fieldLink "WeekBoats$Yard" 46 "WeekBoats$Yard" "docked" "I" ∈ lw_gd := wk_2 (i := 163) (by decide +kernel) rfl
theorem wm_514 : Cond.fieldLink "WeekBoats" 308 "WeekBoats$Yard" "docked" "I" ∈ lw_gd := wk_2 (i := 164) (by decide +kernel) rfl
theorem wm_515 : Cond.fieldLink "WeekBoats$Yard" 18 "WeekBoats$Yard" "dockBoat" "[I" ∈ lw_gd := wk_2 (i := 165) (by decide +kernel) rfl
theorem wm_516 : Cond.fieldLink "WeekBoats$Yard" 21 "WeekBoats$Yard" "dockLate" "[I" ∈ lw_gd := wk_2 (i := 166) (by decide +kernel) rfl
theorem wm_517 : Cond.fieldLink "WeekBoats" 302 "WeekBoats$Yard" "dockLate" "[I" ∈ lw_gd := wk_2 (i := 167) (by decide +kernel) rfl
theorem wm_518 : Cond.fieldLink "WeekBoats$Yard" 24 "WeekBoats$Yard" "dockSum" "[I" ∈ lw_gd := wk_2 (i := 168) (by decide +kernel) rfl
theorem wm_519 : Cond.fieldLink "WeekBoats" 305 "WeekBoats$Yard" "dockSum" "[I" ∈ lw_gd := wk_2 (i := 169) (by decide +kernel) rfl
theorem wm_520 : Cond.fieldLink "WeekBoats$Yard" 27 "WeekBoats$Yard" "dockNext" "[I" ∈ lw_gd := wk_2 (i := 170) (by decide +kernel) rfl
theorem wm_521 : Cond.fieldLink "WeekBoats$Yard" 61 "WeekBoats$Yard" "jobs" "I" ∈ lw_gd := wk_2 (i := 171) (by decide +kernel) rfl
theorem wm_522 : Cond.fieldLink "WeekBoats" 314 "WeekBoats$Yard" "jobs" "I" ∈ lw_gd := wk_2 (i := 172) (by decide +kernel) rfl
theorem wm_523 : Cond.fieldLink "WeekBoats$Yard" 30 "WeekBoats$Yard" "minutes" "[I" ∈ lw_gd := wk_2 (i := 173) (by decide +kernel) rfl
theorem wm_524 : Cond.fieldLink "WeekBoats$Yard" 33 "WeekBoats$Yard" "handEnd" "[I" ∈ lw_gd := wk_2 (i := 174) (by decide +kernel) rfl
theorem wm_525 : Cond.fieldLink "WeekBoats$Yard" 36 "WeekBoats$Yard" "hand" "[I" ∈ lw_gd := wk_2 (i := 175) (by decide +kernel) rfl
theorem wm_526 : Cond.fieldLink "WeekBoats$Yard" 39 "WeekBoats$Yard" "bestHand" "[I" ∈ lw_gd := wk_2 (i := 176) (by decide +kernel) rfl
theorem wm_527 : Cond.fieldLink "WeekBoats" 335 "WeekBoats$Yard" "bestHand" "[I" ∈ lw_gd := wk_2 (i := 177) (by decide +kernel) rfl
theorem wm_528 : Cond.fieldLink "WeekBoats$Yard" 82 "WeekBoats$Yard" "bestEnd" "I" ∈ lw_gd := wk_2 (i := 178) (by decide +kernel) rfl
theorem wm_529 : Cond.fieldLink "WeekBoats" 332 "WeekBoats$Yard" "bestEnd" "I" ∈ lw_gd := wk_2 (i := 179) (by decide +kernel) rfl
theorem wm_530 : Cond.fieldLink "WeekBoats$Yard" 70 "WeekBoats$Yard" "workedEnd" "I" ∈ lw_gd := wk_2 (i := 180) (by decide +kernel) rfl
theorem wm_531 : Cond.fieldLink "WeekBoats" 323 "WeekBoats$Yard" "workedEnd" "I" ∈ lw_gd := wk_2 (i := 181) (by decide +kernel) rfl
theorem wm_532 : Cond.fieldLink "WeekBoats$Yard" 73 "WeekBoats$Yard" "over" "I" ∈ lw_gd := wk_2 (i := 182) (by decide +kernel) rfl
theorem wm_533 : Cond.fieldLink "WeekBoats" 326 "WeekBoats$Yard" "over" "I" ∈ lw_gd := wk_2 (i := 183) (by decide +kernel) rfl
theorem wm_567 : Cond.methodLink "WeekBoats" 85 ⟨"WeekBoats$Vans", "<init>", "(LWeekBoats$Canal;)V"⟩ ∈ lw_gd := wk_2 (i := 217) (by decide +kernel) rfl
theorem wm_568 : Cond.instanceMethod ⟨"WeekBoats$Vans", "<init>", "(LWeekBoats$Canal;)V"⟩ ∈ lw_gd := wk_2 (i := 218) (by decide +kernel) rfl
set_option maxRecDepth 100000 in
theorem wm_569 : Cond.code ⟨"WeekBoats$Vans", "<init>", "(LWeekBoats$Canal;)V"⟩ prog_10_method_1_code 2 none ∈ lw_gd := wk_2 (i := 219) rfl rfl
theorem wm_570 : Cond.methodLink "WeekBoats$Vans" 3 ⟨"java/lang/Object", "<init>", "()V"⟩ ∈ lw_gd := wk_2 (i := 220) (by decide +kernel) rfl
theorem wm_571 : Cond.fieldLink "WeekBoats$Vans" 36 "WeekBoats$Vans" "canal" "LWeekBoats$Canal;" ∈ lw_gd := wk_2 (i := 221) (by decide +kernel) rfl
theorem wm_572 : Cond.fieldLink "WeekBoats$Vans" 9 "WeekBoats$Vans" "weight" "[I" ∈ lw_gd := wk_2 (i := 222) (by decide +kernel) rfl
theorem wm_573 : Cond.fieldLink "WeekBoats" 338 "WeekBoats$Vans" "weight" "[I" ∈ lw_gd := wk_2 (i := 223) (by decide +kernel) rfl
theorem wm_574 : Cond.fieldLink "WeekBoats$Vans" 15 "WeekBoats$Vans" "along" "[I" ∈ lw_gd := wk_2 (i := 224) (by decide +kernel) rfl
theorem wm_575 : Cond.fieldLink "WeekBoats$Vans" 64 "WeekBoats$Vans" "couple" "I" ∈ lw_gd := wk_2 (i := 225) (by decide +kernel) rfl
theorem wm_576 : Cond.fieldLink "WeekBoats" 356 "WeekBoats$Vans" "couple" "I" ∈ lw_gd := wk_2 (i := 226) (by decide +kernel) rfl
theorem wm_577 : Cond.fieldLink "WeekBoats$Vans" 68 "WeekBoats$Vans" "coupleSum" "I" ∈ lw_gd := wk_2 (i := 227) (by decide +kernel) rfl
theorem wm_578 : Cond.fieldLink "WeekBoats" 359 "WeekBoats$Vans" "coupleSum" "I" ∈ lw_gd := wk_2 (i := 228) (by decide +kernel) rfl
theorem wm_579 : Cond.fieldLink "WeekBoats$Vans" 71 "WeekBoats$Vans" "calls" "I" ∈ lw_gd := wk_2 (i := 229) (by decide +kernel) rfl
theorem wm_580 : Cond.fieldLink "WeekBoats" 362 "WeekBoats$Vans" "calls" "I" ∈ lw_gd := wk_2 (i := 230) (by decide +kernel) rfl
theorem wm_581 : Cond.fieldLink "WeekBoats$Vans" 18 "WeekBoats$Vans" "callMinute" "[I" ∈ lw_gd := wk_2 (i := 231) (by decide +kernel) rfl
theorem wm_582 : Cond.fieldLink "WeekBoats$Vans" 21 "WeekBoats$Vans" "callPoint" "[I" ∈ lw_gd := wk_2 (i := 232) (by decide +kernel) rfl
theorem wm_583 : Cond.fieldLink "WeekBoats$Vans" 24 "WeekBoats$Vans" "callWork" "[I" ∈ lw_gd := wk_2 (i := 233) (by decide +kernel) rfl
theorem wm_584 : Cond.fieldLink "WeekBoats$Vans" 27 "WeekBoats$Vans" "taker" "[I" ∈ lw_gd := wk_2 (i := 234) (by decide +kernel) rfl
theorem wm_585 : Cond.fieldLink "WeekBoats$Vans" 30 "WeekBoats$Vans" "vanAt" "[I" ∈ lw_gd := wk_2 (i := 235) (by decide +kernel) rfl
theorem wm_586 : Cond.fieldLink "WeekBoats$Vans" 33 "WeekBoats$Vans" "vanFree" "[I" ∈ lw_gd := wk_2 (i := 236) (by decide +kernel) rfl
theorem wm_587 : Cond.fieldLink "WeekBoats$Vans" 80 "WeekBoats$Vans" "waitSum" "I" ∈ lw_gd := wk_2 (i := 237) (by decide +kernel) rfl
theorem wm_588 : Cond.fieldLink "WeekBoats" 372 "WeekBoats$Vans" "waitSum" "I" ∈ lw_gd := wk_2 (i := 238) (by decide +kernel) rfl
theorem wm_589 : Cond.fieldLink "WeekBoats$Vans" 83 "WeekBoats$Vans" "waitLongest" "I" ∈ lw_gd := wk_2 (i := 239) (by decide +kernel) rfl
theorem wm_590 : Cond.fieldLink "WeekBoats" 375 "WeekBoats$Vans" "waitLongest" "I" ∈ lw_gd := wk_3 (i := 0) (by decide +kernel) rfl
theorem wm_591 : Cond.fieldLink "WeekBoats$Vans" 86 "WeekBoats$Vans" "lastDone" "I" ∈ lw_gd := wk_3 (i := 1) (by decide +kernel) rfl
theorem wm_592 : Cond.fieldLink "WeekBoats" 378 "WeekBoats$Vans" "lastDone" "I" ∈ lw_gd := wk_3 (i := 2) (by decide +kernel) rfl
theorem wm_627 : Cond.instanceMethod ⟨"WeekBoats$Rain", "<init>", "()V"⟩ ∈ lw_gd := wk_3 (i := 37) (by decide +kernel) rfl
set_option maxRecDepth 100000 in
theorem wm_628 : Cond.code ⟨"WeekBoats$Rain", "<init>", "()V"⟩ prog_7_method_1_code 1 none ∈ lw_gd := wk_3 (i := 38) rfl rfl
theorem wm_629 : Cond.methodLink "WeekBoats$Rain" 3 ⟨"java/lang/Object", "<init>", "()V"⟩ ∈ lw_gd := wk_3 (i := 39) (by decide +kernel) rfl
theorem wm_630 : Cond.fieldLink "WeekBoats$Rain" 9 "WeekBoats$Rain" "now" "[I" ∈ lw_gd := wk_3 (i := 40) (by decide +kernel) rfl
theorem wm_631 : Cond.fieldLink "WeekBoats$Rain" 15 "WeekBoats$Rain" "then" "[I" ∈ lw_gd := wk_3 (i := 41) (by decide +kernel) rfl
theorem wm_632 : Cond.fieldLink "WeekBoats$Rain" 25 "WeekBoats$Rain" "kept" "I" ∈ lw_gd := wk_3 (i := 42) (by decide +kernel) rfl
theorem wm_633 : Cond.fieldLink "WeekBoats" 394 "WeekBoats$Rain" "kept" "I" ∈ lw_gd := wk_3 (i := 43) (by decide +kernel) rfl
theorem wm_641 : Cond.fieldLink "WeekBoats" 12 "WeekBoats" "canal" "LWeekBoats$Canal;" ∈ lw_gd := wk_3 (i := 51) (by decide +kernel) rfl
theorem wm_642 : Cond.fieldLink "WeekBoats" 19 "WeekBoats" "ruling" "LWeekBoats$Rules;" ∈ lw_gd := wk_3 (i := 52) (by decide +kernel) rfl
theorem wm_643 : Cond.fieldLink "WeekBoats" 23 "WeekBoats" "draft" "LWeekBoats$Rules;" ∈ lw_gd := wk_3 (i := 53) (by decide +kernel) rfl
theorem wm_644 : Cond.fieldLink "WeekBoats" 31 "WeekBoats" "parser" "LWeekBoats$Parser;" ∈ lw_gd := wk_3 (i := 54) (by decide +kernel) rfl
theorem wm_645 : Cond.fieldLink "WeekBoats" 40 "WeekBoats" "voyage" "LWeekBoats$Voyage;" ∈ lw_gd := wk_3 (i := 55) (by decide +kernel) rfl
theorem wm_646 : Cond.fieldLink "WeekBoats" 49 "WeekBoats" "boats" "LWeekBoats$Boats;" ∈ lw_gd := wk_3 (i := 56) (by decide +kernel) rfl
theorem wm_647 : Cond.fieldLink "WeekBoats" 58 "WeekBoats" "trips" "LWeekBoats$Trips;" ∈ lw_gd := wk_3 (i := 57) (by decide +kernel) rfl
theorem wm_648 : Cond.fieldLink "WeekBoats" 65 "WeekBoats" "waiting" "LWeekBoats$LockQueue;" ∈ lw_gd := wk_3 (i := 58) (by decide +kernel) rfl
theorem wm_649 : Cond.fieldLink "WeekBoats" 72 "WeekBoats" "bookings" "LWeekBoats$Bookings;" ∈ lw_gd := wk_3 (i := 59) (by decide +kernel) rfl
theorem wm_650 : Cond.fieldLink "WeekBoats" 79 "WeekBoats" "yard" "LWeekBoats$Yard;" ∈ lw_gd := wk_3 (i := 60) (by decide +kernel) rfl
theorem wm_651 : Cond.fieldLink "WeekBoats" 88 "WeekBoats" "roads" "LWeekBoats$Vans;" ∈ lw_gd := wk_3 (i := 61) (by decide +kernel) rfl
theorem wm_652 : Cond.fieldLink "WeekBoats" 95 "WeekBoats" "rains" "LWeekBoats$Rain;" ∈ lw_gd := wk_3 (i := 62) (by decide +kernel) rfl
theorem wm_678 : Cond.methodLink "WeekBoatsLaw" 13 ⟨"WeekBoats", "stretch", "(IIII)Z"⟩ ∈ lw_gd := wk_3 (i := 88) (by decide +kernel) rfl
theorem wm_679 : Cond.instanceMethod ⟨"WeekBoats", "stretch", "(IIII)Z"⟩ ∈ lw_gd := wk_3 (i := 89) (by decide +kernel) rfl
theorem wm_680 : Cond.selects "WeekBoats" ⟨"WeekBoats", "stretch", "(IIII)Z"⟩ ⟨"WeekBoats", "stretch", "(IIII)Z"⟩ ∈ lw_gd := wk_3 (i := 90) (by decide +kernel) rfl
set_option maxRecDepth 100000 in
theorem wm_681 : Cond.code ⟨"WeekBoats", "stretch", "(IIII)Z"⟩ prog_1_method_9_code 5 (some .boolean) ∈ lw_gd := wk_3 (i := 91) rfl rfl
theorem wm_682 : Cond.methodLink "WeekBoats" 99 ⟨"WeekBoats", "within", "(III)Z"⟩ ∈ lw_gd := wk_3 (i := 92) (by decide +kernel) rfl
theorem wm_683 : Cond.static ⟨"WeekBoats", "within", "(III)Z"⟩ ∈ lw_gd := wk_3 (i := 93) (by decide +kernel) rfl
set_option maxRecDepth 100000 in
theorem wm_684 : Cond.code ⟨"WeekBoats", "within", "(III)Z"⟩ prog_1_method_2_code 3 (some .boolean) ∈ lw_gd := wk_3 (i := 94) rfl rfl
theorem wm_685 : Cond.methodLink "WeekBoatsLaw" 18 ⟨"WeekBoats", "water", "(I)Z"⟩ ∈ lw_gd := wk_3 (i := 95) (by decide +kernel) rfl
theorem wm_686 : Cond.instanceMethod ⟨"WeekBoats", "water", "(I)Z"⟩ ∈ lw_gd := wk_3 (i := 96) (by decide +kernel) rfl
theorem wm_687 : Cond.selects "WeekBoats" ⟨"WeekBoats", "water", "(I)Z"⟩ ⟨"WeekBoats", "water", "(I)Z"⟩ ∈ lw_gd := wk_3 (i := 97) (by decide +kernel) rfl
set_option maxRecDepth 100000 in
theorem wm_688 : Cond.code ⟨"WeekBoats", "water", "(I)Z"⟩ prog_1_method_10_code 2 (some .boolean) ∈ lw_gd := wk_3 (i := 98) rfl rfl
theorem wm_689 : Cond.methodLink "WeekBoats" 130 ⟨"WeekBoats$Voyage", "learnHours", "()V"⟩ ∈ lw_gd := wk_3 (i := 99) (by decide +kernel) rfl
theorem wm_690 : Cond.instanceMethod ⟨"WeekBoats$Voyage", "learnHours", "()V"⟩ ∈ lw_gd := wk_3 (i := 100) (by decide +kernel) rfl
theorem wm_691 : Cond.selects "WeekBoats$Voyage" ⟨"WeekBoats$Voyage", "learnHours", "()V"⟩ ⟨"WeekBoats$Voyage", "learnHours", "()V"⟩ ∈ lw_gd := wk_3 (i := 101) (by decide +kernel) rfl
set_option maxRecDepth 100000 in
theorem wm_692 : Cond.code ⟨"WeekBoats$Voyage", "learnHours", "()V"⟩ prog_11_method_2_code 3 none ∈ lw_gd := wk_3 (i := 102) rfl rfl
theorem wm_693 : Cond.methodLink "WeekBoats$Voyage" 44 ⟨"WeekBoats$Rules", "askDay", "(II)V"⟩ ∈ lw_gd := wk_3 (i := 103) (by decide +kernel) rfl
theorem wm_694 : Cond.instanceMethod ⟨"WeekBoats$Rules", "askDay", "(II)V"⟩ ∈ lw_gd := wk_3 (i := 104) (by decide +kernel) rfl
theorem wm_695 : Cond.selects "WeekBoats$Rules" ⟨"WeekBoats$Rules", "askDay", "(II)V"⟩ ⟨"WeekBoats$Rules", "askDay", "(II)V"⟩ ∈ lw_gd := wk_3 (i := 105) (by decide +kernel) rfl
set_option maxRecDepth 100000 in
theorem wm_696 : Cond.code ⟨"WeekBoats$Rules", "askDay", "(II)V"⟩ prog_8_method_7_code 3 none ∈ lw_gd := wk_3 (i := 106) rfl rfl
theorem wm_697 : Cond.methodLink "WeekBoats$Rules" 58 ⟨"java/util/Arrays", "fill", "([II)V"⟩ ∈ lw_gd := wk_3 (i := 107) (by decide +kernel) rfl
theorem wm_698 : Cond.methodLink "WeekBoats$Voyage" 50 ⟨"WeekBoats$Rules", "serving", "(I)I"⟩ ∈ lw_gd := wk_3 (i := 108) (by decide +kernel) rfl
theorem wm_699 : Cond.instanceMethod ⟨"WeekBoats$Rules", "serving", "(I)I"⟩ ∈ lw_gd := wk_3 (i := 109) (by decide +kernel) rfl
theorem wm_700 : Cond.selects "WeekBoats$Rules" ⟨"WeekBoats$Rules", "serving", "(I)I"⟩ ⟨"WeekBoats$Rules", "serving", "(I)I"⟩ ∈ lw_gd := wk_3 (i := 110) (by decide +kernel) rfl
