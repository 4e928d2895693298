theorem wmP {i : Nat} {w : Cond} (h : lw_tbl[i]? = some w) (hg : goodWord w = true) : w ∈ lw_gd := gd (List.mem_of_getElem? h) hg
theorem wm_0 : Cond.selects "WeekBoats$Rules" ⟨"WeekBoats$Rules", "run", "(II)I"⟩ ⟨"WeekBoats$Rules", "run", "(II)I"⟩ ∈ lw_gd := wmP (i := 0) (by decide +kernel) rfl
theorem wm_1 : Cond.selects "WeekBoats$Rules" ⟨"WeekBoats$Rules", "askedOf", "(I)I"⟩ ⟨"WeekBoats$Rules", "askedOf", "(I)I"⟩ ∈ lw_gd := wmP (i := 1) (by decide +kernel) rfl
theorem wm_2 : Cond.selects "WeekBoats$Parser" ⟨"WeekBoats$Parser", "scan", "()V"⟩ ⟨"WeekBoats$Parser", "scan", "()V"⟩ ∈ lw_gd := wmP (i := 2) (by decide +kernel) rfl
theorem wm_3 : Cond.selects "WeekBoats$Parser" ⟨"WeekBoats$Parser", "endOfWord", "(I)I"⟩ ⟨"WeekBoats$Parser", "endOfWord", "(I)I"⟩ ∈ lw_gd := wmP (i := 3) (by decide +kernel) rfl
theorem wm_4 : Cond.selects "WeekBoats$Parser" ⟨"WeekBoats$Parser", "wordOf", "(II)I"⟩ ⟨"WeekBoats$Parser", "wordOf", "(II)I"⟩ ∈ lw_gd := wmP (i := 4) (by decide +kernel) rfl
theorem wm_5 : Cond.selects "WeekBoats$Parser" ⟨"WeekBoats$Parser", "isSame", "(III)Z"⟩ ⟨"WeekBoats$Parser", "isSame", "(III)Z"⟩ ∈ lw_gd := wmP (i := 5) (by decide +kernel) rfl
theorem wm_6 : Cond.selects "WeekBoats$Parser" ⟨"WeekBoats$Parser", "add", "(II)V"⟩ ⟨"WeekBoats$Parser", "add", "(II)V"⟩ ∈ lw_gd := wmP (i := 6) (by decide +kernel) rfl
theorem wm_7 : Cond.selects "WeekBoats$Parser" ⟨"WeekBoats$Parser", "endOfDigits", "(I)I"⟩ ⟨"WeekBoats$Parser", "endOfDigits", "(I)I"⟩ ∈ lw_gd := wmP (i := 7) (by decide +kernel) rfl
theorem wm_8 : Cond.selects "WeekBoats$Parser" ⟨"WeekBoats$Parser", "numberOf", "(II)I"⟩ ⟨"WeekBoats$Parser", "numberOf", "(II)I"⟩ ∈ lw_gd := wmP (i := 8) (by decide +kernel) rfl
theorem wm_9 : Cond.selects "WeekBoats$Parser" ⟨"WeekBoats$Parser", "readLine", "()V"⟩ ⟨"WeekBoats$Parser", "readLine", "()V"⟩ ∈ lw_gd := wmP (i := 9) (by decide +kernel) rfl
theorem wm_10 : Cond.selects "WeekBoats$Parser" ⟨"WeekBoats$Parser", "fail", "(I)V"⟩ ⟨"WeekBoats$Parser", "fail", "(I)V"⟩ ∈ lw_gd := wmP (i := 10) (by decide +kernel) rfl
theorem wm_11 : Cond.selects "WeekBoats$Parser" ⟨"WeekBoats$Parser", "goOn", "()V"⟩ ⟨"WeekBoats$Parser", "goOn", "()V"⟩ ∈ lw_gd := wmP (i := 11) (by decide +kernel) rfl
theorem wm_12 : Cond.selects "WeekBoats$Parser" ⟨"WeekBoats$Parser", "readTunnel", "()V"⟩ ⟨"WeekBoats$Parser", "readTunnel", "()V"⟩ ∈ lw_gd := wmP (i := 12) (by decide +kernel) rfl
theorem wm_13 : Cond.selects "WeekBoats$Parser" ⟨"WeekBoats$Parser", "numberUpTo", "(I)I"⟩ ⟨"WeekBoats$Parser", "numberUpTo", "(I)I"⟩ ∈ lw_gd := wmP (i := 13) (by decide +kernel) rfl
theorem wm_14 : Cond.selects "WeekBoats$Parser" ⟨"WeekBoats$Parser", "is", "(I)Z"⟩ ⟨"WeekBoats$Parser", "is", "(I)Z"⟩ ∈ lw_gd := wmP (i := 14) (by decide +kernel) rfl
theorem wm_15 : Cond.selects "WeekBoats$Parser" ⟨"WeekBoats$Parser", "readSum", "()V"⟩ ⟨"WeekBoats$Parser", "readSum", "()V"⟩ ∈ lw_gd := wmP (i := 15) (by decide +kernel) rfl
theorem wm_16 : Cond.selects "WeekBoats$Parser" ⟨"WeekBoats$Parser", "readProduct", "()V"⟩ ⟨"WeekBoats$Parser", "readProduct", "()V"⟩ ∈ lw_gd := wmP (i := 16) (by decide +kernel) rfl
theorem wm_17 : Cond.selects "WeekBoats$Parser" ⟨"WeekBoats$Parser", "readUnit", "()V"⟩ ⟨"WeekBoats$Parser", "readUnit", "()V"⟩ ∈ lw_gd := wmP (i := 17) (by decide +kernel) rfl
theorem wm_18 : Cond.selects "WeekBoats$Parser" ⟨"WeekBoats$Parser", "readPart", "()V"⟩ ⟨"WeekBoats$Parser", "readPart", "()V"⟩ ∈ lw_gd := wmP (i := 18) (by decide +kernel) rfl
theorem wm_19 : Cond.selects "WeekBoats$Parser" ⟨"WeekBoats$Parser", "readEither", "(I)V"⟩ ⟨"WeekBoats$Parser", "readEither", "(I)V"⟩ ∈ lw_gd := wmP (i := 19) (by decide +kernel) rfl
theorem wm_20 : Cond.selects "WeekBoats$Parser" ⟨"WeekBoats$Parser", "readAll", "(I)V"⟩ ⟨"WeekBoats$Parser", "readAll", "(I)V"⟩ ∈ lw_gd := wmP (i := 20) (by decide +kernel) rfl
theorem wm_21 : Cond.selects "WeekBoats$Parser" ⟨"WeekBoats$Parser", "readOne", "(I)V"⟩ ⟨"WeekBoats$Parser", "readOne", "(I)V"⟩ ∈ lw_gd := wmP (i := 21) (by decide +kernel) rfl
theorem wm_22 : Cond.selects "WeekBoats$Parser" ⟨"WeekBoats$Parser", "openOneMore", "(I)V"⟩ ⟨"WeekBoats$Parser", "openOneMore", "(I)V"⟩ ∈ lw_gd := wmP (i := 22) (by decide +kernel) rfl
theorem wm_23 : Cond.selects "WeekBoats$Parser" ⟨"WeekBoats$Parser", "demand", "(I)V"⟩ ⟨"WeekBoats$Parser", "demand", "(I)V"⟩ ∈ lw_gd := wmP (i := 23) (by decide +kernel) rfl
theorem wm_24 : Cond.selects "WeekBoats$Parser" ⟨"WeekBoats$Parser", "demandComparing", "()V"⟩ ⟨"WeekBoats$Parser", "demandComparing", "()V"⟩ ∈ lw_gd := wmP (i := 24) (by decide +kernel) rfl
theorem wm_25 : Cond.selects "WeekBoats" ⟨"WeekBoats", "isWay", "(IIII)Z"⟩ ⟨"WeekBoats", "isWay", "(IIII)Z"⟩ ∈ lw_gd := wmP (i := 25) (by decide +kernel) rfl
theorem wm_26 : Cond.selects "WeekBoats" ⟨"WeekBoats", "isBoat", "(I)Z"⟩ ⟨"WeekBoats", "isBoat", "(I)Z"⟩ ∈ lw_gd := wmP (i := 26) (by decide +kernel) rfl
theorem wm_27 : Cond.selects "WeekBoats$Voyage" ⟨"WeekBoats$Voyage", "setOut", "(IZ)V"⟩ ⟨"WeekBoats$Voyage", "setOut", "(IZ)V"⟩ ∈ lw_gd := wmP (i := 27) (by decide +kernel) rfl
theorem wm_28 : Cond.selects "WeekBoats$Voyage" ⟨"WeekBoats$Voyage", "pass", "(IZI)I"⟩ ⟨"WeekBoats$Voyage", "pass", "(IZI)I"⟩ ∈ lw_gd := wmP (i := 28) (by decide +kernel) rfl
theorem wm_29 : Cond.selects "WeekBoats$Voyage" ⟨"WeekBoats$Voyage", "step", "(IIII)I"⟩ ⟨"WeekBoats$Voyage", "step", "(IIII)I"⟩ ∈ lw_gd := wmP (i := 29) (by decide +kernel) rfl
theorem wm_30 : Cond.selects "WeekBoats$Voyage" ⟨"WeekBoats$Voyage", "begins", "(III)I"⟩ ⟨"WeekBoats$Voyage", "begins", "(III)I"⟩ ∈ lw_gd := wmP (i := 30) (by decide +kernel) rfl
theorem wm_31 : Cond.selects "WeekBoats$Voyage" ⟨"WeekBoats$Voyage", "firstHour", "(III)I"⟩ ⟨"WeekBoats$Voyage", "firstHour", "(III)I"⟩ ∈ lw_gd := wmP (i := 31) (by decide +kernel) rfl
theorem wm_32 : Cond.selects "WeekBoats$Voyage" ⟨"WeekBoats$Voyage", "hourBehind", "(III)I"⟩ ⟨"WeekBoats$Voyage", "hourBehind", "(III)I"⟩ ∈ lw_gd := wmP (i := 32) (by decide +kernel) rfl
theorem wm_33 : Cond.selects "WeekBoats$Voyage" ⟨"WeekBoats$Voyage", "isStopped", "(II)Z"⟩ ⟨"WeekBoats$Voyage", "isStopped", "(II)Z"⟩ ∈ lw_gd := wmP (i := 33) (by decide +kernel) rfl
theorem wm_34 : Cond.selects "WeekBoats$Boats" ⟨"WeekBoats$Boats", "harmOfLock", "(II)I"⟩ ⟨"WeekBoats$Boats", "harmOfLock", "(II)I"⟩ ∈ lw_gd := wmP (i := 34) (by decide +kernel) rfl
theorem wm_35 : Cond.selects "WeekBoats$Trips" ⟨"WeekBoats$Trips", "isBackInTime", "(II)Z"⟩ ⟨"WeekBoats$Trips", "isBackInTime", "(II)Z"⟩ ∈ lw_gd := wmP (i := 35) (by decide +kernel) rfl
theorem wm_36 : Cond.selects "WeekBoats$Boats" ⟨"WeekBoats$Boats", "canBetween", "(IIIII)Z"⟩ ⟨"WeekBoats$Boats", "canBetween", "(IIIII)Z"⟩ ∈ lw_gd := wmP (i := 36) (by decide +kernel) rfl
theorem wm_37 : Cond.selects "WeekBoats$Boats" ⟨"WeekBoats$Boats", "placeOf", "(II)I"⟩ ⟨"WeekBoats$Boats", "placeOf", "(II)I"⟩ ∈ lw_gd := wmP (i := 37) (by decide +kernel) rfl
theorem wm_38 : Cond.selects "WeekBoats$Boats" ⟨"WeekBoats$Boats", "timeOf", "(II)I"⟩ ⟨"WeekBoats$Boats", "timeOf", "(II)I"⟩ ∈ lw_gd := wmP (i := 38) (by decide +kernel) rfl
theorem wm_39 : Cond.selects "WeekBoats$Boats" ⟨"WeekBoats$Boats", "lastLog", "(II)I"⟩ ⟨"WeekBoats$Boats", "lastLog", "(II)I"⟩ ∈ lw_gd := wmP (i := 39) (by decide +kernel) rfl
theorem wm_40 : Cond.selects "WeekBoats$LockQueue" ⟨"WeekBoats$LockQueue", "findBest", "()V"⟩ ⟨"WeekBoats$LockQueue", "findBest", "()V"⟩ ∈ lw_gd := wmP (i := 40) (by decide +kernel) rfl
theorem wm_41 : Cond.selects "WeekBoats$LockQueue" ⟨"WeekBoats$LockQueue", "waitOf", "([I)I"⟩ ⟨"WeekBoats$LockQueue", "waitOf", "([I)I"⟩ ∈ lw_gd := wmP (i := 41) (by decide +kernel) rfl
theorem wm_42 : Cond.selects "WeekBoats$LockQueue" ⟨"WeekBoats$LockQueue", "minutesOf", "([II)I"⟩ ⟨"WeekBoats$LockQueue", "minutesOf", "([II)I"⟩ ∈ lw_gd := wmP (i := 42) (by decide +kernel) rfl
theorem wm_43 : Cond.selects "WeekBoats$Bookings" ⟨"WeekBoats$Bookings", "putInOrder", "()V"⟩ ⟨"WeekBoats$Bookings", "putInOrder", "()V"⟩ ∈ lw_gd := wmP (i := 43) (by decide +kernel) rfl
theorem wm_44 : Cond.selects "WeekBoats" ⟨"WeekBoats", "hireFirst", "(I)V"⟩ ⟨"WeekBoats", "hireFirst", "(I)V"⟩ ∈ lw_gd := wmP (i := 44) (by decide +kernel) rfl
theorem wm_45 : Cond.selects "WeekBoats$Bookings" ⟨"WeekBoats$Bookings", "canEverBeGiven", "(I)Z"⟩ ⟨"WeekBoats$Bookings", "canEverBeGiven", "(I)Z"⟩ ∈ lw_gd := wmP (i := 45) (by decide +kernel) rfl
theorem wm_46 : Cond.selects "WeekBoats$Bookings" ⟨"WeekBoats$Bookings", "canCome", "(II)Z"⟩ ⟨"WeekBoats$Bookings", "canCome", "(II)Z"⟩ ∈ lw_gd := wmP (i := 46) (by decide +kernel) rfl
theorem wm_47 : Cond.selects "WeekBoats$Bookings" ⟨"WeekBoats$Bookings", "compare", "(I)V"⟩ ⟨"WeekBoats$Bookings", "compare", "(I)V"⟩ ∈ lw_gd := wmP (i := 47) (by decide +kernel) rfl
theorem wm_48 : Cond.selects "WeekBoats$Bookings" ⟨"WeekBoats$Bookings", "canHave", "(II)Z"⟩ ⟨"WeekBoats$Bookings", "canHave", "(II)Z"⟩ ∈ lw_gd := wmP (i := 48) (by decide +kernel) rfl
theorem wm_49 : Cond.selects "WeekBoats$Yard" ⟨"WeekBoats$Yard", "othersInDock", "(I)I"⟩ ⟨"WeekBoats$Yard", "othersInDock", "(I)I"⟩ ∈ lw_gd := wmP (i := 49) (by decide +kernel) rfl
theorem wm_50 : Cond.selects "WeekBoats$Yard" ⟨"WeekBoats$Yard", "chooseNext", "(I)V"⟩ ⟨"WeekBoats$Yard", "chooseNext", "(I)V"⟩ ∈ lw_gd := wmP (i := 50) (by decide +kernel) rfl
theorem wm_51 : Cond.selects "WeekBoats$Yard" ⟨"WeekBoats$Yard", "isBetter", "(III)Z"⟩ ⟨"WeekBoats$Yard", "isBetter", "(III)Z"⟩ ∈ lw_gd := wmP (i := 51) (by decide +kernel) rfl
theorem wm_52 : Cond.selects "WeekBoats$Vans" ⟨"WeekBoats$Vans", "minutes", "(II)I"⟩ ⟨"WeekBoats$Vans", "minutes", "(II)I"⟩ ∈ lw_gd := wmP (i := 52) (by decide +kernel) rfl
theorem wm_53 : Cond.selects "WeekBoats$Vans" ⟨"WeekBoats$Vans", "comesAt", "(II)I"⟩ ⟨"WeekBoats$Vans", "comesAt", "(II)I"⟩ ∈ lw_gd := wmP (i := 53) (by decide +kernel) rfl
theorem wm_54 : Cond.selects "WeekBoatsModel" ⟨"WeekBoatsModel", "next0", "()V"⟩ ⟨"WeekBoatsModel", "next0", "()V"⟩ ∈ lw_gd := wmP (i := 54) (by decide +kernel) rfl
theorem wm_55 : Cond.selects "WeekBoatsModel" ⟨"WeekBoatsModel", "see", "(I)I"⟩ ⟨"WeekBoatsModel", "see", "(I)I"⟩ ∈ lw_gd := wmP (i := 55) (by decide +kernel) rfl
theorem wm_56 : Cond.selects "WeekBoatsModel" ⟨"WeekBoatsModel", "word", "()I"⟩ ⟨"WeekBoatsModel", "word", "()I"⟩ ∈ lw_gd := wmP (i := 56) (by decide +kernel) rfl
theorem wm_57 : Cond.selects "WeekBoatsModel" ⟨"WeekBoatsModel", "is", "(Ljava/lang/String;)Z"⟩ ⟨"WeekBoatsModel", "is", "(Ljava/lang/String;)Z"⟩ ∈ lw_gd := wmP (i := 57) (by decide +kernel) rfl
theorem wm_58 : Cond.selects "WeekBoatsModel" ⟨"WeekBoatsModel", "aLine", "()Z"⟩ ⟨"WeekBoatsModel", "aLine", "()Z"⟩ ∈ lw_gd := wmP (i := 58) (by decide +kernel) rfl
theorem wm_59 : Cond.selects "WeekBoatsModel" ⟨"WeekBoatsModel", "bad", "(I)Z"⟩ ⟨"WeekBoatsModel", "bad", "(I)Z"⟩ ∈ lw_gd := wmP (i := 59) (by decide +kernel) rfl
theorem wm_60 : Cond.selects "WeekBoatsModel" ⟨"WeekBoatsModel", "aTunnel", "()Z"⟩ ⟨"WeekBoatsModel", "aTunnel", "()Z"⟩ ∈ lw_gd := wmP (i := 60) (by decide +kernel) rfl
theorem wm_61 : Cond.selects "WeekBoatsModel" ⟨"WeekBoatsModel", "number", "(II)Z"⟩ ⟨"WeekBoatsModel", "number", "(II)Z"⟩ ∈ lw_gd := wmP (i := 61) (by decide +kernel) rfl
theorem wm_62 : Cond.selects "WeekBoatsModel" ⟨"WeekBoatsModel", "hours", "([II[II)Z"⟩ ⟨"WeekBoatsModel", "hours", "([II[II)Z"⟩ ∈ lw_gd := wmP (i := 62) (by decide +kernel) rfl
theorem wm_63 : Cond.selects "WeekBoatsModel" ⟨"WeekBoatsModel", "need", "(I)Z"⟩ ⟨"WeekBoatsModel", "need", "(I)Z"⟩ ∈ lw_gd := wmP (i := 63) (by decide +kernel) rfl
theorem wm_64 : Cond.selects "WeekBoatsModel" ⟨"WeekBoatsModel", "sumUp", "()Z"⟩ ⟨"WeekBoatsModel", "sumUp", "()Z"⟩ ∈ lw_gd := wmP (i := 64) (by decide +kernel) rfl
theorem wm_65 : Cond.selects "WeekBoatsModel" ⟨"WeekBoatsModel", "product", "()Z"⟩ ⟨"WeekBoatsModel", "product", "()Z"⟩ ∈ lw_gd := wmP (i := 65) (by decide +kernel) rfl
theorem wm_66 : Cond.selects "WeekBoatsModel" ⟨"WeekBoatsModel", "unit", "()Z"⟩ ⟨"WeekBoatsModel", "unit", "()Z"⟩ ∈ lw_gd := wmP (i := 66) (by decide +kernel) rfl
theorem wm_67 : Cond.selects "WeekBoatsModel" ⟨"WeekBoatsModel", "lay", "(II)V"⟩ ⟨"WeekBoatsModel", "lay", "(II)V"⟩ ∈ lw_gd := wmP (i := 67) (by decide +kernel) rfl
theorem wm_68 : Cond.selects "WeekBoatsModel" ⟨"WeekBoatsModel", "any", "()Z"⟩ ⟨"WeekBoatsModel", "any", "()Z"⟩ ∈ lw_gd := wmP (i := 68) (by decide +kernel) rfl
theorem wm_69 : Cond.selects "WeekBoatsModel" ⟨"WeekBoatsModel", "every", "()Z"⟩ ⟨"WeekBoatsModel", "every", "()Z"⟩ ∈ lw_gd := wmP (i := 69) (by decide +kernel) rfl
theorem wm_70 : Cond.selects "WeekBoatsModel" ⟨"WeekBoatsModel", "one", "()Z"⟩ ⟨"WeekBoatsModel", "one", "()Z"⟩ ∈ lw_gd := wmP (i := 70) (by decide +kernel) rfl
theorem wm_71 : Cond.selects "WeekBoatsModel" ⟨"WeekBoatsModel", "opens", "()Z"⟩ ⟨"WeekBoatsModel", "opens", "()Z"⟩ ∈ lw_gd := wmP (i := 71) (by decide +kernel) rfl
theorem wm_72 : Cond.selects "WeekBoatsModel" ⟨"WeekBoatsModel", "keeps", "()V"⟩ ⟨"WeekBoatsModel", "keeps", "()V"⟩ ∈ lw_gd := wmP (i := 72) (by decide +kernel) rfl
theorem wm_73 : Cond.selects "WeekBoatsModel" ⟨"WeekBoatsModel", "locksLine", "(I)I"⟩ ⟨"WeekBoatsModel", "locksLine", "(I)I"⟩ ∈ lw_gd := wmP (i := 73) (by decide +kernel) rfl
theorem wm_74 : Cond.selects "WeekBoatsModel" ⟨"WeekBoatsModel", "forgets", "()V"⟩ ⟨"WeekBoatsModel", "forgets", "()V"⟩ ∈ lw_gd := wmP (i := 74) (by decide +kernel) rfl
theorem wm_75 : Cond.selects "WeekBoatsModel" ⟨"WeekBoatsModel", "serves", "(I)I"⟩ ⟨"WeekBoatsModel", "serves", "(I)I"⟩ ∈ lw_gd := wmP (i := 75) (by decide +kernel) rfl
theorem wm_76 : Cond.selects "WeekBoatsModel" ⟨"WeekBoatsModel", "comesTo", "(II)I"⟩ ⟨"WeekBoatsModel", "comesTo", "(II)I"⟩ ∈ lw_gd := wmP (i := 76) (by decide +kernel) rfl
theorem wm_77 : Cond.selects "WeekBoatsModel" ⟨"WeekBoatsModel", "isBoat", "(I)Z"⟩ ⟨"WeekBoatsModel", "isBoat", "(I)Z"⟩ ∈ lw_gd := wmP (i := 77) (by decide +kernel) rfl
theorem wm_78 : Cond.selects "WeekBoatsModel" ⟨"WeekBoatsModel", "led", "(IIII)I"⟩ ⟨"WeekBoatsModel", "led", "(IIII)I"⟩ ∈ lw_gd := wmP (i := 78) (by decide +kernel) rfl
theorem wm_79 : Cond.selects "WeekBoatsModel" ⟨"WeekBoatsModel", "through", "(IIZI)I"⟩ ⟨"WeekBoatsModel", "through", "(IIZI)I"⟩ ∈ lw_gd := wmP (i := 79) (by decide +kernel) rfl
theorem wm_80 : Cond.selects "WeekBoatsModel" ⟨"WeekBoatsModel", "endOf", "(IIII)I"⟩ ⟨"WeekBoatsModel", "endOf", "(IIII)I"⟩ ∈ lw_gd := wmP (i := 80) (by decide +kernel) rfl
theorem wm_81 : Cond.selects "WeekBoatsModel" ⟨"WeekBoatsModel", "mayBegin", "(IIII)Z"⟩ ⟨"WeekBoatsModel", "mayBegin", "(IIII)Z"⟩ ∈ lw_gd := wmP (i := 81) (by decide +kernel) rfl
theorem wm_82 : Cond.selects "WeekBoatsModel" ⟨"WeekBoatsModel", "isStopped", "(II)Z"⟩ ⟨"WeekBoatsModel", "isStopped", "(II)Z"⟩ ∈ lw_gd := wmP (i := 82) (by decide +kernel) rfl
theorem wm_83 : Cond.selects "WeekBoatsModel" ⟨"WeekBoatsModel", "harmOf", "(II)I"⟩ ⟨"WeekBoatsModel", "harmOf", "(II)I"⟩ ∈ lw_gd := wmP (i := 83) (by decide +kernel) rfl
theorem wm_84 : Cond.selects "WeekBoatsModel" ⟨"WeekBoatsModel", "lateOf", "(I)I"⟩ ⟨"WeekBoatsModel", "lateOf", "(I)I"⟩ ∈ lw_gd := wmP (i := 84) (by decide +kernel) rfl
theorem wm_85 : Cond.selects "WeekBoatsModel" ⟨"WeekBoatsModel", "turningBack", "(I)I"⟩ ⟨"WeekBoatsModel", "turningBack", "(I)I"⟩ ∈ lw_gd := wmP (i := 85) (by decide +kernel) rfl
theorem wm_86 : Cond.selects "WeekBoatsModel" ⟨"WeekBoatsModel", "refund", "(I)I"⟩ ⟨"WeekBoatsModel", "refund", "(I)I"⟩ ∈ lw_gd := wmP (i := 86) (by decide +kernel) rfl
theorem wm_87 : Cond.selects "WeekBoatsModel" ⟨"WeekBoatsModel", "canHaveBeen", "(IIII)Z"⟩ ⟨"WeekBoatsModel", "canHaveBeen", "(IIII)Z"⟩ ∈ lw_gd := wmP (i := 87) (by decide +kernel) rfl
theorem wm_88 : Cond.selects "WeekBoatsModel" ⟨"WeekBoatsModel", "between", "(IIIII)Z"⟩ ⟨"WeekBoatsModel", "between", "(IIIII)Z"⟩ ∈ lw_gd := wmP (i := 88) (by decide +kernel) rfl
theorem wm_89 : Cond.selects "WeekBoatsModel" ⟨"WeekBoatsModel", "orders", "(II)V"⟩ ⟨"WeekBoatsModel", "orders", "(II)V"⟩ ∈ lw_gd := wmP (i := 89) (by decide +kernel) rfl
theorem wm_90 : Cond.selects "WeekBoatsModel" ⟨"WeekBoatsModel", "waits", "()I"⟩ ⟨"WeekBoatsModel", "waits", "()I"⟩ ∈ lw_gd := wmP (i := 90) (by decide +kernel) rfl
theorem wm_91 : Cond.selects "WeekBoatsModel" ⟨"WeekBoatsModel", "asTheyCome", "()V"⟩ ⟨"WeekBoatsModel", "asTheyCome", "()V"⟩ ∈ lw_gd := wmP (i := 91) (by decide +kernel) rfl
theorem wm_92 : Cond.selects "WeekBoatsModel" ⟨"WeekBoatsModel", "lockfuls", "()I"⟩ ⟨"WeekBoatsModel", "lockfuls", "()I"⟩ ∈ lw_gd := wmP (i := 92) (by decide +kernel) rfl
theorem wm_93 : Cond.selects "WeekBoatsModel" ⟨"WeekBoatsModel", "asks", "(I)V"⟩ ⟨"WeekBoatsModel", "asks", "(I)V"⟩ ∈ lw_gd := wmP (i := 93) (by decide +kernel) rfl
theorem wm_94 : Cond.selects "WeekBoatsModel" ⟨"WeekBoatsModel", "givesBest", "(I)V"⟩ ⟨"WeekBoatsModel", "givesBest", "(I)V"⟩ ∈ lw_gd := wmP (i := 94) (by decide +kernel) rfl
theorem wm_95 : Cond.selects "WeekBoatsModel" ⟨"WeekBoatsModel", "sorts", "()V"⟩ ⟨"WeekBoatsModel", "sorts", "()V"⟩ ∈ lw_gd := wmP (i := 95) (by decide +kernel) rfl
theorem wm_96 : Cond.selects "WeekBoatsModel" ⟨"WeekBoatsModel", "gives", "(III)V"⟩ ⟨"WeekBoatsModel", "gives", "(III)V"⟩ ∈ lw_gd := wmP (i := 96) (by decide +kernel) rfl
theorem wm_97 : Cond.selects "WeekBoatsModel" ⟨"WeekBoatsModel", "docksOn", "(IIIII)V"⟩ ⟨"WeekBoatsModel", "docksOn", "(IIIII)V"⟩ ∈ lw_gd := wmP (i := 97) (by decide +kernel) rfl
theorem wm_98 : Cond.selects "WeekBoatsModel" ⟨"WeekBoatsModel", "worked", "(I)I"⟩ ⟨"WeekBoatsModel", "worked", "(I)I"⟩ ∈ lw_gd := wmP (i := 98) (by decide +kernel) rfl
theorem wm_99 : Cond.selects "WeekBoatsModel" ⟨"WeekBoatsModel", "lastEnd", "(I)I"⟩ ⟨"WeekBoatsModel", "lastEnd", "(I)I"⟩ ∈ lw_gd := wmP (i := 99) (by decide +kernel) rfl
theorem wm_100 : Cond.selects "WeekBoatsModel" ⟨"WeekBoatsModel", "handOf", "(III)I"⟩ ⟨"WeekBoatsModel", "handOf", "(III)I"⟩ ∈ lw_gd := wmP (i := 100) (by decide +kernel) rfl
theorem wm_101 : Cond.selects "WeekBoatsModel" ⟨"WeekBoatsModel", "sumOf", "(I)I"⟩ ⟨"WeekBoatsModel", "sumOf", "(I)I"⟩ ∈ lw_gd := wmP (i := 101) (by decide +kernel) rfl
theorem wm_102 : Cond.selects "WeekBoatsModel" ⟨"WeekBoatsModel", "drive", "(II)I"⟩ ⟨"WeekBoatsModel", "drive", "(II)I"⟩ ∈ lw_gd := wmP (i := 102) (by decide +kernel) rfl
theorem wm_103 : Cond.selects "WeekBoatsModel" ⟨"WeekBoatsModel", "worstOf", "(I)I"⟩ ⟨"WeekBoatsModel", "worstOf", "(I)I"⟩ ∈ lw_gd := wmP (i := 103) (by decide +kernel) rfl
theorem wm_104 : Cond.selects "WeekBoatsModel" ⟨"WeekBoatsModel", "nearer", "(III)I"⟩ ⟨"WeekBoatsModel", "nearer", "(III)I"⟩ ∈ lw_gd := wmP (i := 104) (by decide +kernel) rfl
theorem wm_105 : Cond.selects "WeekBoatsModel" ⟨"WeekBoatsModel", "arrives", "(II)I"⟩ ⟨"WeekBoatsModel", "arrives", "(II)I"⟩ ∈ lw_gd := wmP (i := 105) (by decide +kernel) rfl
theorem wm_106 : Cond.selects "WeekBoatsModel" ⟨"WeekBoatsModel", "starts", "()V"⟩ ⟨"WeekBoatsModel", "starts", "()V"⟩ ∈ lw_gd := wmP (i := 106) (by decide +kernel) rfl
theorem wm_107 : Cond.selects "WeekBoatsModel" ⟨"WeekBoatsModel", "aDay", "(IIII)V"⟩ ⟨"WeekBoatsModel", "aDay", "(IIII)V"⟩ ∈ lw_gd := wmP (i := 107) (by decide +kernel) rfl
theorem wm_108 : Cond.selects "WeekBoatsModel" ⟨"WeekBoatsModel", "falls", "(III)V"⟩ ⟨"WeekBoatsModel", "falls", "(III)V"⟩ ∈ lw_gd := wmP (i := 108) (by decide +kernel) rfl
theorem wm_109 : Cond.selects "WeekBoatsModel" ⟨"WeekBoatsModel", "kept", "()I"⟩ ⟨"WeekBoatsModel", "kept", "()I"⟩ ∈ lw_gd := wmP (i := 109) (by decide +kernel) rfl
theorem wm_110 : Cond.initialized "WeekBoatsLaw" ∈ lw_gd := wmP (i := 110) (by decide +kernel) rfl
theorem wm_111 : Cond.initialized "WeekBoats" ∈ lw_gd := wmP (i := 111) (by decide +kernel) rfl
theorem wm_112 : Cond.initialized "WeekBoats$Canal" ∈ lw_gd := wmP (i := 112) (by decide +kernel) rfl
theorem wm_113 : Cond.initialized "java/util/Arrays" ∈ lw_gd := wmP (i := 113) (by decide +kernel) rfl
theorem wm_114 : Cond.initialized "WeekBoats$Rules" ∈ lw_gd := wmP (i := 114) (by decide +kernel) rfl
theorem wm_115 : Cond.initialized "WeekBoats$Parser" ∈ lw_gd := wmP (i := 115) (by decide +kernel) rfl
theorem wm_116 : Cond.initialized "WeekBoats$Voyage" ∈ lw_gd := wmP (i := 116) (by decide +kernel) rfl
theorem wm_117 : Cond.initialized "WeekBoats$Boats" ∈ lw_gd := wmP (i := 117) (by decide +kernel) rfl
theorem wm_118 : Cond.initialized "WeekBoats$Trips" ∈ lw_gd := wmP (i := 118) (by decide +kernel) rfl
theorem wm_119 : Cond.initialized "WeekBoats$LockQueue" ∈ lw_gd := wmP (i := 119) (by decide +kernel) rfl
theorem wm_120 : Cond.initialized "WeekBoats$Bookings" ∈ lw_gd := wmP (i := 120) (by decide +kernel) rfl
theorem wm_121 : Cond.initialized "WeekBoats$Yard" ∈ lw_gd := wmP (i := 121) (by decide +kernel) rfl
theorem wm_122 : Cond.initialized "WeekBoats$Vans" ∈ lw_gd := wmP (i := 122) (by decide +kernel) rfl
theorem wm_123 : Cond.initialized "WeekBoats$Rain" ∈ lw_gd := wmP (i := 123) (by decide +kernel) rfl
theorem wm_124 : Cond.initialized "WeekBoatsModel" ∈ lw_gd := wmP (i := 124) (by decide +kernel) rfl
theorem wm_125 : Cond.initialized "java/lang/String" ∈ lw_gd := wmP (i := 125) (by decide +kernel) rfl
theorem wm_126 : Cond.initialized "java/lang/StringLatin1" ∈ lw_gd := wmP (i := 126) (by decide +kernel) rfl
theorem wm_127 : Cond.initialized "jdk/internal/util/Preconditions" ∈ lw_gd := wmP (i := 127) (by decide +kernel) rfl
theorem wm_128 : Cond.initialized "java/lang/StringUTF16" ∈ lw_gd := wmP (i := 128) (by decide +kernel) rfl
theorem wm_129 : Cond.initialized "java/lang/Math" ∈ lw_gd := wmP (i := 129) (by decide +kernel) rfl
theorem wm_130 : Cond.initialized "java/lang/Character" ∈ lw_gd := wmP (i := 130) (by decide +kernel) rfl
theorem wm_131 : Cond.initialized "java/lang/System" ∈ lw_gd := wmP (i := 131) (by decide +kernel) rfl
theorem wm_132 : Cond.initialized "java/lang/Integer" ∈ lw_gd := wmP (i := 132) (by decide +kernel) rfl
theorem wm_135 : Cond.methodLink "WeekBoatsLaw" 9 ⟨"WeekBoats", "<init>", "()V"⟩ ∈ lw_gd := wmP (i := 135) (by decide +kernel) rfl
theorem wm_136 : Cond.instanceMethod ⟨"WeekBoats", "<init>", "()V"⟩ ∈ lw_gd := wmP (i := 136) (by decide +kernel) rfl
theorem wm_137 : Cond.code ⟨"WeekBoats", "<init>", "()V"⟩ prog_1_method_1_code 1 none ∈ lw_gd := wmP (i := 137) (by decide +kernel) rfl
theorem wm_138 : Cond.methodLink "WeekBoats" 3 ⟨"java/lang/Object", "<init>", "()V"⟩ ∈ lw_gd := wmP (i := 138) (by decide +kernel) rfl
theorem wm_139 : Cond.instanceMethod ⟨"java/lang/Object", "<init>", "()V"⟩ ∈ lw_gd := wmP (i := 139) (by decide +kernel) rfl
theorem wm_140 : Cond.code ⟨"java/lang/Object", "<init>", "()V"⟩ object_method_1_code 1 none ∈ lw_gd := wmP (i := 140) (by decide +kernel) rfl
theorem wm_143 : Cond.methodLink "WeekBoats" 11 ⟨"WeekBoats$Canal", "<init>", "()V"⟩ ∈ lw_gd := wmP (i := 143) (by decide +kernel) rfl
theorem wm_144 : Cond.instanceMethod ⟨"WeekBoats$Canal", "<init>", "()V"⟩ ∈ lw_gd := wmP (i := 144) (by decide +kernel) rfl
theorem wm_145 : Cond.code ⟨"WeekBoats$Canal", "<init>", "()V"⟩ prog_4_method_1_code 1 none ∈ lw_gd := wmP (i := 145) (by decide +kernel) rfl
theorem wm_146 : Cond.methodLink "WeekBoats$Canal" 3 ⟨"java/lang/Object", "<init>", "()V"⟩ ∈ lw_gd := wmP (i := 146) (by decide +kernel) rfl
theorem wm_147 : Cond.methodLink "WeekBoats$Canal" 28 ⟨"java/util/Arrays", "fill", "([II)V"⟩ ∈ lw_gd := wmP (i := 147) (by decide +kernel) rfl
theorem wm_148 : Cond.static ⟨"java/util/Arrays", "fill", "([II)V"⟩ ∈ lw_gd := wmP (i := 148) (by decide +kernel) rfl
theorem wm_149 : Cond.code ⟨"java/util/Arrays", "fill", "([II)V"⟩ prog_22_method_103_code 4 none ∈ lw_gd := wmP (i := 149) (by decide +kernel) rfl
theorem wm_150 : Cond.fieldLink "WeekBoats$Canal" 9 "WeekBoats$Canal" "miles" "[I" ∈ lw_gd := wmP (i := 150) (by decide +kernel) rfl
theorem wm_151 : Cond.fieldLink "WeekBoats$Voyage" 78 "WeekBoats$Canal" "miles" "[I" ∈ lw_gd := wmP (i := 151) (by decide +kernel) rfl
theorem wm_152 : Cond.fieldLink "WeekBoats" 117 "WeekBoats$Canal" "miles" "[I" ∈ lw_gd := wmP (i := 152) (by decide +kernel) rfl
theorem wm_153 : Cond.fieldLink "WeekBoats$Canal" 15 "WeekBoats$Canal" "locks" "[I" ∈ lw_gd := wmP (i := 153) (by decide +kernel) rfl
theorem wm_154 : Cond.fieldLink "WeekBoats$Voyage" 89 "WeekBoats$Canal" "locks" "[I" ∈ lw_gd := wmP (i := 154) (by decide +kernel) rfl
theorem wm_155 : Cond.fieldLink "WeekBoats" 121 "WeekBoats$Canal" "locks" "[I" ∈ lw_gd := wmP (i := 155) (by decide +kernel) rfl
theorem wm_156 : Cond.fieldLink "WeekBoats$Canal" 18 "WeekBoats$Canal" "road" "[I" ∈ lw_gd := wmP (i := 156) (by decide +kernel) rfl
theorem wm_157 : Cond.fieldLink "WeekBoats$Vans" 40 "WeekBoats$Canal" "road" "[I" ∈ lw_gd := wmP (i := 157) (by decide +kernel) rfl
theorem wm_158 : Cond.fieldLink "WeekBoats" 124 "WeekBoats$Canal" "road" "[I" ∈ lw_gd := wmP (i := 158) (by decide +kernel) rfl
theorem wm_159 : Cond.fieldLink "WeekBoats$Canal" 21 "WeekBoats$Canal" "stopped" "[I" ∈ lw_gd := wmP (i := 159) (by decide +kernel) rfl
theorem wm_160 : Cond.fieldLink "WeekBoats$Voyage" 115 "WeekBoats$Canal" "stopped" "[I" ∈ lw_gd := wmP (i := 160) (by decide +kernel) rfl
theorem wm_161 : Cond.fieldLink "WeekBoats$Canal" 34 "WeekBoats$Canal" "stoppages" "I" ∈ lw_gd := wmP (i := 161) (by decide +kernel) rfl
theorem wm_162 : Cond.fieldLink "WeekBoats" 136 "WeekBoats$Canal" "stoppages" "I" ∈ lw_gd := wmP (i := 162) (by decide +kernel) rfl
theorem wm_163 : Cond.fieldLink "WeekBoats$Canal" 24 "WeekBoats$Canal" "water" "I" ∈ lw_gd := wmP (i := 163) (by decide +kernel) rfl
theorem wm_164 : Cond.fieldLink "WeekBoats$Voyage" 38 "WeekBoats$Canal" "water" "I" ∈ lw_gd := wmP (i := 164) (by decide +kernel) rfl
theorem wm_165 : Cond.fieldLink "WeekBoats" 127 "WeekBoats$Canal" "water" "I" ∈ lw_gd := wmP (i := 165) (by decide +kernel) rfl
theorem wm_166 : Cond.fieldLink "WeekBoats$Boats" 104 "WeekBoats$Canal" "water" "I" ∈ lw_gd := wmP (i := 166) (by decide +kernel) rfl
theorem wm_167 : Cond.fieldLink "WeekBoats$Canal" 37 "WeekBoats$Canal" "pumps" "I" ∈ lw_gd := wmP (i := 167) (by decide +kernel) rfl
theorem wm_168 : Cond.fieldLink "WeekBoats$Voyage" 75 "WeekBoats$Canal" "pumps" "I" ∈ lw_gd := wmP (i := 168) (by decide +kernel) rfl
theorem wm_188 : Cond.instanceMethod ⟨"WeekBoats$Rules", "<init>", "()V"⟩ ∈ lw_gd := wmP (i := 188) (by decide +kernel) rfl
theorem wm_189 : Cond.code ⟨"WeekBoats$Rules", "<init>", "()V"⟩ prog_8_method_1_code 1 none ∈ lw_gd := wmP (i := 189) (by decide +kernel) rfl
theorem wm_190 : Cond.methodLink "WeekBoats$Rules" 3 ⟨"java/lang/Object", "<init>", "()V"⟩ ∈ lw_gd := wmP (i := 190) (by decide +kernel) rfl
theorem wm_191 : Cond.fieldLink "WeekBoats$Rules" 9 "WeekBoats$Rules" "step" "[I" ∈ lw_gd := wmP (i := 191) (by decide +kernel) rfl
theorem wm_192 : Cond.fieldLink "WeekBoats$Rules" 15 "WeekBoats$Rules" "with" "[I" ∈ lw_gd := wmP (i := 192) (by decide +kernel) rfl
theorem wm_193 : Cond.fieldLink "WeekBoats$Rules" 48 "WeekBoats$Rules" "steps" "I" ∈ lw_gd := wmP (i := 193) (by decide +kernel) rfl
theorem wm_194 : Cond.fieldLink "WeekBoats$Parser" 116 "WeekBoats$Rules" "steps" "I" ∈ lw_gd := wmP (i := 194) (by decide +kernel) rfl
theorem wm_195 : Cond.fieldLink "WeekBoats$Rules" 52 "WeekBoats$Rules" "lines" "I" ∈ lw_gd := wmP (i := 195) (by decide +kernel) rfl
theorem wm_196 : Cond.fieldLink "WeekBoats$Parser" 49 "WeekBoats$Rules" "lines" "I" ∈ lw_gd := wmP (i := 196) (by decide +kernel) rfl
theorem wm_197 : Cond.fieldLink "WeekBoats$Rules" 18 "WeekBoats$Rules" "kind" "[I" ∈ lw_gd := wmP (i := 197) (by decide +kernel) rfl
theorem wm_198 : Cond.fieldLink "WeekBoats$Parser" 110 "WeekBoats$Rules" "kind" "[I" ∈ lw_gd := wmP (i := 198) (by decide +kernel) rfl
theorem wm_199 : Cond.fieldLink "WeekBoats$Rules" 21 "WeekBoats$Rules" "first" "[I" ∈ lw_gd := wmP (i := 199) (by decide +kernel) rfl
theorem wm_200 : Cond.fieldLink "WeekBoats$Parser" 113 "WeekBoats$Rules" "first" "[I" ∈ lw_gd := wmP (i := 200) (by decide +kernel) rfl
theorem wm_201 : Cond.fieldLink "WeekBoats$Rules" 24 "WeekBoats$Rules" "when" "[I" ∈ lw_gd := wmP (i := 201) (by decide +kernel) rfl
theorem wm_202 : Cond.fieldLink "WeekBoats$Parser" 134 "WeekBoats$Rules" "when" "[I" ∈ lw_gd := wmP (i := 202) (by decide +kernel) rfl
theorem wm_203 : Cond.fieldLink "WeekBoats$Rules" 27 "WeekBoats$Rules" "end" "[I" ∈ lw_gd := wmP (i := 203) (by decide +kernel) rfl
theorem wm_204 : Cond.fieldLink "WeekBoats$Parser" 143 "WeekBoats$Rules" "end" "[I" ∈ lw_gd := wmP (i := 204) (by decide +kernel) rfl
theorem wm_205 : Cond.fieldLink "WeekBoats$Rules" 30 "WeekBoats$Rules" "hourFrom" "[I" ∈ lw_gd := wmP (i := 205) (by decide +kernel) rfl
theorem wm_206 : Cond.fieldLink "WeekBoats$Voyage" 54 "WeekBoats$Rules" "hourFrom" "[I" ∈ lw_gd := wmP (i := 206) (by decide +kernel) rfl
theorem wm_207 : Cond.fieldLink "WeekBoats$Parser" 122 "WeekBoats$Rules" "hourFrom" "[I" ∈ lw_gd := wmP (i := 207) (by decide +kernel) rfl
theorem wm_208 : Cond.fieldLink "WeekBoats$Rules" 33 "WeekBoats$Rules" "hourTo" "[I" ∈ lw_gd := wmP (i := 208) (by decide +kernel) rfl
theorem wm_209 : Cond.fieldLink "WeekBoats$Voyage" 57 "WeekBoats$Rules" "hourTo" "[I" ∈ lw_gd := wmP (i := 209) (by decide +kernel) rfl
theorem wm_210 : Cond.fieldLink "WeekBoats$Parser" 128 "WeekBoats$Rules" "hourTo" "[I" ∈ lw_gd := wmP (i := 210) (by decide +kernel) rfl
theorem wm_211 : Cond.fieldLink "WeekBoats$Rules" 55 "WeekBoats$Rules" "tunnels" "I" ∈ lw_gd := wmP (i := 211) (by decide +kernel) rfl
theorem wm_212 : Cond.fieldLink "WeekBoats$Parser" 152 "WeekBoats$Rules" "tunnels" "I" ∈ lw_gd := wmP (i := 212) (by decide +kernel) rfl
theorem wm_213 : Cond.fieldLink "WeekBoats$Rules" 36 "WeekBoats$Rules" "tunnelFrom" "[I" ∈ lw_gd := wmP (i := 213) (by decide +kernel) rfl
theorem wm_214 : Cond.fieldLink "WeekBoats$Voyage" 118 "WeekBoats$Rules" "tunnelFrom" "[I" ∈ lw_gd := wmP (i := 214) (by decide +kernel) rfl
theorem wm_215 : Cond.fieldLink "WeekBoats$Parser" 155 "WeekBoats$Rules" "tunnelFrom" "[I" ∈ lw_gd := wmP (i := 215) (by decide +kernel) rfl
theorem wm_216 : Cond.fieldLink "WeekBoats$Rules" 39 "WeekBoats$Rules" "tunnelTo" "[I" ∈ lw_gd := wmP (i := 216) (by decide +kernel) rfl
theorem wm_217 : Cond.fieldLink "WeekBoats$Voyage" 121 "WeekBoats$Rules" "tunnelTo" "[I" ∈ lw_gd := wmP (i := 217) (by decide +kernel) rfl
theorem wm_218 : Cond.fieldLink "WeekBoats$Parser" 158 "WeekBoats$Rules" "tunnelTo" "[I" ∈ lw_gd := wmP (i := 218) (by decide +kernel) rfl
theorem wm_219 : Cond.fieldLink "WeekBoats$Rules" 42 "WeekBoats$Rules" "asked" "[I" ∈ lw_gd := wmP (i := 219) (by decide +kernel) rfl
theorem wm_220 : Cond.fieldLink "WeekBoats$Boats" 115 "WeekBoats$Rules" "asked" "[I" ∈ lw_gd := wmP (i := 220) (by decide +kernel) rfl
theorem wm_221 : Cond.fieldLink "WeekBoats$Rules" 45 "WeekBoats$Rules" "stack" "[I" ∈ lw_gd := wmP (i := 221) (by decide +kernel) rfl
theorem wm_255 : Cond.methodLink "WeekBoats" 28 ⟨"WeekBoats$Parser", "<init>", "(LWeekBoats$Rules;)V"⟩ ∈ lw_gd := wmP (i := 255) (by decide +kernel) rfl
theorem wm_256 : Cond.instanceMethod ⟨"WeekBoats$Parser", "<init>", "(LWeekBoats$Rules;)V"⟩ ∈ lw_gd := wmP (i := 256) (by decide +kernel) rfl
theorem wm_257 : Cond.code ⟨"WeekBoats$Parser", "<init>", "(LWeekBoats$Rules;)V"⟩ prog_6_method_1_code 2 none ∈ lw_gd := wmP (i := 257) (by decide +kernel) rfl
theorem wm_258 : Cond.methodLink "WeekBoats$Parser" 3 ⟨"java/lang/Object", "<init>", "()V"⟩ ∈ lw_gd := wmP (i := 258) (by decide +kernel) rfl
theorem wm_259 : Cond.fieldLink "WeekBoats$Parser" 25 "WeekBoats$Parser" "draft" "LWeekBoats$Rules;" ∈ lw_gd := wmP (i := 259) (by decide +kernel) rfl
theorem wm_260 : Cond.fieldLink "WeekBoats$Parser" 9 "WeekBoats$Parser" "tape" "[I" ∈ lw_gd := wmP (i := 260) (by decide +kernel) rfl
theorem wm_261 : Cond.fieldLink "WeekBoats$Parser" 29 "WeekBoats$Parser" "length" "I" ∈ lw_gd := wmP (i := 261) (by decide +kernel) rfl
theorem wm_262 : Cond.fieldLink "WeekBoats" 150 "WeekBoats$Parser" "length" "I" ∈ lw_gd := wmP (i := 262) (by decide +kernel) rfl
theorem wm_263 : Cond.fieldLink "WeekBoats$Parser" 15 "WeekBoats$Parser" "token" "[I" ∈ lw_gd := wmP (i := 263) (by decide +kernel) rfl
theorem wm_264 : Cond.fieldLink "WeekBoats$Parser" 18 "WeekBoats$Parser" "place" "[I" ∈ lw_gd := wmP (i := 264) (by decide +kernel) rfl
theorem wm_265 : Cond.fieldLink "WeekBoats$Parser" 52 "WeekBoats$Parser" "tokens" "I" ∈ lw_gd := wmP (i := 265) (by decide +kernel) rfl
theorem wm_266 : Cond.fieldLink "WeekBoats$Parser" 35 "WeekBoats$Parser" "at" "I" ∈ lw_gd := wmP (i := 266) (by decide +kernel) rfl
theorem wm_267 : Cond.fieldLink "WeekBoats$Parser" 32 "WeekBoats$Parser" "fault" "I" ∈ lw_gd := wmP (i := 267) (by decide +kernel) rfl
theorem wm_268 : Cond.fieldLink "WeekBoats" 164 "WeekBoats$Parser" "fault" "I" ∈ lw_gd := wmP (i := 268) (by decide +kernel) rfl
theorem wm_269 : Cond.fieldLink "WeekBoats$Parser" 21 "WeekBoats$Parser" "faultPlace" "I" ∈ lw_gd := wmP (i := 269) (by decide +kernel) rfl
theorem wm_270 : Cond.fieldLink "WeekBoats" 167 "WeekBoats$Parser" "faultPlace" "I" ∈ lw_gd := wmP (i := 270) (by decide +kernel) rfl
theorem wm_292 : Cond.methodLink "WeekBoats" 37 ⟨"WeekBoats$Voyage", "<init>", "(LWeekBoats$Canal;LWeekBoats$Rules;)V"⟩ ∈ lw_gd := wmP (i := 292) (by decide +kernel) rfl
theorem wm_293 : Cond.instanceMethod ⟨"WeekBoats$Voyage", "<init>", "(LWeekBoats$Canal;LWeekBoats$Rules;)V"⟩ ∈ lw_gd := wmP (i := 293) (by decide +kernel) rfl
theorem wm_294 : Cond.code ⟨"WeekBoats$Voyage", "<init>", "(LWeekBoats$Canal;LWeekBoats$Rules;)V"⟩ prog_11_method_1_code 3 none ∈ lw_gd := wmP (i := 294) (by decide +kernel) rfl
theorem wm_295 : Cond.methodLink "WeekBoats$Voyage" 3 ⟨"java/lang/Object", "<init>", "()V"⟩ ∈ lw_gd := wmP (i := 295) (by decide +kernel) rfl
theorem wm_296 : Cond.methodLink "WeekBoats$Voyage" 32 ⟨"java/util/Arrays", "fill", "([II)V"⟩ ∈ lw_gd := wmP (i := 296) (by decide +kernel) rfl
theorem wm_297 : Cond.fieldLink "WeekBoats$Voyage" 24 "WeekBoats$Voyage" "canal" "LWeekBoats$Canal;" ∈ lw_gd := wmP (i := 297) (by decide +kernel) rfl
theorem wm_298 : Cond.fieldLink "WeekBoats$Voyage" 28 "WeekBoats$Voyage" "rules" "LWeekBoats$Rules;" ∈ lw_gd := wmP (i := 298) (by decide +kernel) rfl
theorem wm_299 : Cond.fieldLink "WeekBoats$Voyage" 9 "WeekBoats$Voyage" "openFrom" "[I" ∈ lw_gd := wmP (i := 299) (by decide +kernel) rfl
theorem wm_300 : Cond.fieldLink "WeekBoats" 170 "WeekBoats$Voyage" "openFrom" "[I" ∈ lw_gd := wmP (i := 300) (by decide +kernel) rfl
theorem wm_301 : Cond.fieldLink "WeekBoats$Voyage" 15 "WeekBoats$Voyage" "openTo" "[I" ∈ lw_gd := wmP (i := 301) (by decide +kernel) rfl
theorem wm_302 : Cond.fieldLink "WeekBoats" 173 "WeekBoats$Voyage" "openTo" "[I" ∈ lw_gd := wmP (i := 302) (by decide +kernel) rfl
theorem wm_303 : Cond.fieldLink "WeekBoats$Voyage" 18 "WeekBoats$Voyage" "arrival" "[I" ∈ lw_gd := wmP (i := 303) (by decide +kernel) rfl
theorem wm_304 : Cond.fieldLink "WeekBoats" 216 "WeekBoats$Voyage" "arrival" "[I" ∈ lw_gd := wmP (i := 304) (by decide +kernel) rfl
theorem wm_305 : Cond.fieldLink "WeekBoats$Voyage" 21 "WeekBoats$Voyage" "locksBegun" "[I" ∈ lw_gd := wmP (i := 305) (by decide +kernel) rfl
theorem wm_306 : Cond.fieldLink "WeekBoats$Boats" 98 "WeekBoats$Voyage" "locksBegun" "[I" ∈ lw_gd := wmP (i := 306) (by decide +kernel) rfl
theorem wm_307 : Cond.fieldLink "WeekBoats$Voyage" 60 "WeekBoats$Voyage" "lockMinutes" "I" ∈ lw_gd := wmP (i := 307) (by decide +kernel) rfl
theorem wm_308 : Cond.fieldLink "WeekBoats$Voyage" 63 "WeekBoats$Voyage" "heedsStoppages" "Z" ∈ lw_gd := wmP (i := 308) (by decide +kernel) rfl
theorem wm_328 : Cond.methodLink "WeekBoats" 46 ⟨"WeekBoats$Boats", "<init>", "(LWeekBoats$Canal;LWeekBoats$Rules;LWeekBoats$Voyage;)V"⟩ ∈ lw_gd := wmP (i := 328) (by decide +kernel) rfl
theorem wm_329 : Cond.instanceMethod ⟨"WeekBoats$Boats", "<init>", "(LWeekBoats$Canal;LWeekBoats$Rules;LWeekBoats$Voyage;)V"⟩ ∈ lw_gd := wmP (i := 329) (by decide +kernel) rfl
theorem wm_330 : Cond.code ⟨"WeekBoats$Boats", "<init>", "(LWeekBoats$Canal;LWeekBoats$Rules;LWeekBoats$Voyage;)V"⟩ prog_2_method_1_code 4 none ∈ lw_gd := wmP (i := 330) (by decide +kernel) rfl
theorem wm_331 : Cond.methodLink "WeekBoats$Boats" 3 ⟨"java/lang/Object", "<init>", "()V"⟩ ∈ lw_gd := wmP (i := 331) (by decide +kernel) rfl
theorem wm_334 : Cond.fieldLink "WeekBoats$Boats" 38 "WeekBoats$Boats" "canal" "LWeekBoats$Canal;" ∈ lw_gd := wmP (i := 334) (by decide +kernel) rfl
theorem wm_335 : Cond.fieldLink "WeekBoats$Boats" 42 "WeekBoats$Boats" "rules" "LWeekBoats$Rules;" ∈ lw_gd := wmP (i := 335) (by decide +kernel) rfl
theorem wm_336 : Cond.fieldLink "WeekBoats$Boats" 46 "WeekBoats$Boats" "voyage" "LWeekBoats$Voyage;" ∈ lw_gd := wmP (i := 336) (by decide +kernel) rfl
theorem wm_337 : Cond.fieldLink "WeekBoats$Boats" 9 "WeekBoats$Boats" "berths" "[I" ∈ lw_gd := wmP (i := 337) (by decide +kernel) rfl
theorem wm_338 : Cond.fieldLink "WeekBoats" 287 "WeekBoats$Boats" "berths" "[I" ∈ lw_gd := wmP (i := 338) (by decide +kernel) rfl
theorem wm_339 : Cond.fieldLink "WeekBoats$Boats" 15 "WeekBoats$Boats" "age" "[I" ∈ lw_gd := wmP (i := 339) (by decide +kernel) rfl
theorem wm_340 : Cond.fieldLink "WeekBoats$Boats" 18 "WeekBoats$Boats" "home" "[I" ∈ lw_gd := wmP (i := 340) (by decide +kernel) rfl
theorem wm_341 : Cond.fieldLink "WeekBoats" 290 "WeekBoats$Boats" "home" "[I" ∈ lw_gd := wmP (i := 341) (by decide +kernel) rfl
theorem wm_342 : Cond.fieldLink "WeekBoats$Boats" 21 "WeekBoats$Boats" "taught" "[I" ∈ lw_gd := wmP (i := 342) (by decide +kernel) rfl
theorem wm_343 : Cond.fieldLink "WeekBoats$Trips" 43 "WeekBoats$Boats" "taught" "[I" ∈ lw_gd := wmP (i := 343) (by decide +kernel) rfl
theorem wm_344 : Cond.fieldLink "WeekBoats" 180 "WeekBoats$Boats" "taught" "[I" ∈ lw_gd := wmP (i := 344) (by decide +kernel) rfl
theorem wm_345 : Cond.fieldLink "WeekBoats$Boats" 50 "WeekBoats$Boats" "count" "I" ∈ lw_gd := wmP (i := 345) (by decide +kernel) rfl
theorem wm_346 : Cond.fieldLink "WeekBoats" 103 "WeekBoats$Boats" "count" "I" ∈ lw_gd := wmP (i := 346) (by decide +kernel) rfl
theorem wm_347 : Cond.fieldLink "WeekBoats$Boats" 26 "WeekBoats$Boats" "logPoint" "[[I" ∈ lw_gd := wmP (i := 347) (by decide +kernel) rfl
theorem wm_348 : Cond.fieldLink "WeekBoats$Boats" 29 "WeekBoats$Boats" "logTime" "[[I" ∈ lw_gd := wmP (i := 348) (by decide +kernel) rfl
theorem wm_349 : Cond.fieldLink "WeekBoats$Boats" 32 "WeekBoats$Boats" "logs" "[I" ∈ lw_gd := wmP (i := 349) (by decide +kernel) rfl
theorem wm_350 : Cond.fieldLink "WeekBoats$Boats" 35 "WeekBoats$Boats" "tonightAt" "[I" ∈ lw_gd := wmP (i := 350) (by decide +kernel) rfl
theorem wm_351 : Cond.fieldLink "WeekBoats" 240 "WeekBoats$Boats" "tonightAt" "[I" ∈ lw_gd := wmP (i := 351) (by decide +kernel) rfl
theorem wm_379 : Cond.methodLink "WeekBoats" 55 ⟨"WeekBoats$Trips", "<init>", "(LWeekBoats$Boats;LWeekBoats$Rules;LWeekBoats$Voyage;)V"⟩ ∈ lw_gd := wmP (i := 379) (by decide +kernel) rfl
theorem wm_380 : Cond.instanceMethod ⟨"WeekBoats$Trips", "<init>", "(LWeekBoats$Boats;LWeekBoats$Rules;LWeekBoats$Voyage;)V"⟩ ∈ lw_gd := wmP (i := 380) (by decide +kernel) rfl
theorem wm_381 : Cond.code ⟨"WeekBoats$Trips", "<init>", "(LWeekBoats$Boats;LWeekBoats$Rules;LWeekBoats$Voyage;)V"⟩ prog_9_method_1_code 4 none ∈ lw_gd := wmP (i := 381) (by decide +kernel) rfl
theorem wm_382 : Cond.methodLink "WeekBoats$Trips" 3 ⟨"java/lang/Object", "<init>", "()V"⟩ ∈ lw_gd := wmP (i := 382) (by decide +kernel) rfl
theorem wm_383 : Cond.fieldLink "WeekBoats$Trips" 27 "WeekBoats$Trips" "boats" "LWeekBoats$Boats;" ∈ lw_gd := wmP (i := 383) (by decide +kernel) rfl
theorem wm_384 : Cond.fieldLink "WeekBoats$Trips" 31 "WeekBoats$Trips" "rules" "LWeekBoats$Rules;" ∈ lw_gd := wmP (i := 384) (by decide +kernel) rfl
theorem wm_385 : Cond.fieldLink "WeekBoats$Trips" 35 "WeekBoats$Trips" "voyage" "LWeekBoats$Voyage;" ∈ lw_gd := wmP (i := 385) (by decide +kernel) rfl
theorem wm_386 : Cond.fieldLink "WeekBoats$Trips" 9 "WeekBoats$Trips" "boat" "[I" ∈ lw_gd := wmP (i := 386) (by decide +kernel) rfl
theorem wm_387 : Cond.fieldLink "WeekBoats$Trips" 15 "WeekBoats$Trips" "from" "[I" ∈ lw_gd := wmP (i := 387) (by decide +kernel) rfl
theorem wm_388 : Cond.fieldLink "WeekBoats$Trips" 18 "WeekBoats$Trips" "to" "[I" ∈ lw_gd := wmP (i := 388) (by decide +kernel) rfl
theorem wm_389 : Cond.fieldLink "WeekBoats$Trips" 21 "WeekBoats$Trips" "time" "[I" ∈ lw_gd := wmP (i := 389) (by decide +kernel) rfl
theorem wm_390 : Cond.fieldLink "WeekBoats$Trips" 24 "WeekBoats$Trips" "due" "[I" ∈ lw_gd := wmP (i := 390) (by decide +kernel) rfl
theorem wm_391 : Cond.fieldLink "WeekBoats$Trips" 39 "WeekBoats$Trips" "count" "I" ∈ lw_gd := wmP (i := 391) (by decide +kernel) rfl
theorem wm_392 : Cond.fieldLink "WeekBoats" 197 "WeekBoats$Trips" "count" "I" ∈ lw_gd := wmP (i := 392) (by decide +kernel) rfl
theorem wm_415 : Cond.instanceMethod ⟨"WeekBoats$LockQueue", "<init>", "()V"⟩ ∈ lw_gd := wmP (i := 415) (by decide +kernel) rfl
theorem wm_416 : Cond.code ⟨"WeekBoats$LockQueue", "<init>", "()V"⟩ prog_5_method_1_code 1 none ∈ lw_gd := wmP (i := 416) (by decide +kernel) rfl
theorem wm_417 : Cond.methodLink "WeekBoats$LockQueue" 3 ⟨"java/lang/Object", "<init>", "()V"⟩ ∈ lw_gd := wmP (i := 417) (by decide +kernel) rfl
theorem wm_418 : Cond.fieldLink "WeekBoats$LockQueue" 9 "WeekBoats$LockQueue" "minute" "[I" ∈ lw_gd := wmP (i := 418) (by decide +kernel) rfl
theorem wm_419 : Cond.fieldLink "WeekBoats$LockQueue" 15 "WeekBoats$LockQueue" "way" "[I" ∈ lw_gd := wmP (i := 419) (by decide +kernel) rfl
theorem wm_420 : Cond.fieldLink "WeekBoats$LockQueue" 24 "WeekBoats$LockQueue" "count" "I" ∈ lw_gd := wmP (i := 420) (by decide +kernel) rfl
theorem wm_421 : Cond.fieldLink "WeekBoats" 408 "WeekBoats$LockQueue" "count" "I" ∈ lw_gd := wmP (i := 421) (by decide +kernel) rfl
theorem wm_422 : Cond.fieldLink "WeekBoats$LockQueue" 28 "WeekBoats$LockQueue" "waitAsCome" "I" ∈ lw_gd := wmP (i := 422) (by decide +kernel) rfl
theorem wm_423 : Cond.fieldLink "WeekBoats" 252 "WeekBoats$LockQueue" "waitAsCome" "I" ∈ lw_gd := wmP (i := 423) (by decide +kernel) rfl
theorem wm_424 : Cond.fieldLink "WeekBoats$LockQueue" 31 "WeekBoats$LockQueue" "bestWait" "I" ∈ lw_gd := wmP (i := 424) (by decide +kernel) rfl
theorem wm_425 : Cond.fieldLink "WeekBoats" 255 "WeekBoats$LockQueue" "bestWait" "I" ∈ lw_gd := wmP (i := 425) (by decide +kernel) rfl
theorem wm_426 : Cond.fieldLink "WeekBoats$LockQueue" 18 "WeekBoats$LockQueue" "order" "[I" ∈ lw_gd := wmP (i := 426) (by decide +kernel) rfl
theorem wm_427 : Cond.fieldLink "WeekBoats$LockQueue" 21 "WeekBoats$LockQueue" "best" "[I" ∈ lw_gd := wmP (i := 427) (by decide +kernel) rfl
theorem wm_446 : Cond.instanceMethod ⟨"WeekBoats$Bookings", "<init>", "()V"⟩ ∈ lw_gd := wmP (i := 446) (by decide +kernel) rfl
theorem wm_447 : Cond.code ⟨"WeekBoats$Bookings", "<init>", "()V"⟩ prog_3_method_1_code 1 none ∈ lw_gd := wmP (i := 447) (by decide +kernel) rfl
theorem wm_448 : Cond.methodLink "WeekBoats$Bookings" 3 ⟨"java/lang/Object", "<init>", "()V"⟩ ∈ lw_gd := wmP (i := 448) (by decide +kernel) rfl
theorem wm_449 : Cond.fieldLink "WeekBoats$Bookings" 9 "WeekBoats$Bookings" "from" "[I" ∈ lw_gd := wmP (i := 449) (by decide +kernel) rfl
theorem wm_450 : Cond.fieldLink "WeekBoats$Bookings" 15 "WeekBoats$Bookings" "to" "[I" ∈ lw_gd := wmP (i := 450) (by decide +kernel) rfl
theorem wm_451 : Cond.fieldLink "WeekBoats$Bookings" 18 "WeekBoats$Bookings" "week" "[I" ∈ lw_gd := wmP (i := 451) (by decide +kernel) rfl
theorem wm_452 : Cond.fieldLink "WeekBoats$Bookings" 21 "WeekBoats$Bookings" "berths" "[I" ∈ lw_gd := wmP (i := 452) (by decide +kernel) rfl
theorem wm_453 : Cond.fieldLink "WeekBoats$Bookings" 48 "WeekBoats$Bookings" "count" "I" ∈ lw_gd := wmP (i := 453) (by decide +kernel) rfl
theorem wm_454 : Cond.fieldLink "WeekBoats" 283 "WeekBoats$Bookings" "count" "I" ∈ lw_gd := wmP (i := 454) (by decide +kernel) rfl
theorem wm_455 : Cond.fieldLink "WeekBoats$Bookings" 24 "WeekBoats$Bookings" "inOrder" "[I" ∈ lw_gd := wmP (i := 455) (by decide +kernel) rfl
theorem wm_456 : Cond.fieldLink "WeekBoats$Bookings" 27 "WeekBoats$Bookings" "boatBerths" "[I" ∈ lw_gd := wmP (i := 456) (by decide +kernel) rfl
theorem wm_457 : Cond.fieldLink "WeekBoats$Bookings" 30 "WeekBoats$Bookings" "boatHome" "[I" ∈ lw_gd := wmP (i := 457) (by decide +kernel) rfl
theorem wm_458 : Cond.fieldLink "WeekBoats$Bookings" 33 "WeekBoats$Bookings" "boatAt" "[I" ∈ lw_gd := wmP (i := 458) (by decide +kernel) rfl
theorem wm_459 : Cond.fieldLink "WeekBoats$Bookings" 36 "WeekBoats$Bookings" "boatWeek" "[I" ∈ lw_gd := wmP (i := 459) (by decide +kernel) rfl
theorem wm_460 : Cond.fieldLink "WeekBoats$Bookings" 64 "WeekBoats$Bookings" "asked" "I" ∈ lw_gd := wmP (i := 460) (by decide +kernel) rfl
theorem wm_461 : Cond.fieldLink "WeekBoats$Bookings" 52 "WeekBoats$Bookings" "settled" "I" ∈ lw_gd := wmP (i := 461) (by decide +kernel) rfl
theorem wm_462 : Cond.fieldLink "WeekBoats$Bookings" 39 "WeekBoats$Bookings" "hope" "[I" ∈ lw_gd := wmP (i := 462) (by decide +kernel) rfl
theorem wm_463 : Cond.fieldLink "WeekBoats$Bookings" 42 "WeekBoats$Bookings" "boatOf" "[I" ∈ lw_gd := wmP (i := 463) (by decide +kernel) rfl
theorem wm_464 : Cond.fieldLink "WeekBoats$Bookings" 45 "WeekBoats$Bookings" "bestBoat" "[I" ∈ lw_gd := wmP (i := 464) (by decide +kernel) rfl
theorem wm_465 : Cond.fieldLink "WeekBoats" 284 "WeekBoats$Bookings" "bestBoat" "[I" ∈ lw_gd := wmP (i := 465) (by decide +kernel) rfl
theorem wm_466 : Cond.fieldLink "WeekBoats$Bookings" 67 "WeekBoats$Bookings" "bestServed" "I" ∈ lw_gd := wmP (i := 466) (by decide +kernel) rfl
theorem wm_467 : Cond.fieldLink "WeekBoats" 277 "WeekBoats$Bookings" "bestServed" "I" ∈ lw_gd := wmP (i := 467) (by decide +kernel) rfl
theorem wm_468 : Cond.fieldLink "WeekBoats$Bookings" 70 "WeekBoats$Bookings" "bestHome" "I" ∈ lw_gd := wmP (i := 468) (by decide +kernel) rfl
theorem wm_469 : Cond.fieldLink "WeekBoats" 280 "WeekBoats$Bookings" "bestHome" "I" ∈ lw_gd := wmP (i := 469) (by decide +kernel) rfl
theorem wm_508 : Cond.instanceMethod ⟨"WeekBoats$Yard", "<init>", "()V"⟩ ∈ lw_gd := wmP (i := 508) (by decide +kernel) rfl
theorem wm_509 : Cond.code ⟨"WeekBoats$Yard", "<init>", "()V"⟩ prog_12_method_1_code 1 none ∈ lw_gd := wmP (i := 509) (by decide +kernel) rfl
theorem wm_510 : Cond.methodLink "WeekBoats$Yard" 3 ⟨"java/lang/Object", "<init>", "()V"⟩ ∈ lw_gd := wmP (i := 510) (by decide +kernel) rfl
theorem wm_511 : Cond.fieldLink "WeekBoats$Yard" 9 "WeekBoats$Yard" "date" "[I" ∈ lw_gd := wmP (i := 511) (by decide +kernel) rfl
theorem wm_512 : Cond.fieldLink "WeekBoats$Yard" 15 "WeekBoats$Yard" "days" "[I" ∈ lw_gd := wmP (i := 512) (by decide +kernel) rfl
theorem wm_513 : Cond.fieldLink "WeekBoats$Yard" 46 "WeekBoats$Yard" "docked" "I" ∈ lw_gd := wmP (i := 513) (by decide +kernel) rfl
theorem wm_514 : Cond.fieldLink "WeekBoats" 308 "WeekBoats$Yard" "docked" "I" ∈ lw_gd := wmP (i := 514) (by decide +kernel) rfl
theorem wm_515 : Cond.fieldLink "WeekBoats$Yard" 18 "WeekBoats$Yard" "dockBoat" "[I" ∈ lw_gd := wmP (i := 515) (by decide +kernel) rfl
theorem wm_516 : Cond.fieldLink "WeekBoats$Yard" 21 "WeekBoats$Yard" "dockLate" "[I" ∈ lw_gd := wmP (i := 516) (by decide +kernel) rfl
theorem wm_517 : Cond.fieldLink "WeekBoats" 302 "WeekBoats$Yard" "dockLate" "[I" ∈ lw_gd := wmP (i := 517) (by decide +kernel) rfl
theorem wm_518 : Cond.fieldLink "WeekBoats$Yard" 24 "WeekBoats$Yard" "dockSum" "[I" ∈ lw_gd := wmP (i := 518) (by decide +kernel) rfl
theorem wm_519 : Cond.fieldLink "WeekBoats" 305 "WeekBoats$Yard" "dockSum" "[I" ∈ lw_gd := wmP (i := 519) (by decide +kernel) rfl
theorem wm_520 : Cond.fieldLink "WeekBoats$Yard" 27 "WeekBoats$Yard" "dockNext" "[I" ∈ lw_gd := wmP (i := 520) (by decide +kernel) rfl
theorem wm_521 : Cond.fieldLink "WeekBoats$Yard" 61 "WeekBoats$Yard" "jobs" "I" ∈ lw_gd := wmP (i := 521) (by decide +kernel) rfl
theorem wm_522 : Cond.fieldLink "WeekBoats" 314 "WeekBoats$Yard" "jobs" "I" ∈ lw_gd := wmP (i := 522) (by decide +kernel) rfl
theorem wm_523 : Cond.fieldLink "WeekBoats$Yard" 30 "WeekBoats$Yard" "minutes" "[I" ∈ lw_gd := wmP (i := 523) (by decide +kernel) rfl
theorem wm_524 : Cond.fieldLink "WeekBoats$Yard" 33 "WeekBoats$Yard" "handEnd" "[I" ∈ lw_gd := wmP (i := 524) (by decide +kernel) rfl
theorem wm_525 : Cond.fieldLink "WeekBoats$Yard" 36 "WeekBoats$Yard" "hand" "[I" ∈ lw_gd := wmP (i := 525) (by decide +kernel) rfl
theorem wm_526 : Cond.fieldLink "WeekBoats$Yard" 39 "WeekBoats$Yard" "bestHand" "[I" ∈ lw_gd := wmP (i := 526) (by decide +kernel) rfl
theorem wm_527 : Cond.fieldLink "WeekBoats" 335 "WeekBoats$Yard" "bestHand" "[I" ∈ lw_gd := wmP (i := 527) (by decide +kernel) rfl
theorem wm_528 : Cond.fieldLink "WeekBoats$Yard" 85 "WeekBoats$Yard" "bestEnd" "I" ∈ lw_gd := wmP (i := 528) (by decide +kernel) rfl
theorem wm_529 : Cond.fieldLink "WeekBoats" 332 "WeekBoats$Yard" "bestEnd" "I" ∈ lw_gd := wmP (i := 529) (by decide +kernel) rfl
theorem wm_530 : Cond.fieldLink "WeekBoats$Yard" 70 "WeekBoats$Yard" "workedEnd" "I" ∈ lw_gd := wmP (i := 530) (by decide +kernel) rfl
theorem wm_531 : Cond.fieldLink "WeekBoats" 323 "WeekBoats$Yard" "workedEnd" "I" ∈ lw_gd := wmP (i := 531) (by decide +kernel) rfl
theorem wm_532 : Cond.fieldLink "WeekBoats$Yard" 73 "WeekBoats$Yard" "over" "I" ∈ lw_gd := wmP (i := 532) (by decide +kernel) rfl
theorem wm_533 : Cond.fieldLink "WeekBoats" 326 "WeekBoats$Yard" "over" "I" ∈ lw_gd := wmP (i := 533) (by decide +kernel) rfl
theorem wm_567 : Cond.methodLink "WeekBoats" 85 ⟨"WeekBoats$Vans", "<init>", "(LWeekBoats$Canal;)V"⟩ ∈ lw_gd := wmP (i := 567) (by decide +kernel) rfl
theorem wm_568 : Cond.instanceMethod ⟨"WeekBoats$Vans", "<init>", "(LWeekBoats$Canal;)V"⟩ ∈ lw_gd := wmP (i := 568) (by decide +kernel) rfl
theorem wm_569 : Cond.code ⟨"WeekBoats$Vans", "<init>", "(LWeekBoats$Canal;)V"⟩ prog_10_method_1_code 2 none ∈ lw_gd := wmP (i := 569) (by decide +kernel) rfl
theorem wm_570 : Cond.methodLink "WeekBoats$Vans" 3 ⟨"java/lang/Object", "<init>", "()V"⟩ ∈ lw_gd := wmP (i := 570) (by decide +kernel) rfl
theorem wm_571 : Cond.fieldLink "WeekBoats$Vans" 36 "WeekBoats$Vans" "canal" "LWeekBoats$Canal;" ∈ lw_gd := wmP (i := 571) (by decide +kernel) rfl
theorem wm_572 : Cond.fieldLink "WeekBoats$Vans" 9 "WeekBoats$Vans" "weight" "[I" ∈ lw_gd := wmP (i := 572) (by decide +kernel) rfl
theorem wm_573 : Cond.fieldLink "WeekBoats" 338 "WeekBoats$Vans" "weight" "[I" ∈ lw_gd := wmP (i := 573) (by decide +kernel) rfl
theorem wm_574 : Cond.fieldLink "WeekBoats$Vans" 15 "WeekBoats$Vans" "along" "[I" ∈ lw_gd := wmP (i := 574) (by decide +kernel) rfl
theorem wm_575 : Cond.fieldLink "WeekBoats$Vans" 64 "WeekBoats$Vans" "couple" "I" ∈ lw_gd := wmP (i := 575) (by decide +kernel) rfl
theorem wm_576 : Cond.fieldLink "WeekBoats" 356 "WeekBoats$Vans" "couple" "I" ∈ lw_gd := wmP (i := 576) (by decide +kernel) rfl
theorem wm_577 : Cond.fieldLink "WeekBoats$Vans" 68 "WeekBoats$Vans" "coupleSum" "I" ∈ lw_gd := wmP (i := 577) (by decide +kernel) rfl
theorem wm_578 : Cond.fieldLink "WeekBoats" 359 "WeekBoats$Vans" "coupleSum" "I" ∈ lw_gd := wmP (i := 578) (by decide +kernel) rfl
theorem wm_579 : Cond.fieldLink "WeekBoats$Vans" 71 "WeekBoats$Vans" "calls" "I" ∈ lw_gd := wmP (i := 579) (by decide +kernel) rfl
theorem wm_580 : Cond.fieldLink "WeekBoats" 362 "WeekBoats$Vans" "calls" "I" ∈ lw_gd := wmP (i := 580) (by decide +kernel) rfl
theorem wm_581 : Cond.fieldLink "WeekBoats$Vans" 18 "WeekBoats$Vans" "callMinute" "[I" ∈ lw_gd := wmP (i := 581) (by decide +kernel) rfl
theorem wm_582 : Cond.fieldLink "WeekBoats$Vans" 21 "WeekBoats$Vans" "callPoint" "[I" ∈ lw_gd := wmP (i := 582) (by decide +kernel) rfl
theorem wm_583 : Cond.fieldLink "WeekBoats$Vans" 24 "WeekBoats$Vans" "callWork" "[I" ∈ lw_gd := wmP (i := 583) (by decide +kernel) rfl
theorem wm_584 : Cond.fieldLink "WeekBoats$Vans" 27 "WeekBoats$Vans" "taker" "[I" ∈ lw_gd := wmP (i := 584) (by decide +kernel) rfl
theorem wm_585 : Cond.fieldLink "WeekBoats$Vans" 30 "WeekBoats$Vans" "vanAt" "[I" ∈ lw_gd := wmP (i := 585) (by decide +kernel) rfl
theorem wm_586 : Cond.fieldLink "WeekBoats$Vans" 33 "WeekBoats$Vans" "vanFree" "[I" ∈ lw_gd := wmP (i := 586) (by decide +kernel) rfl
theorem wm_587 : Cond.fieldLink "WeekBoats$Vans" 80 "WeekBoats$Vans" "waitSum" "I" ∈ lw_gd := wmP (i := 587) (by decide +kernel) rfl
theorem wm_588 : Cond.fieldLink "WeekBoats" 372 "WeekBoats$Vans" "waitSum" "I" ∈ lw_gd := wmP (i := 588) (by decide +kernel) rfl
theorem wm_589 : Cond.fieldLink "WeekBoats$Vans" 83 "WeekBoats$Vans" "waitLongest" "I" ∈ lw_gd := wmP (i := 589) (by decide +kernel) rfl
theorem wm_590 : Cond.fieldLink "WeekBoats" 375 "WeekBoats$Vans" "waitLongest" "I" ∈ lw_gd := wmP (i := 590) (by decide +kernel) rfl
theorem wm_591 : Cond.fieldLink "WeekBoats$Vans" 86 "WeekBoats$Vans" "lastDone" "I" ∈ lw_gd := wmP (i := 591) (by decide +kernel) rfl
theorem wm_592 : Cond.fieldLink "WeekBoats" 378 "WeekBoats$Vans" "lastDone" "I" ∈ lw_gd := wmP (i := 592) (by decide +kernel) rfl
theorem wm_627 : Cond.instanceMethod ⟨"WeekBoats$Rain", "<init>", "()V"⟩ ∈ lw_gd := wmP (i := 627) (by decide +kernel) rfl
theorem wm_628 : Cond.code ⟨"WeekBoats$Rain", "<init>", "()V"⟩ prog_7_method_1_code 1 none ∈ lw_gd := wmP (i := 628) (by decide +kernel) rfl
theorem wm_629 : Cond.methodLink "WeekBoats$Rain" 3 ⟨"java/lang/Object", "<init>", "()V"⟩ ∈ lw_gd := wmP (i := 629) (by decide +kernel) rfl
theorem wm_630 : Cond.fieldLink "WeekBoats$Rain" 9 "WeekBoats$Rain" "now" "[I" ∈ lw_gd := wmP (i := 630) (by decide +kernel) rfl
theorem wm_631 : Cond.fieldLink "WeekBoats$Rain" 15 "WeekBoats$Rain" "then" "[I" ∈ lw_gd := wmP (i := 631) (by decide +kernel) rfl
theorem wm_632 : Cond.fieldLink "WeekBoats$Rain" 25 "WeekBoats$Rain" "kept" "I" ∈ lw_gd := wmP (i := 632) (by decide +kernel) rfl
theorem wm_633 : Cond.fieldLink "WeekBoats" 394 "WeekBoats$Rain" "kept" "I" ∈ lw_gd := wmP (i := 633) (by decide +kernel) rfl
theorem wm_641 : Cond.fieldLink "WeekBoats" 12 "WeekBoats" "canal" "LWeekBoats$Canal;" ∈ lw_gd := wmP (i := 641) (by decide +kernel) rfl
theorem wm_642 : Cond.fieldLink "WeekBoats" 19 "WeekBoats" "ruling" "LWeekBoats$Rules;" ∈ lw_gd := wmP (i := 642) (by decide +kernel) rfl
theorem wm_643 : Cond.fieldLink "WeekBoats" 23 "WeekBoats" "draft" "LWeekBoats$Rules;" ∈ lw_gd := wmP (i := 643) (by decide +kernel) rfl
theorem wm_644 : Cond.fieldLink "WeekBoats" 31 "WeekBoats" "parser" "LWeekBoats$Parser;" ∈ lw_gd := wmP (i := 644) (by decide +kernel) rfl
theorem wm_645 : Cond.fieldLink "WeekBoats" 40 "WeekBoats" "voyage" "LWeekBoats$Voyage;" ∈ lw_gd := wmP (i := 645) (by decide +kernel) rfl
theorem wm_646 : Cond.fieldLink "WeekBoats" 49 "WeekBoats" "boats" "LWeekBoats$Boats;" ∈ lw_gd := wmP (i := 646) (by decide +kernel) rfl
theorem wm_647 : Cond.fieldLink "WeekBoats" 58 "WeekBoats" "trips" "LWeekBoats$Trips;" ∈ lw_gd := wmP (i := 647) (by decide +kernel) rfl
theorem wm_648 : Cond.fieldLink "WeekBoats" 65 "WeekBoats" "waiting" "LWeekBoats$LockQueue;" ∈ lw_gd := wmP (i := 648) (by decide +kernel) rfl
theorem wm_649 : Cond.fieldLink "WeekBoats" 72 "WeekBoats" "bookings" "LWeekBoats$Bookings;" ∈ lw_gd := wmP (i := 649) (by decide +kernel) rfl
theorem wm_650 : Cond.fieldLink "WeekBoats" 79 "WeekBoats" "yard" "LWeekBoats$Yard;" ∈ lw_gd := wmP (i := 650) (by decide +kernel) rfl
theorem wm_651 : Cond.fieldLink "WeekBoats" 88 "WeekBoats" "roads" "LWeekBoats$Vans;" ∈ lw_gd := wmP (i := 651) (by decide +kernel) rfl
theorem wm_652 : Cond.fieldLink "WeekBoats" 95 "WeekBoats" "rains" "LWeekBoats$Rain;" ∈ lw_gd := wmP (i := 652) (by decide +kernel) rfl
theorem wm_678 : Cond.methodLink "WeekBoatsLaw" 13 ⟨"WeekBoats", "stretch", "(IIII)Z"⟩ ∈ lw_gd := wmP (i := 678) (by decide +kernel) rfl
theorem wm_679 : Cond.instanceMethod ⟨"WeekBoats", "stretch", "(IIII)Z"⟩ ∈ lw_gd := wmP (i := 679) (by decide +kernel) rfl
theorem wm_680 : Cond.selects "WeekBoats" ⟨"WeekBoats", "stretch", "(IIII)Z"⟩ ⟨"WeekBoats", "stretch", "(IIII)Z"⟩ ∈ lw_gd := wmP (i := 680) (by decide +kernel) rfl
theorem wm_681 : Cond.code ⟨"WeekBoats", "stretch", "(IIII)Z"⟩ prog_1_method_9_code 5 (some .boolean) ∈ lw_gd := wmP (i := 681) (by decide +kernel) rfl
theorem wm_682 : Cond.methodLink "WeekBoats" 99 ⟨"WeekBoats", "within", "(III)Z"⟩ ∈ lw_gd := wmP (i := 682) (by decide +kernel) rfl
theorem wm_683 : Cond.static ⟨"WeekBoats", "within", "(III)Z"⟩ ∈ lw_gd := wmP (i := 683) (by decide +kernel) rfl
theorem wm_684 : Cond.code ⟨"WeekBoats", "within", "(III)Z"⟩ prog_1_method_2_code 3 (some .boolean) ∈ lw_gd := wmP (i := 684) (by decide +kernel) rfl
theorem wm_685 : Cond.methodLink "WeekBoatsLaw" 18 ⟨"WeekBoats", "water", "(I)Z"⟩ ∈ lw_gd := wmP (i := 685) (by decide +kernel) rfl
theorem wm_686 : Cond.instanceMethod ⟨"WeekBoats", "water", "(I)Z"⟩ ∈ lw_gd := wmP (i := 686) (by decide +kernel) rfl
theorem wm_687 : Cond.selects "WeekBoats" ⟨"WeekBoats", "water", "(I)Z"⟩ ⟨"WeekBoats", "water", "(I)Z"⟩ ∈ lw_gd := wmP (i := 687) (by decide +kernel) rfl
theorem wm_688 : Cond.code ⟨"WeekBoats", "water", "(I)Z"⟩ prog_1_method_10_code 2 (some .boolean) ∈ lw_gd := wmP (i := 688) (by decide +kernel) rfl
theorem wm_689 : Cond.methodLink "WeekBoats" 130 ⟨"WeekBoats$Voyage", "learnHours", "()V"⟩ ∈ lw_gd := wmP (i := 689) (by decide +kernel) rfl
theorem wm_690 : Cond.instanceMethod ⟨"WeekBoats$Voyage", "learnHours", "()V"⟩ ∈ lw_gd := wmP (i := 690) (by decide +kernel) rfl
theorem wm_691 : Cond.selects "WeekBoats$Voyage" ⟨"WeekBoats$Voyage", "learnHours", "()V"⟩ ⟨"WeekBoats$Voyage", "learnHours", "()V"⟩ ∈ lw_gd := wmP (i := 691) (by decide +kernel) rfl
theorem wm_692 : Cond.code ⟨"WeekBoats$Voyage", "learnHours", "()V"⟩ prog_11_method_2_code 3 none ∈ lw_gd := wmP (i := 692) (by decide +kernel) rfl
theorem wm_693 : Cond.methodLink "WeekBoats$Voyage" 44 ⟨"WeekBoats$Rules", "askDay", "(II)V"⟩ ∈ lw_gd := wmP (i := 693) (by decide +kernel) rfl
theorem wm_694 : Cond.instanceMethod ⟨"WeekBoats$Rules", "askDay", "(II)V"⟩ ∈ lw_gd := wmP (i := 694) (by decide +kernel) rfl
theorem wm_695 : Cond.selects "WeekBoats$Rules" ⟨"WeekBoats$Rules", "askDay", "(II)V"⟩ ⟨"WeekBoats$Rules", "askDay", "(II)V"⟩ ∈ lw_gd := wmP (i := 695) (by decide +kernel) rfl
theorem wm_696 : Cond.code ⟨"WeekBoats$Rules", "askDay", "(II)V"⟩ prog_8_method_7_code 3 none ∈ lw_gd := wmP (i := 696) (by decide +kernel) rfl
theorem wm_697 : Cond.methodLink "WeekBoats$Rules" 58 ⟨"java/util/Arrays", "fill", "([II)V"⟩ ∈ lw_gd := wmP (i := 697) (by decide +kernel) rfl
theorem wm_698 : Cond.methodLink "WeekBoats$Voyage" 50 ⟨"WeekBoats$Rules", "serving", "(I)I"⟩ ∈ lw_gd := wmP (i := 698) (by decide +kernel) rfl
theorem wm_699 : Cond.instanceMethod ⟨"WeekBoats$Rules", "serving", "(I)I"⟩ ∈ lw_gd := wmP (i := 699) (by decide +kernel) rfl
theorem wm_700 : Cond.selects "WeekBoats$Rules" ⟨"WeekBoats$Rules", "serving", "(I)I"⟩ ⟨"WeekBoats$Rules", "serving", "(I)I"⟩ ∈ lw_gd := wmP (i := 700) (by decide +kernel) rfl
theorem wm_701 : Cond.code ⟨"WeekBoats$Rules", "serving", "(I)I"⟩ prog_8_method_9_code 3 (some .int) ∈ lw_gd := wmP (i := 701) (by decide +kernel) rfl
theorem wm_702 : Cond.methodLink "WeekBoats$Rules" 74 ⟨"WeekBoats$Rules", "run", "(II)I"⟩ ∈ lw_gd := wmP (i := 702) (by decide +kernel) rfl
theorem wm_704 : Cond.instanceMethod ⟨"WeekBoats$Rules", "run", "(II)I"⟩ ∈ lw_gd := wmP (i := 704) (by decide +kernel) rfl
theorem wm_705 : Cond.code ⟨"WeekBoats$Rules", "run", "(II)I"⟩ prog_8_method_11_code 6 (some .int) ∈ lw_gd := wmP (i := 705) (by decide +kernel) rfl
theorem wm_706 : Cond.methodLink "WeekBoats$Rules" 82 ⟨"WeekBoats$Rules", "askedOf", "(I)I"⟩ ∈ lw_gd := wmP (i := 706) (by decide +kernel) rfl
theorem wm_708 : Cond.instanceMethod ⟨"WeekBoats$Rules", "askedOf", "(I)I"⟩ ∈ lw_gd := wmP (i := 708) (by decide +kernel) rfl
theorem wm_709 : Cond.code ⟨"WeekBoats$Rules", "askedOf", "(I)I"⟩ prog_8_method_12_code 2 (some .int) ∈ lw_gd := wmP (i := 709) (by decide +kernel) rfl
theorem wm_711 : Cond.methodLink "WeekBoats$Rules" 86 ⟨"WeekBoats$Rules", "alone", "(III)I"⟩ ∈ lw_gd := wmP (i := 711) (by decide +kernel) rfl
theorem wm_712 : Cond.static ⟨"WeekBoats$Rules", "alone", "(III)I"⟩ ∈ lw_gd := wmP (i := 712) (by decide +kernel) rfl
theorem wm_713 : Cond.code ⟨"WeekBoats$Rules", "alone", "(III)I"⟩ prog_8_method_13_code 3 (some .int) ∈ lw_gd := wmP (i := 713) (by decide +kernel) rfl
theorem wm_714 : Cond.methodLink "WeekBoats$Rules" 90 ⟨"WeekBoats$Rules", "both", "(III)I"⟩ ∈ lw_gd := wmP (i := 714) (by decide +kernel) rfl
theorem wm_715 : Cond.static ⟨"WeekBoats$Rules", "both", "(III)I"⟩ ∈ lw_gd := wmP (i := 715) (by decide +kernel) rfl
theorem wm_716 : Cond.code ⟨"WeekBoats$Rules", "both", "(III)I"⟩ prog_8_method_14_code 3 (some .int) ∈ lw_gd := wmP (i := 716) (by decide +kernel) rfl
theorem wm_717 : Cond.methodLink "WeekBoatsLaw" 23 ⟨"WeekBoats", "stoppage", "(III)I"⟩ ∈ lw_gd := wmP (i := 717) (by decide +kernel) rfl
theorem wm_718 : Cond.instanceMethod ⟨"WeekBoats", "stoppage", "(III)I"⟩ ∈ lw_gd := wmP (i := 718) (by decide +kernel) rfl
theorem wm_719 : Cond.selects "WeekBoats" ⟨"WeekBoats", "stoppage", "(III)I"⟩ ⟨"WeekBoats", "stoppage", "(III)I"⟩ ∈ lw_gd := wmP (i := 719) (by decide +kernel) rfl
theorem wm_720 : Cond.code ⟨"WeekBoats", "stoppage", "(III)I"⟩ prog_1_method_11_code 4 (some .int) ∈ lw_gd := wmP (i := 720) (by decide +kernel) rfl
theorem wm_721 : Cond.methodLink "WeekBoats" 133 ⟨"WeekBoats$Canal", "reopen", "()V"⟩ ∈ lw_gd := wmP (i := 721) (by decide +kernel) rfl
theorem wm_722 : Cond.instanceMethod ⟨"WeekBoats$Canal", "reopen", "()V"⟩ ∈ lw_gd := wmP (i := 722) (by decide +kernel) rfl
theorem wm_723 : Cond.selects "WeekBoats$Canal" ⟨"WeekBoats$Canal", "reopen", "()V"⟩ ⟨"WeekBoats$Canal", "reopen", "()V"⟩ ∈ lw_gd := wmP (i := 723) (by decide +kernel) rfl
theorem wm_724 : Cond.code ⟨"WeekBoats$Canal", "reopen", "()V"⟩ prog_4_method_3_code 1 none ∈ lw_gd := wmP (i := 724) (by decide +kernel) rfl
theorem wm_725 : Cond.methodLink "WeekBoats" 139 ⟨"WeekBoats$Canal", "stop", "(III)V"⟩ ∈ lw_gd := wmP (i := 725) (by decide +kernel) rfl
theorem wm_726 : Cond.instanceMethod ⟨"WeekBoats$Canal", "stop", "(III)V"⟩ ∈ lw_gd := wmP (i := 726) (by decide +kernel) rfl
theorem wm_727 : Cond.selects "WeekBoats$Canal" ⟨"WeekBoats$Canal", "stop", "(III)V"⟩ ⟨"WeekBoats$Canal", "stop", "(III)V"⟩ ∈ lw_gd := wmP (i := 727) (by decide +kernel) rfl
theorem wm_728 : Cond.code ⟨"WeekBoats$Canal", "stop", "(III)V"⟩ prog_4_method_2_code 5 none ∈ lw_gd := wmP (i := 728) (by decide +kernel) rfl
theorem wm_729 : Cond.methodLink "WeekBoatsLaw" 28 ⟨"WeekBoats", "boat", "(IIII)I"⟩ ∈ lw_gd := wmP (i := 729) (by decide +kernel) rfl
theorem wm_730 : Cond.instanceMethod ⟨"WeekBoats", "boat", "(IIII)I"⟩ ∈ lw_gd := wmP (i := 730) (by decide +kernel) rfl
theorem wm_731 : Cond.selects "WeekBoats" ⟨"WeekBoats", "boat", "(IIII)I"⟩ ⟨"WeekBoats", "boat", "(IIII)I"⟩ ∈ lw_gd := wmP (i := 731) (by decide +kernel) rfl
theorem wm_732 : Cond.code ⟨"WeekBoats", "boat", "(IIII)I"⟩ prog_1_method_12_code 5 (some .int) ∈ lw_gd := wmP (i := 732) (by decide +kernel) rfl
theorem wm_733 : Cond.methodLink "WeekBoats" 143 ⟨"WeekBoats", "isBerths", "(I)Z"⟩ ∈ lw_gd := wmP (i := 733) (by decide +kernel) rfl
theorem wm_734 : Cond.static ⟨"WeekBoats", "isBerths", "(I)Z"⟩ ∈ lw_gd := wmP (i := 734) (by decide +kernel) rfl
theorem wm_735 : Cond.code ⟨"WeekBoats", "isBerths", "(I)Z"⟩ prog_1_method_6_code 1 (some .boolean) ∈ lw_gd := wmP (i := 735) (by decide +kernel) rfl
theorem wm_736 : Cond.methodLink "WeekBoats" 111 ⟨"WeekBoats", "isPoint", "(I)Z"⟩ ∈ lw_gd := wmP (i := 736) (by decide +kernel) rfl
theorem wm_737 : Cond.static ⟨"WeekBoats", "isPoint", "(I)Z"⟩ ∈ lw_gd := wmP (i := 737) (by decide +kernel) rfl
theorem wm_738 : Cond.code ⟨"WeekBoats", "isPoint", "(I)Z"⟩ prog_1_method_3_code 1 (some .boolean) ∈ lw_gd := wmP (i := 738) (by decide +kernel) rfl
theorem wm_739 : Cond.methodLink "WeekBoats" 146 ⟨"WeekBoats$Boats", "add", "(IIII)I"⟩ ∈ lw_gd := wmP (i := 739) (by decide +kernel) rfl
theorem wm_740 : Cond.instanceMethod ⟨"WeekBoats$Boats", "add", "(IIII)I"⟩ ∈ lw_gd := wmP (i := 740) (by decide +kernel) rfl
theorem wm_741 : Cond.selects "WeekBoats$Boats" ⟨"WeekBoats$Boats", "add", "(IIII)I"⟩ ⟨"WeekBoats$Boats", "add", "(IIII)I"⟩ ∈ lw_gd := wmP (i := 741) (by decide +kernel) rfl
theorem wm_742 : Cond.code ⟨"WeekBoats$Boats", "add", "(IIII)I"⟩ prog_2_method_2_code 5 (some .int) ∈ lw_gd := wmP (i := 742) (by decide +kernel) rfl
theorem wm_743 : Cond.methodLink "WeekBoatsLaw" 33 ⟨"WeekBoats", "feed", "(IIIII)I"⟩ ∈ lw_gd := wmP (i := 743) (by decide +kernel) rfl
theorem wm_744 : Cond.instanceMethod ⟨"WeekBoats", "feed", "(IIIII)I"⟩ ∈ lw_gd := wmP (i := 744) (by decide +kernel) rfl
theorem wm_745 : Cond.selects "WeekBoats" ⟨"WeekBoats", "feed", "(IIIII)I"⟩ ⟨"WeekBoats", "feed", "(IIIII)I"⟩ ∈ lw_gd := wmP (i := 745) (by decide +kernel) rfl
theorem wm_746 : Cond.code ⟨"WeekBoats", "feed", "(IIIII)I"⟩ prog_1_method_13_code 6 (some .int) ∈ lw_gd := wmP (i := 746) (by decide +kernel) rfl
theorem wm_747 : Cond.methodLink "WeekBoats" 153 ⟨"WeekBoats$Parser", "put", "(I)V"⟩ ∈ lw_gd := wmP (i := 747) (by decide +kernel) rfl
theorem wm_748 : Cond.instanceMethod ⟨"WeekBoats$Parser", "put", "(I)V"⟩ ∈ lw_gd := wmP (i := 748) (by decide +kernel) rfl
theorem wm_749 : Cond.selects "WeekBoats$Parser" ⟨"WeekBoats$Parser", "put", "(I)V"⟩ ⟨"WeekBoats$Parser", "put", "(I)V"⟩ ∈ lw_gd := wmP (i := 749) (by decide +kernel) rfl
theorem wm_750 : Cond.code ⟨"WeekBoats$Parser", "put", "(I)V"⟩ prog_6_method_2_code 3 none ∈ lw_gd := wmP (i := 750) (by decide +kernel) rfl
theorem wm_751 : Cond.methodLink "WeekBoatsLaw" 38 ⟨"WeekBoats", "end", "(I)Z"⟩ ∈ lw_gd := wmP (i := 751) (by decide +kernel) rfl
theorem wm_752 : Cond.instanceMethod ⟨"WeekBoats", "end", "(I)Z"⟩ ∈ lw_gd := wmP (i := 752) (by decide +kernel) rfl
theorem wm_753 : Cond.selects "WeekBoats" ⟨"WeekBoats", "end", "(I)Z"⟩ ⟨"WeekBoats", "end", "(I)Z"⟩ ∈ lw_gd := wmP (i := 753) (by decide +kernel) rfl
theorem wm_754 : Cond.code ⟨"WeekBoats", "end", "(I)Z"⟩ prog_1_method_14_code 2 (some .boolean) ∈ lw_gd := wmP (i := 754) (by decide +kernel) rfl
theorem wm_755 : Cond.methodLink "WeekBoatsLaw" 42 ⟨"WeekBoats", "rules", "()I"⟩ ∈ lw_gd := wmP (i := 755) (by decide +kernel) rfl
theorem wm_756 : Cond.instanceMethod ⟨"WeekBoats", "rules", "()I"⟩ ∈ lw_gd := wmP (i := 756) (by decide +kernel) rfl
theorem wm_757 : Cond.selects "WeekBoats" ⟨"WeekBoats", "rules", "()I"⟩ ⟨"WeekBoats", "rules", "()I"⟩ ∈ lw_gd := wmP (i := 757) (by decide +kernel) rfl
theorem wm_758 : Cond.code ⟨"WeekBoats", "rules", "()I"⟩ prog_1_method_15_code 2 (some .int) ∈ lw_gd := wmP (i := 758) (by decide +kernel) rfl
theorem wm_759 : Cond.methodLink "WeekBoats" 157 ⟨"WeekBoats$Parser", "read", "()I"⟩ ∈ lw_gd := wmP (i := 759) (by decide +kernel) rfl
theorem wm_760 : Cond.instanceMethod ⟨"WeekBoats$Parser", "read", "()I"⟩ ∈ lw_gd := wmP (i := 760) (by decide +kernel) rfl
theorem wm_761 : Cond.selects "WeekBoats$Parser" ⟨"WeekBoats$Parser", "read", "()I"⟩ ⟨"WeekBoats$Parser", "read", "()I"⟩ ∈ lw_gd := wmP (i := 761) (by decide +kernel) rfl
theorem wm_762 : Cond.code ⟨"WeekBoats$Parser", "read", "()I"⟩ prog_6_method_3_code 2 (some .int) ∈ lw_gd := wmP (i := 762) (by decide +kernel) rfl
theorem wm_763 : Cond.methodLink "WeekBoats$Parser" 38 ⟨"WeekBoats$Rules", "clear", "()V"⟩ ∈ lw_gd := wmP (i := 763) (by decide +kernel) rfl
theorem wm_764 : Cond.instanceMethod ⟨"WeekBoats$Rules", "clear", "()V"⟩ ∈ lw_gd := wmP (i := 764) (by decide +kernel) rfl
theorem wm_765 : Cond.selects "WeekBoats$Rules" ⟨"WeekBoats$Rules", "clear", "()V"⟩ ⟨"WeekBoats$Rules", "clear", "()V"⟩ ∈ lw_gd := wmP (i := 765) (by decide +kernel) rfl
theorem wm_766 : Cond.code ⟨"WeekBoats$Rules", "clear", "()V"⟩ prog_8_method_2_code 1 none ∈ lw_gd := wmP (i := 766) (by decide +kernel) rfl
theorem wm_767 : Cond.methodLink "WeekBoats$Parser" 43 ⟨"WeekBoats$Parser", "scan", "()V"⟩ ∈ lw_gd := wmP (i := 767) (by decide +kernel) rfl
theorem wm_769 : Cond.instanceMethod ⟨"WeekBoats$Parser", "scan", "()V"⟩ ∈ lw_gd := wmP (i := 769) (by decide +kernel) rfl
theorem wm_770 : Cond.code ⟨"WeekBoats$Parser", "scan", "()V"⟩ prog_6_method_4_code 5 none ∈ lw_gd := wmP (i := 770) (by decide +kernel) rfl
theorem wm_771 : Cond.methodLink "WeekBoats$Parser" 55 ⟨"WeekBoats$Parser", "isLetter", "(I)Z"⟩ ∈ lw_gd := wmP (i := 771) (by decide +kernel) rfl
theorem wm_772 : Cond.static ⟨"WeekBoats$Parser", "isLetter", "(I)Z"⟩ ∈ lw_gd := wmP (i := 772) (by decide +kernel) rfl
theorem wm_773 : Cond.code ⟨"WeekBoats$Parser", "isLetter", "(I)Z"⟩ prog_6_method_6_code 1 (some .boolean) ∈ lw_gd := wmP (i := 773) (by decide +kernel) rfl
theorem wm_775 : Cond.methodLink "WeekBoats$Parser" 59 ⟨"WeekBoats$Parser", "endOfWord", "(I)I"⟩ ∈ lw_gd := wmP (i := 775) (by decide +kernel) rfl
theorem wm_777 : Cond.instanceMethod ⟨"WeekBoats$Parser", "endOfWord", "(I)I"⟩ ∈ lw_gd := wmP (i := 777) (by decide +kernel) rfl
theorem wm_778 : Cond.code ⟨"WeekBoats$Parser", "endOfWord", "(I)I"⟩ prog_6_method_8_code 4 (some .int) ∈ lw_gd := wmP (i := 778) (by decide +kernel) rfl
theorem wm_779 : Cond.methodLink "WeekBoats$Parser" 63 ⟨"WeekBoats$Parser", "wordOf", "(II)I"⟩ ∈ lw_gd := wmP (i := 779) (by decide +kernel) rfl
theorem wm_781 : Cond.instanceMethod ⟨"WeekBoats$Parser", "wordOf", "(II)I"⟩ ∈ lw_gd := wmP (i := 781) (by decide +kernel) rfl
theorem wm_782 : Cond.code ⟨"WeekBoats$Parser", "wordOf", "(II)I"⟩ prog_6_method_11_code 6 (some .int) ∈ lw_gd := wmP (i := 782) (by decide +kernel) rfl
theorem wm_784 : Cond.methodLink "WeekBoats$Parser" 93 ⟨"java/lang/String", "length", "()I"⟩ ∈ lw_gd := wmP (i := 784) (by decide +kernel) rfl
theorem wm_785 : Cond.instanceMethod ⟨"java/lang/String", "length", "()I"⟩ ∈ lw_gd := wmP (i := 785) (by decide +kernel) rfl
theorem wm_786 : Cond.selects "java/lang/String" ⟨"java/lang/String", "length", "()I"⟩ ⟨"java/lang/String", "length", "()I"⟩ ∈ lw_gd := wmP (i := 786) (by decide +kernel) rfl
theorem wm_787 : Cond.code ⟨"java/lang/String", "length", "()I"⟩ prog_18_method_54_code 1 (some .int) ∈ lw_gd := wmP (i := 787) (by decide +kernel) rfl
theorem wm_788 : Cond.methodLink "java/lang/String" 335 ⟨"java/lang/String", "coder", "()B"⟩ ∈ lw_gd := wmP (i := 788) (by decide +kernel) rfl
theorem wm_789 : Cond.instanceMethod ⟨"java/lang/String", "coder", "()B"⟩ ∈ lw_gd := wmP (i := 789) (by decide +kernel) rfl
theorem wm_790 : Cond.selects "java/lang/String" ⟨"java/lang/String", "coder", "()B"⟩ ⟨"java/lang/String", "coder", "()B"⟩ ∈ lw_gd := wmP (i := 790) (by decide +kernel) rfl
theorem wm_791 : Cond.code ⟨"java/lang/String", "coder", "()B"⟩ prog_18_method_152_code 1 (some .byte) ∈ lw_gd := wmP (i := 791) (by decide +kernel) rfl
theorem wm_792 : Cond.fieldLink "java/lang/String" 38 "java/lang/String" "COMPACT_STRINGS" "Z" ∈ lw_gd := wmP (i := 792) (by decide +kernel) rfl
theorem wm_794 : Cond.methodLink "WeekBoats$Parser" 96 ⟨"java/lang/String", "charAt", "(I)C"⟩ ∈ lw_gd := wmP (i := 794) (by decide +kernel) rfl
theorem wm_795 : Cond.instanceMethod ⟨"java/lang/String", "charAt", "(I)C"⟩ ∈ lw_gd := wmP (i := 795) (by decide +kernel) rfl
theorem wm_796 : Cond.selects "java/lang/String" ⟨"java/lang/String", "charAt", "(I)C"⟩ ⟨"java/lang/String", "charAt", "(I)C"⟩ ∈ lw_gd := wmP (i := 796) (by decide +kernel) rfl
theorem wm_797 : Cond.code ⟨"java/lang/String", "charAt", "(I)C"⟩ prog_18_method_56_code 2 (some .char) ∈ lw_gd := wmP (i := 797) (by decide +kernel) rfl
theorem wm_798 : Cond.methodLink "java/lang/String" 492 ⟨"java/lang/String", "isLatin1", "()Z"⟩ ∈ lw_gd := wmP (i := 798) (by decide +kernel) rfl
theorem wm_799 : Cond.instanceMethod ⟨"java/lang/String", "isLatin1", "()Z"⟩ ∈ lw_gd := wmP (i := 799) (by decide +kernel) rfl
theorem wm_800 : Cond.selects "java/lang/String" ⟨"java/lang/String", "isLatin1", "()Z"⟩ ⟨"java/lang/String", "isLatin1", "()Z"⟩ ∈ lw_gd := wmP (i := 800) (by decide +kernel) rfl
theorem wm_801 : Cond.code ⟨"java/lang/String", "isLatin1", "()Z"⟩ prog_18_method_154_code 1 (some .boolean) ∈ lw_gd := wmP (i := 801) (by decide +kernel) rfl
theorem wm_802 : Cond.methodLink "java/lang/String" 495 ⟨"java/lang/StringLatin1", "charAt", "([BI)C"⟩ ∈ lw_gd := wmP (i := 802) (by decide +kernel) rfl
theorem wm_803 : Cond.static ⟨"java/lang/StringLatin1", "charAt", "([BI)C"⟩ ∈ lw_gd := wmP (i := 803) (by decide +kernel) rfl
theorem wm_804 : Cond.code ⟨"java/lang/StringLatin1", "charAt", "([BI)C"⟩ prog_19_method_2_code 2 (some .char) ∈ lw_gd := wmP (i := 804) (by decide +kernel) rfl
theorem wm_805 : Cond.methodLink "java/lang/StringLatin1" 9 ⟨"java/lang/String", "checkIndex", "(II)V"⟩ ∈ lw_gd := wmP (i := 805) (by decide +kernel) rfl
theorem wm_806 : Cond.static ⟨"java/lang/String", "checkIndex", "(II)V"⟩ ∈ lw_gd := wmP (i := 806) (by decide +kernel) rfl
theorem wm_807 : Cond.code ⟨"java/lang/String", "checkIndex", "(II)V"⟩ prog_18_method_155_code 2 none ∈ lw_gd := wmP (i := 807) (by decide +kernel) rfl
theorem wm_808 : Cond.fieldLink "java/lang/String" 1053 "jdk/internal/util/Preconditions" "SIOOBE_FORMATTER" "Ljava/util/function/BiFunction;" ∈ lw_gd := wmP (i := 808) (by decide +kernel) rfl
theorem wm_810 : Cond.methodLink "java/lang/String" 1059 ⟨"jdk/internal/util/Preconditions", "checkIndex", "(IILjava/util/function/BiFunction;)I"⟩ ∈ lw_gd := wmP (i := 810) (by decide +kernel) rfl
theorem wm_811 : Cond.static ⟨"jdk/internal/util/Preconditions", "checkIndex", "(IILjava/util/function/BiFunction;)I"⟩ ∈ lw_gd := wmP (i := 811) (by decide +kernel) rfl
theorem wm_812 : Cond.code ⟨"jdk/internal/util/Preconditions", "checkIndex", "(IILjava/util/function/BiFunction;)I"⟩ prog_23_method_11_code 3 (some .int) ∈ lw_gd := wmP (i := 812) (by decide +kernel) rfl
theorem wm_813 : Cond.methodLink "java/lang/String" 498 ⟨"java/lang/StringUTF16", "charAt", "([BI)C"⟩ ∈ lw_gd := wmP (i := 813) (by decide +kernel) rfl
theorem wm_814 : Cond.static ⟨"java/lang/StringUTF16", "charAt", "([BI)C"⟩ ∈ lw_gd := wmP (i := 814) (by decide +kernel) rfl
theorem wm_815 : Cond.code ⟨"java/lang/StringUTF16", "charAt", "([BI)C"⟩ prog_20_method_83_code 2 (some .char) ∈ lw_gd := wmP (i := 815) (by decide +kernel) rfl
theorem wm_816 : Cond.methodLink "java/lang/StringUTF16" 67 ⟨"java/lang/StringUTF16", "checkIndex", "(I[B)V"⟩ ∈ lw_gd := wmP (i := 816) (by decide +kernel) rfl
theorem wm_817 : Cond.static ⟨"java/lang/StringUTF16", "checkIndex", "(I[B)V"⟩ ∈ lw_gd := wmP (i := 817) (by decide +kernel) rfl
theorem wm_818 : Cond.code ⟨"java/lang/StringUTF16", "checkIndex", "(I[B)V"⟩ prog_20_method_91_code 2 none ∈ lw_gd := wmP (i := 818) (by decide +kernel) rfl
theorem wm_819 : Cond.methodLink "java/lang/StringUTF16" 48 ⟨"java/lang/StringUTF16", "length", "([B)I"⟩ ∈ lw_gd := wmP (i := 819) (by decide +kernel) rfl
theorem wm_820 : Cond.static ⟨"java/lang/StringUTF16", "length", "([B)I"⟩ ∈ lw_gd := wmP (i := 820) (by decide +kernel) rfl
theorem wm_821 : Cond.code ⟨"java/lang/StringUTF16", "length", "([B)I"⟩ prog_20_method_6_code 1 (some .int) ∈ lw_gd := wmP (i := 821) (by decide +kernel) rfl
theorem wm_822 : Cond.methodLink "java/lang/StringUTF16" 414 ⟨"java/lang/String", "checkIndex", "(II)V"⟩ ∈ lw_gd := wmP (i := 822) (by decide +kernel) rfl
theorem wm_823 : Cond.methodLink "java/lang/StringUTF16" 71 ⟨"java/lang/StringUTF16", "getChar", "([BI)C"⟩ ∈ lw_gd := wmP (i := 823) (by decide +kernel) rfl
theorem wm_824 : Cond.static ⟨"java/lang/StringUTF16", "getChar", "([BI)C"⟩ ∈ lw_gd := wmP (i := 824) (by decide +kernel) rfl
theorem wm_825 : Cond.code ⟨"java/lang/StringUTF16", "getChar", "([BI)C"⟩ prog_20_method_5_code 2 (some .char) ∈ lw_gd := wmP (i := 825) (by decide +kernel) rfl
theorem wm_826 : Cond.fieldLink "java/lang/StringUTF16" 44 "java/lang/StringUTF16" "$assertionsDisabled" "Z" ∈ lw_gd := wmP (i := 826) (by decide +kernel) rfl
theorem wm_828 : Cond.fieldLink "java/lang/StringUTF16" 59 "java/lang/StringUTF16" "HI_BYTE_SHIFT" "I" ∈ lw_gd := wmP (i := 828) (by decide +kernel) rfl
theorem wm_830 : Cond.fieldLink "java/lang/StringUTF16" 63 "java/lang/StringUTF16" "LO_BYTE_SHIFT" "I" ∈ lw_gd := wmP (i := 830) (by decide +kernel) rfl
theorem wm_832 : Cond.methodLink "WeekBoats$Parser" 100 ⟨"WeekBoats$Parser", "isSame", "(III)Z"⟩ ∈ lw_gd := wmP (i := 832) (by decide +kernel) rfl
theorem wm_834 : Cond.instanceMethod ⟨"WeekBoats$Parser", "isSame", "(III)Z"⟩ ∈ lw_gd := wmP (i := 834) (by decide +kernel) rfl
theorem wm_835 : Cond.code ⟨"WeekBoats$Parser", "isSame", "(III)Z"⟩ prog_6_method_12_code 5 (some .boolean) ∈ lw_gd := wmP (i := 835) (by decide +kernel) rfl
theorem wm_836 : Cond.methodLink "WeekBoats$Parser" 67 ⟨"WeekBoats$Parser", "add", "(II)V"⟩ ∈ lw_gd := wmP (i := 836) (by decide +kernel) rfl
theorem wm_838 : Cond.instanceMethod ⟨"WeekBoats$Parser", "add", "(II)V"⟩ ∈ lw_gd := wmP (i := 838) (by decide +kernel) rfl
theorem wm_839 : Cond.code ⟨"WeekBoats$Parser", "add", "(II)V"⟩ prog_6_method_5_code 3 none ∈ lw_gd := wmP (i := 839) (by decide +kernel) rfl
theorem wm_840 : Cond.methodLink "WeekBoats$Parser" 71 ⟨"WeekBoats$Parser", "isDigit", "(I)Z"⟩ ∈ lw_gd := wmP (i := 840) (by decide +kernel) rfl
theorem wm_841 : Cond.static ⟨"WeekBoats$Parser", "isDigit", "(I)Z"⟩ ∈ lw_gd := wmP (i := 841) (by decide +kernel) rfl
theorem wm_842 : Cond.code ⟨"WeekBoats$Parser", "isDigit", "(I)Z"⟩ prog_6_method_7_code 1 (some .boolean) ∈ lw_gd := wmP (i := 842) (by decide +kernel) rfl
theorem wm_843 : Cond.methodLink "WeekBoats$Parser" 74 ⟨"WeekBoats$Parser", "endOfDigits", "(I)I"⟩ ∈ lw_gd := wmP (i := 843) (by decide +kernel) rfl
theorem wm_845 : Cond.instanceMethod ⟨"WeekBoats$Parser", "endOfDigits", "(I)I"⟩ ∈ lw_gd := wmP (i := 845) (by decide +kernel) rfl
theorem wm_846 : Cond.code ⟨"WeekBoats$Parser", "endOfDigits", "(I)I"⟩ prog_6_method_9_code 4 (some .int) ∈ lw_gd := wmP (i := 846) (by decide +kernel) rfl
theorem wm_847 : Cond.methodLink "WeekBoats$Parser" 77 ⟨"WeekBoats$Parser", "numberOf", "(II)I"⟩ ∈ lw_gd := wmP (i := 847) (by decide +kernel) rfl
theorem wm_849 : Cond.instanceMethod ⟨"WeekBoats$Parser", "numberOf", "(II)I"⟩ ∈ lw_gd := wmP (i := 849) (by decide +kernel) rfl
theorem wm_850 : Cond.code ⟨"WeekBoats$Parser", "numberOf", "(II)I"⟩ prog_6_method_10_code 5 (some .int) ∈ lw_gd := wmP (i := 850) (by decide +kernel) rfl
theorem wm_852 : Cond.methodLink "WeekBoats$Parser" 82 ⟨"java/lang/String", "indexOf", "(I)I"⟩ ∈ lw_gd := wmP (i := 852) (by decide +kernel) rfl
theorem wm_853 : Cond.instanceMethod ⟨"java/lang/String", "indexOf", "(I)I"⟩ ∈ lw_gd := wmP (i := 853) (by decide +kernel) rfl
theorem wm_854 : Cond.selects "java/lang/String" ⟨"java/lang/String", "indexOf", "(I)I"⟩ ⟨"java/lang/String", "indexOf", "(I)I"⟩ ∈ lw_gd := wmP (i := 854) (by decide +kernel) rfl
theorem wm_855 : Cond.code ⟨"java/lang/String", "indexOf", "(I)I"⟩ prog_18_method_79_code 2 (some .int) ∈ lw_gd := wmP (i := 855) (by decide +kernel) rfl
theorem wm_856 : Cond.methodLink "java/lang/String" 633 ⟨"java/lang/String", "indexOf", "(II)I"⟩ ∈ lw_gd := wmP (i := 856) (by decide +kernel) rfl
theorem wm_857 : Cond.instanceMethod ⟨"java/lang/String", "indexOf", "(II)I"⟩ ∈ lw_gd := wmP (i := 857) (by decide +kernel) rfl
theorem wm_858 : Cond.selects "java/lang/String" ⟨"java/lang/String", "indexOf", "(II)I"⟩ ⟨"java/lang/String", "indexOf", "(II)I"⟩ ∈ lw_gd := wmP (i := 858) (by decide +kernel) rfl
theorem wm_859 : Cond.code ⟨"java/lang/String", "indexOf", "(II)I"⟩ prog_18_method_80_code 3 (some .int) ∈ lw_gd := wmP (i := 859) (by decide +kernel) rfl
theorem wm_860 : Cond.methodLink "java/lang/String" 505 ⟨"java/lang/String", "length", "()I"⟩ ∈ lw_gd := wmP (i := 860) (by decide +kernel) rfl
theorem wm_861 : Cond.methodLink "java/lang/String" 637 ⟨"java/lang/StringLatin1", "indexOf", "([BIII)I"⟩ ∈ lw_gd := wmP (i := 861) (by decide +kernel) rfl
theorem wm_862 : Cond.static ⟨"java/lang/StringLatin1", "indexOf", "([BIII)I"⟩ ∈ lw_gd := wmP (i := 862) (by decide +kernel) rfl
theorem wm_863 : Cond.code ⟨"java/lang/StringLatin1", "indexOf", "([BIII)I"⟩ prog_19_method_22_code 4 (some .int) ∈ lw_gd := wmP (i := 863) (by decide +kernel) rfl
theorem wm_864 : Cond.methodLink "java/lang/StringLatin1" 88 ⟨"java/lang/StringLatin1", "canEncode", "(I)Z"⟩ ∈ lw_gd := wmP (i := 864) (by decide +kernel) rfl
theorem wm_865 : Cond.static ⟨"java/lang/StringLatin1", "canEncode", "(I)Z"⟩ ∈ lw_gd := wmP (i := 865) (by decide +kernel) rfl
theorem wm_866 : Cond.code ⟨"java/lang/StringLatin1", "canEncode", "(I)Z"⟩ prog_19_method_4_code 1 (some .boolean) ∈ lw_gd := wmP (i := 866) (by decide +kernel) rfl
theorem wm_867 : Cond.methodLink "java/lang/StringLatin1" 92 ⟨"java/lang/Math", "max", "(II)I"⟩ ∈ lw_gd := wmP (i := 867) (by decide +kernel) rfl
theorem wm_868 : Cond.static ⟨"java/lang/Math", "max", "(II)I"⟩ ∈ lw_gd := wmP (i := 868) (by decide +kernel) rfl
theorem wm_869 : Cond.code ⟨"java/lang/Math", "max", "(II)I"⟩ prog_17_method_65_code 2 (some .int) ∈ lw_gd := wmP (i := 869) (by decide +kernel) rfl
theorem wm_870 : Cond.methodLink "java/lang/StringLatin1" 38 ⟨"java/lang/Math", "min", "(II)I"⟩ ∈ lw_gd := wmP (i := 870) (by decide +kernel) rfl
theorem wm_871 : Cond.static ⟨"java/lang/Math", "min", "(II)I"⟩ ∈ lw_gd := wmP (i := 871) (by decide +kernel) rfl
theorem wm_872 : Cond.code ⟨"java/lang/Math", "min", "(II)I"⟩ prog_17_method_69_code 2 (some .int) ∈ lw_gd := wmP (i := 872) (by decide +kernel) rfl
theorem wm_873 : Cond.methodLink "java/lang/StringLatin1" 95 ⟨"java/lang/StringLatin1", "indexOfChar", "([BIII)I"⟩ ∈ lw_gd := wmP (i := 873) (by decide +kernel) rfl
theorem wm_874 : Cond.static ⟨"java/lang/StringLatin1", "indexOfChar", "([BIII)I"⟩ ∈ lw_gd := wmP (i := 874) (by decide +kernel) rfl
theorem wm_875 : Cond.code ⟨"java/lang/StringLatin1", "indexOfChar", "([BIII)I"⟩ prog_19_method_23_code 6 (some .int) ∈ lw_gd := wmP (i := 875) (by decide +kernel) rfl
theorem wm_876 : Cond.methodLink "java/lang/String" 640 ⟨"java/lang/StringUTF16", "indexOf", "([BIII)I"⟩ ∈ lw_gd := wmP (i := 876) (by decide +kernel) rfl
theorem wm_877 : Cond.static ⟨"java/lang/StringUTF16", "indexOf", "([BIII)I"⟩ ∈ lw_gd := wmP (i := 877) (by decide +kernel) rfl
theorem wm_878 : Cond.code ⟨"java/lang/StringUTF16", "indexOf", "([BIII)I"⟩ prog_20_method_40_code 4 (some .int) ∈ lw_gd := wmP (i := 878) (by decide +kernel) rfl
theorem wm_879 : Cond.methodLink "java/lang/StringUTF16" 224 ⟨"java/lang/Math", "max", "(II)I"⟩ ∈ lw_gd := wmP (i := 879) (by decide +kernel) rfl
theorem wm_880 : Cond.methodLink "java/lang/StringUTF16" 183 ⟨"java/lang/Math", "min", "(II)I"⟩ ∈ lw_gd := wmP (i := 880) (by decide +kernel) rfl
theorem wm_881 : Cond.constant "java/lang/StringUTF16" 227 65536 ∈ lw_gd := wmP (i := 881) (by decide +kernel) rfl
theorem wm_882 : Cond.methodLink "java/lang/StringUTF16" 228 ⟨"java/lang/StringUTF16", "indexOfChar", "([BIII)I"⟩ ∈ lw_gd := wmP (i := 882) (by decide +kernel) rfl
theorem wm_883 : Cond.static ⟨"java/lang/StringUTF16", "indexOfChar", "([BIII)I"⟩ ∈ lw_gd := wmP (i := 883) (by decide +kernel) rfl
theorem wm_884 : Cond.code ⟨"java/lang/StringUTF16", "indexOfChar", "([BIII)I"⟩ prog_20_method_47_code 4 (some .int) ∈ lw_gd := wmP (i := 884) (by decide +kernel) rfl
theorem wm_885 : Cond.methodLink "java/lang/StringUTF16" 96 ⟨"java/lang/StringUTF16", "checkBoundsBeginEnd", "(II[B)V"⟩ ∈ lw_gd := wmP (i := 885) (by decide +kernel) rfl
theorem wm_886 : Cond.static ⟨"java/lang/StringUTF16", "checkBoundsBeginEnd", "(II[B)V"⟩ ∈ lw_gd := wmP (i := 886) (by decide +kernel) rfl
theorem wm_887 : Cond.code ⟨"java/lang/StringUTF16", "checkBoundsBeginEnd", "(II[B)V"⟩ prog_20_method_93_code 3 none ∈ lw_gd := wmP (i := 887) (by decide +kernel) rfl
theorem wm_888 : Cond.methodLink "java/lang/StringUTF16" 241 ⟨"java/lang/String", "checkBoundsBeginEnd", "(III)V"⟩ ∈ lw_gd := wmP (i := 888) (by decide +kernel) rfl
theorem wm_889 : Cond.static ⟨"java/lang/String", "checkBoundsBeginEnd", "(III)V"⟩ ∈ lw_gd := wmP (i := 889) (by decide +kernel) rfl
theorem wm_890 : Cond.code ⟨"java/lang/String", "checkBoundsBeginEnd", "(III)V"⟩ prog_18_method_158_code 3 none ∈ lw_gd := wmP (i := 890) (by decide +kernel) rfl
theorem wm_891 : Cond.methodLink "java/lang/String" 1062 ⟨"jdk/internal/util/Preconditions", "checkFromToIndex", "(IIILjava/util/function/BiFunction;)I"⟩ ∈ lw_gd := wmP (i := 891) (by decide +kernel) rfl
theorem wm_892 : Cond.static ⟨"jdk/internal/util/Preconditions", "checkFromToIndex", "(IIILjava/util/function/BiFunction;)I"⟩ ∈ lw_gd := wmP (i := 892) (by decide +kernel) rfl
theorem wm_893 : Cond.code ⟨"jdk/internal/util/Preconditions", "checkFromToIndex", "(IIILjava/util/function/BiFunction;)I"⟩ prog_23_method_12_code 4 (some .int) ∈ lw_gd := wmP (i := 893) (by decide +kernel) rfl
theorem wm_894 : Cond.methodLink "java/lang/StringUTF16" 244 ⟨"java/lang/StringUTF16", "indexOfCharUnsafe", "([BIII)I"⟩ ∈ lw_gd := wmP (i := 894) (by decide +kernel) rfl
theorem wm_895 : Cond.static ⟨"java/lang/StringUTF16", "indexOfCharUnsafe", "([BIII)I"⟩ ∈ lw_gd := wmP (i := 895) (by decide +kernel) rfl
theorem wm_896 : Cond.code ⟨"java/lang/StringUTF16", "indexOfCharUnsafe", "([BIII)I"⟩ prog_20_method_48_code 5 (some .int) ∈ lw_gd := wmP (i := 896) (by decide +kernel) rfl
theorem wm_897 : Cond.methodLink "java/lang/StringUTF16" 232 ⟨"java/lang/StringUTF16", "indexOfSupplementary", "([BIII)I"⟩ ∈ lw_gd := wmP (i := 897) (by decide +kernel) rfl
theorem wm_898 : Cond.static ⟨"java/lang/StringUTF16", "indexOfSupplementary", "([BIII)I"⟩ ∈ lw_gd := wmP (i := 898) (by decide +kernel) rfl
theorem wm_899 : Cond.code ⟨"java/lang/StringUTF16", "indexOfSupplementary", "([BIII)I"⟩ prog_20_method_49_code 7 (some .int) ∈ lw_gd := wmP (i := 899) (by decide +kernel) rfl
theorem wm_900 : Cond.methodLink "java/lang/StringUTF16" 164 ⟨"java/lang/Character", "isValidCodePoint", "(I)Z"⟩ ∈ lw_gd := wmP (i := 900) (by decide +kernel) rfl
theorem wm_901 : Cond.static ⟨"java/lang/Character", "isValidCodePoint", "(I)Z"⟩ ∈ lw_gd := wmP (i := 901) (by decide +kernel) rfl
theorem wm_902 : Cond.code ⟨"java/lang/Character", "isValidCodePoint", "(I)Z"⟩ prog_15_method_11_code 2 (some .boolean) ∈ lw_gd := wmP (i := 902) (by decide +kernel) rfl
theorem wm_903 : Cond.methodLink "java/lang/StringUTF16" 157 ⟨"java/lang/Character", "highSurrogate", "(I)C"⟩ ∈ lw_gd := wmP (i := 903) (by decide +kernel) rfl
theorem wm_904 : Cond.static ⟨"java/lang/Character", "highSurrogate", "(I)C"⟩ ∈ lw_gd := wmP (i := 904) (by decide +kernel) rfl
theorem wm_905 : Cond.code ⟨"java/lang/Character", "highSurrogate", "(I)C"⟩ prog_15_method_28_code 1 (some .char) ∈ lw_gd := wmP (i := 905) (by decide +kernel) rfl
theorem wm_906 : Cond.constant "java/lang/Character" 110 55232 ∈ lw_gd := wmP (i := 906) (by decide +kernel) rfl
theorem wm_907 : Cond.methodLink "java/lang/StringUTF16" 161 ⟨"java/lang/Character", "lowSurrogate", "(I)C"⟩ ∈ lw_gd := wmP (i := 907) (by decide +kernel) rfl
theorem wm_908 : Cond.static ⟨"java/lang/Character", "lowSurrogate", "(I)C"⟩ ∈ lw_gd := wmP (i := 908) (by decide +kernel) rfl
theorem wm_909 : Cond.code ⟨"java/lang/Character", "lowSurrogate", "(I)C"⟩ prog_15_method_29_code 1 (some .char) ∈ lw_gd := wmP (i := 909) (by decide +kernel) rfl
theorem wm_910 : Cond.constant "java/lang/Character" 76 56320 ∈ lw_gd := wmP (i := 910) (by decide +kernel) rfl
theorem wm_911 : Cond.methodLink "WeekBoats$Parser" 46 ⟨"WeekBoats$Parser", "readLine", "()V"⟩ ∈ lw_gd := wmP (i := 911) (by decide +kernel) rfl
theorem wm_913 : Cond.instanceMethod ⟨"WeekBoats$Parser", "readLine", "()V"⟩ ∈ lw_gd := wmP (i := 913) (by decide +kernel) rfl
theorem wm_914 : Cond.code ⟨"WeekBoats$Parser", "readLine", "()V"⟩ prog_6_method_16_code 3 none ∈ lw_gd := wmP (i := 914) (by decide +kernel) rfl
theorem wm_915 : Cond.methodLink "WeekBoats$Parser" 103 ⟨"WeekBoats$Parser", "fail", "(I)V"⟩ ∈ lw_gd := wmP (i := 915) (by decide +kernel) rfl
theorem wm_917 : Cond.instanceMethod ⟨"WeekBoats$Parser", "fail", "(I)V"⟩ ∈ lw_gd := wmP (i := 917) (by decide +kernel) rfl
theorem wm_918 : Cond.code ⟨"WeekBoats$Parser", "fail", "(I)V"⟩ prog_6_method_13_code 2 none ∈ lw_gd := wmP (i := 918) (by decide +kernel) rfl
theorem wm_919 : Cond.methodLink "WeekBoats$Parser" 107 ⟨"WeekBoats$Parser", "goOn", "()V"⟩ ∈ lw_gd := wmP (i := 919) (by decide +kernel) rfl
theorem wm_921 : Cond.instanceMethod ⟨"WeekBoats$Parser", "goOn", "()V"⟩ ∈ lw_gd := wmP (i := 921) (by decide +kernel) rfl
theorem wm_922 : Cond.code ⟨"WeekBoats$Parser", "goOn", "()V"⟩ prog_6_method_15_code 1 none ∈ lw_gd := wmP (i := 922) (by decide +kernel) rfl
theorem wm_923 : Cond.methodLink "WeekBoats$Parser" 119 ⟨"WeekBoats$Parser", "readTunnel", "()V"⟩ ∈ lw_gd := wmP (i := 923) (by decide +kernel) rfl
theorem wm_925 : Cond.instanceMethod ⟨"WeekBoats$Parser", "readTunnel", "()V"⟩ ∈ lw_gd := wmP (i := 925) (by decide +kernel) rfl
theorem wm_926 : Cond.code ⟨"WeekBoats$Parser", "readTunnel", "()V"⟩ prog_6_method_17_code 3 none ∈ lw_gd := wmP (i := 926) (by decide +kernel) rfl
theorem wm_927 : Cond.methodLink "WeekBoats$Parser" 125 ⟨"WeekBoats$Parser", "numberUpTo", "(I)I"⟩ ∈ lw_gd := wmP (i := 927) (by decide +kernel) rfl
theorem wm_929 : Cond.instanceMethod ⟨"WeekBoats$Parser", "numberUpTo", "(I)I"⟩ ∈ lw_gd := wmP (i := 929) (by decide +kernel) rfl
theorem wm_930 : Cond.code ⟨"WeekBoats$Parser", "numberUpTo", "(I)I"⟩ prog_6_method_18_code 3 (some .int) ∈ lw_gd := wmP (i := 930) (by decide +kernel) rfl
theorem wm_931 : Cond.methodLink "WeekBoats$Parser" 137 ⟨"WeekBoats$Parser", "is", "(I)Z"⟩ ∈ lw_gd := wmP (i := 931) (by decide +kernel) rfl
theorem wm_933 : Cond.instanceMethod ⟨"WeekBoats$Parser", "is", "(I)Z"⟩ ∈ lw_gd := wmP (i := 933) (by decide +kernel) rfl
theorem wm_934 : Cond.code ⟨"WeekBoats$Parser", "is", "(I)Z"⟩ prog_6_method_14_code 2 (some .boolean) ∈ lw_gd := wmP (i := 934) (by decide +kernel) rfl
theorem wm_935 : Cond.methodLink "WeekBoats$Parser" 149 ⟨"WeekBoats$Rules", "hasTunnel", "(I)Z"⟩ ∈ lw_gd := wmP (i := 935) (by decide +kernel) rfl
theorem wm_936 : Cond.instanceMethod ⟨"WeekBoats$Rules", "hasTunnel", "(I)Z"⟩ ∈ lw_gd := wmP (i := 936) (by decide +kernel) rfl
theorem wm_937 : Cond.selects "WeekBoats$Rules" ⟨"WeekBoats$Rules", "hasTunnel", "(I)Z"⟩ ⟨"WeekBoats$Rules", "hasTunnel", "(I)Z"⟩ ∈ lw_gd := wmP (i := 937) (by decide +kernel) rfl
theorem wm_938 : Cond.code ⟨"WeekBoats$Rules", "hasTunnel", "(I)Z"⟩ prog_8_method_5_code 2 (some .boolean) ∈ lw_gd := wmP (i := 938) (by decide +kernel) rfl
theorem wm_939 : Cond.methodLink "WeekBoats$Parser" 131 ⟨"WeekBoats$Parser", "readSum", "()V"⟩ ∈ lw_gd := wmP (i := 939) (by decide +kernel) rfl
theorem wm_941 : Cond.instanceMethod ⟨"WeekBoats$Parser", "readSum", "()V"⟩ ∈ lw_gd := wmP (i := 941) (by decide +kernel) rfl
theorem wm_942 : Cond.code ⟨"WeekBoats$Parser", "readSum", "()V"⟩ prog_6_method_25_code 3 none ∈ lw_gd := wmP (i := 942) (by decide +kernel) rfl
theorem wm_943 : Cond.methodLink "WeekBoats$Parser" 176 ⟨"WeekBoats$Parser", "readProduct", "()V"⟩ ∈ lw_gd := wmP (i := 943) (by decide +kernel) rfl
theorem wm_945 : Cond.instanceMethod ⟨"WeekBoats$Parser", "readProduct", "()V"⟩ ∈ lw_gd := wmP (i := 945) (by decide +kernel) rfl
theorem wm_946 : Cond.code ⟨"WeekBoats$Parser", "readProduct", "()V"⟩ prog_6_method_26_code 3 none ∈ lw_gd := wmP (i := 946) (by decide +kernel) rfl
theorem wm_947 : Cond.methodLink "WeekBoats$Parser" 179 ⟨"WeekBoats$Parser", "readUnit", "()V"⟩ ∈ lw_gd := wmP (i := 947) (by decide +kernel) rfl
theorem wm_949 : Cond.instanceMethod ⟨"WeekBoats$Parser", "readUnit", "()V"⟩ ∈ lw_gd := wmP (i := 949) (by decide +kernel) rfl
theorem wm_950 : Cond.code ⟨"WeekBoats$Parser", "readUnit", "()V"⟩ prog_6_method_27_code 2 none ∈ lw_gd := wmP (i := 950) (by decide +kernel) rfl
theorem wm_951 : Cond.methodLink "WeekBoats$Parser" 164 ⟨"WeekBoats$Rules", "put", "(II)V"⟩ ∈ lw_gd := wmP (i := 951) (by decide +kernel) rfl
theorem wm_952 : Cond.instanceMethod ⟨"WeekBoats$Rules", "put", "(II)V"⟩ ∈ lw_gd := wmP (i := 952) (by decide +kernel) rfl
theorem wm_953 : Cond.selects "WeekBoats$Rules" ⟨"WeekBoats$Rules", "put", "(II)V"⟩ ⟨"WeekBoats$Rules", "put", "(II)V"⟩ ∈ lw_gd := wmP (i := 953) (by decide +kernel) rfl
theorem wm_954 : Cond.code ⟨"WeekBoats$Rules", "put", "(II)V"⟩ prog_8_method_4_code 3 none ∈ lw_gd := wmP (i := 954) (by decide +kernel) rfl
theorem wm_955 : Cond.methodLink "WeekBoats$Parser" 182 ⟨"WeekBoats$Parser", "readPart", "()V"⟩ ∈ lw_gd := wmP (i := 955) (by decide +kernel) rfl
theorem wm_957 : Cond.instanceMethod ⟨"WeekBoats$Parser", "readPart", "()V"⟩ ∈ lw_gd := wmP (i := 957) (by decide +kernel) rfl
theorem wm_958 : Cond.code ⟨"WeekBoats$Parser", "readPart", "()V"⟩ prog_6_method_28_code 2 none ∈ lw_gd := wmP (i := 958) (by decide +kernel) rfl
theorem wm_959 : Cond.methodLink "WeekBoats$Parser" 140 ⟨"WeekBoats$Parser", "readEither", "(I)V"⟩ ∈ lw_gd := wmP (i := 959) (by decide +kernel) rfl
theorem wm_961 : Cond.instanceMethod ⟨"WeekBoats$Parser", "readEither", "(I)V"⟩ ∈ lw_gd := wmP (i := 961) (by decide +kernel) rfl
theorem wm_962 : Cond.code ⟨"WeekBoats$Parser", "readEither", "(I)V"⟩ prog_6_method_20_code 3 none ∈ lw_gd := wmP (i := 962) (by decide +kernel) rfl
theorem wm_963 : Cond.methodLink "WeekBoats$Parser" 161 ⟨"WeekBoats$Parser", "readAll", "(I)V"⟩ ∈ lw_gd := wmP (i := 963) (by decide +kernel) rfl
theorem wm_965 : Cond.instanceMethod ⟨"WeekBoats$Parser", "readAll", "(I)V"⟩ ∈ lw_gd := wmP (i := 965) (by decide +kernel) rfl
theorem wm_966 : Cond.code ⟨"WeekBoats$Parser", "readAll", "(I)V"⟩ prog_6_method_21_code 3 none ∈ lw_gd := wmP (i := 966) (by decide +kernel) rfl
theorem wm_967 : Cond.methodLink "WeekBoats$Parser" 167 ⟨"WeekBoats$Parser", "readOne", "(I)V"⟩ ∈ lw_gd := wmP (i := 967) (by decide +kernel) rfl
theorem wm_969 : Cond.instanceMethod ⟨"WeekBoats$Parser", "readOne", "(I)V"⟩ ∈ lw_gd := wmP (i := 969) (by decide +kernel) rfl
theorem wm_970 : Cond.code ⟨"WeekBoats$Parser", "readOne", "(I)V"⟩ prog_6_method_22_code 4 none ∈ lw_gd := wmP (i := 970) (by decide +kernel) rfl
theorem wm_971 : Cond.methodLink "WeekBoats$Parser" 170 ⟨"WeekBoats$Parser", "openOneMore", "(I)V"⟩ ∈ lw_gd := wmP (i := 971) (by decide +kernel) rfl
theorem wm_973 : Cond.instanceMethod ⟨"WeekBoats$Parser", "openOneMore", "(I)V"⟩ ∈ lw_gd := wmP (i := 973) (by decide +kernel) rfl
theorem wm_974 : Cond.code ⟨"WeekBoats$Parser", "openOneMore", "(I)V"⟩ prog_6_method_23_code 2 none ∈ lw_gd := wmP (i := 974) (by decide +kernel) rfl
theorem wm_975 : Cond.methodLink "WeekBoats$Parser" 146 ⟨"WeekBoats$Parser", "demand", "(I)V"⟩ ∈ lw_gd := wmP (i := 975) (by decide +kernel) rfl
theorem wm_977 : Cond.instanceMethod ⟨"WeekBoats$Parser", "demand", "(I)V"⟩ ∈ lw_gd := wmP (i := 977) (by decide +kernel) rfl
theorem wm_978 : Cond.code ⟨"WeekBoats$Parser", "demand", "(I)V"⟩ prog_6_method_19_code 2 none ∈ lw_gd := wmP (i := 978) (by decide +kernel) rfl
theorem wm_979 : Cond.methodLink "WeekBoats$Parser" 173 ⟨"WeekBoats$Parser", "demandComparing", "()V"⟩ ∈ lw_gd := wmP (i := 979) (by decide +kernel) rfl
theorem wm_981 : Cond.instanceMethod ⟨"WeekBoats$Parser", "demandComparing", "()V"⟩ ∈ lw_gd := wmP (i := 981) (by decide +kernel) rfl
theorem wm_982 : Cond.code ⟨"WeekBoats$Parser", "demandComparing", "()V"⟩ prog_6_method_24_code 1 none ∈ lw_gd := wmP (i := 982) (by decide +kernel) rfl
theorem wm_983 : Cond.methodLink "WeekBoats" 161 ⟨"WeekBoats$Rules", "takeOver", "(LWeekBoats$Rules;)V"⟩ ∈ lw_gd := wmP (i := 983) (by decide +kernel) rfl
theorem wm_984 : Cond.instanceMethod ⟨"WeekBoats$Rules", "takeOver", "(LWeekBoats$Rules;)V"⟩ ∈ lw_gd := wmP (i := 984) (by decide +kernel) rfl
theorem wm_985 : Cond.selects "WeekBoats$Rules" ⟨"WeekBoats$Rules", "takeOver", "(LWeekBoats$Rules;)V"⟩ ⟨"WeekBoats$Rules", "takeOver", "(LWeekBoats$Rules;)V"⟩ ∈ lw_gd := wmP (i := 985) (by decide +kernel) rfl
theorem wm_986 : Cond.code ⟨"WeekBoats$Rules", "takeOver", "(LWeekBoats$Rules;)V"⟩ prog_8_method_3_code 2 none ∈ lw_gd := wmP (i := 986) (by decide +kernel) rfl
theorem wm_987 : Cond.methodLink "WeekBoats$Rules" 64 ⟨"java/lang/System", "arraycopy", "(Ljava/lang/Object;ILjava/lang/Object;II)V"⟩ ∈ lw_gd := wmP (i := 987) (by decide +kernel) rfl
theorem wm_988 : Cond.static ⟨"java/lang/System", "arraycopy", "(Ljava/lang/Object;ILjava/lang/Object;II)V"⟩ ∈ lw_gd := wmP (i := 988) (by decide +kernel) rfl
theorem wm_989 : Cond.native ⟨"java/lang/System", "arraycopy", "(Ljava/lang/Object;ILjava/lang/Object;II)V"⟩ ∈ lw_gd := wmP (i := 989) (by decide +kernel) rfl
theorem wm_991 : Cond.methodLink "WeekBoatsLaw" 47 ⟨"WeekBoats", "fault", "(I)I"⟩ ∈ lw_gd := wmP (i := 991) (by decide +kernel) rfl
theorem wm_992 : Cond.instanceMethod ⟨"WeekBoats", "fault", "(I)I"⟩ ∈ lw_gd := wmP (i := 992) (by decide +kernel) rfl
theorem wm_993 : Cond.selects "WeekBoats" ⟨"WeekBoats", "fault", "(I)I"⟩ ⟨"WeekBoats", "fault", "(I)I"⟩ ∈ lw_gd := wmP (i := 993) (by decide +kernel) rfl
theorem wm_994 : Cond.code ⟨"WeekBoats", "fault", "(I)I"⟩ prog_1_method_16_code 2 (some .int) ∈ lw_gd := wmP (i := 994) (by decide +kernel) rfl
theorem wm_995 : Cond.methodLink "WeekBoatsLaw" 52 ⟨"WeekBoats", "open", "(II)I"⟩ ∈ lw_gd := wmP (i := 995) (by decide +kernel) rfl
theorem wm_996 : Cond.instanceMethod ⟨"WeekBoats", "open", "(II)I"⟩ ∈ lw_gd := wmP (i := 996) (by decide +kernel) rfl
theorem wm_997 : Cond.selects "WeekBoats" ⟨"WeekBoats", "open", "(II)I"⟩ ⟨"WeekBoats", "open", "(II)I"⟩ ∈ lw_gd := wmP (i := 997) (by decide +kernel) rfl
theorem wm_998 : Cond.code ⟨"WeekBoats", "open", "(II)I"⟩ prog_1_method_17_code 3 (some .int) ∈ lw_gd := wmP (i := 998) (by decide +kernel) rfl
theorem wm_999 : Cond.methodLink "WeekBoatsLaw" 57 ⟨"WeekBoats", "comes", "(IIII)I"⟩ ∈ lw_gd := wmP (i := 999) (by decide +kernel) rfl
theorem wm_1000 : Cond.instanceMethod ⟨"WeekBoats", "comes", "(IIII)I"⟩ ∈ lw_gd := wmP (i := 1000) (by decide +kernel) rfl
theorem wm_1001 : Cond.selects "WeekBoats" ⟨"WeekBoats", "comes", "(IIII)I"⟩ ⟨"WeekBoats", "comes", "(IIII)I"⟩ ∈ lw_gd := wmP (i := 1001) (by decide +kernel) rfl
theorem wm_1002 : Cond.code ⟨"WeekBoats", "comes", "(IIII)I"⟩ prog_1_method_18_code 5 (some .int) ∈ lw_gd := wmP (i := 1002) (by decide +kernel) rfl
theorem wm_1003 : Cond.methodLink "WeekBoats" 176 ⟨"WeekBoats", "isWay", "(IIII)Z"⟩ ∈ lw_gd := wmP (i := 1003) (by decide +kernel) rfl
theorem wm_1005 : Cond.instanceMethod ⟨"WeekBoats", "isWay", "(IIII)Z"⟩ ∈ lw_gd := wmP (i := 1005) (by decide +kernel) rfl
theorem wm_1006 : Cond.code ⟨"WeekBoats", "isWay", "(IIII)Z"⟩ prog_1_method_8_code 5 (some .boolean) ∈ lw_gd := wmP (i := 1006) (by decide +kernel) rfl
theorem wm_1007 : Cond.methodLink "WeekBoats" 107 ⟨"WeekBoats", "isBoat", "(I)Z"⟩ ∈ lw_gd := wmP (i := 1007) (by decide +kernel) rfl
theorem wm_1009 : Cond.instanceMethod ⟨"WeekBoats", "isBoat", "(I)Z"⟩ ∈ lw_gd := wmP (i := 1009) (by decide +kernel) rfl
theorem wm_1010 : Cond.code ⟨"WeekBoats", "isBoat", "(I)Z"⟩ prog_1_method_7_code 2 (some .boolean) ∈ lw_gd := wmP (i := 1010) (by decide +kernel) rfl
theorem wm_1011 : Cond.methodLink "WeekBoats" 114 ⟨"WeekBoats", "isTime", "(I)Z"⟩ ∈ lw_gd := wmP (i := 1011) (by decide +kernel) rfl
theorem wm_1012 : Cond.static ⟨"WeekBoats", "isTime", "(I)Z"⟩ ∈ lw_gd := wmP (i := 1012) (by decide +kernel) rfl
theorem wm_1013 : Cond.code ⟨"WeekBoats", "isTime", "(I)Z"⟩ prog_1_method_4_code 1 (some .boolean) ∈ lw_gd := wmP (i := 1013) (by decide +kernel) rfl
theorem wm_1014 : Cond.methodLink "WeekBoats" 183 ⟨"WeekBoats$Voyage", "comesTo", "(IIIIZ)I"⟩ ∈ lw_gd := wmP (i := 1014) (by decide +kernel) rfl
theorem wm_1015 : Cond.instanceMethod ⟨"WeekBoats$Voyage", "comesTo", "(IIIIZ)I"⟩ ∈ lw_gd := wmP (i := 1015) (by decide +kernel) rfl
theorem wm_1016 : Cond.selects "WeekBoats$Voyage" ⟨"WeekBoats$Voyage", "comesTo", "(IIIIZ)I"⟩ ⟨"WeekBoats$Voyage", "comesTo", "(IIIIZ)I"⟩ ∈ lw_gd := wmP (i := 1016) (by decide +kernel) rfl
theorem wm_1017 : Cond.code ⟨"WeekBoats$Voyage", "comesTo", "(IIIIZ)I"⟩ prog_11_method_4_code 8 (some .int) ∈ lw_gd := wmP (i := 1017) (by decide +kernel) rfl
theorem wm_1018 : Cond.methodLink "WeekBoats$Voyage" 67 ⟨"WeekBoats$Voyage", "setOut", "(IZ)V"⟩ ∈ lw_gd := wmP (i := 1018) (by decide +kernel) rfl
theorem wm_1020 : Cond.instanceMethod ⟨"WeekBoats$Voyage", "setOut", "(IZ)V"⟩ ∈ lw_gd := wmP (i := 1020) (by decide +kernel) rfl
theorem wm_1021 : Cond.code ⟨"WeekBoats$Voyage", "setOut", "(IZ)V"⟩ prog_11_method_3_code 3 none ∈ lw_gd := wmP (i := 1021) (by decide +kernel) rfl
theorem wm_1022 : Cond.methodLink "WeekBoats$Voyage" 71 ⟨"WeekBoats$Voyage", "pass", "(IZI)I"⟩ ∈ lw_gd := wmP (i := 1022) (by decide +kernel) rfl
theorem wm_1024 : Cond.instanceMethod ⟨"WeekBoats$Voyage", "pass", "(IZI)I"⟩ ∈ lw_gd := wmP (i := 1024) (by decide +kernel) rfl
theorem wm_1025 : Cond.code ⟨"WeekBoats$Voyage", "pass", "(IZI)I"⟩ prog_11_method_8_code 7 (some .int) ∈ lw_gd := wmP (i := 1025) (by decide +kernel) rfl
theorem wm_1026 : Cond.methodLink "WeekBoats$Voyage" 81 ⟨"WeekBoats$Rules", "isTunnel", "(I)Z"⟩ ∈ lw_gd := wmP (i := 1026) (by decide +kernel) rfl
theorem wm_1027 : Cond.instanceMethod ⟨"WeekBoats$Rules", "isTunnel", "(I)Z"⟩ ∈ lw_gd := wmP (i := 1027) (by decide +kernel) rfl
theorem wm_1028 : Cond.selects "WeekBoats$Rules" ⟨"WeekBoats$Rules", "isTunnel", "(I)Z"⟩ ⟨"WeekBoats$Rules", "isTunnel", "(I)Z"⟩ ∈ lw_gd := wmP (i := 1028) (by decide +kernel) rfl
theorem wm_1029 : Cond.code ⟨"WeekBoats$Rules", "isTunnel", "(I)Z"⟩ prog_8_method_6_code 2 (some .boolean) ∈ lw_gd := wmP (i := 1029) (by decide +kernel) rfl
theorem wm_1030 : Cond.methodLink "WeekBoats$Rules" 70 ⟨"WeekBoats$Rules", "hasTunnel", "(I)Z"⟩ ∈ lw_gd := wmP (i := 1030) (by decide +kernel) rfl
theorem wm_1031 : Cond.methodLink "WeekBoats$Voyage" 85 ⟨"WeekBoats$Voyage", "step", "(IIII)I"⟩ ∈ lw_gd := wmP (i := 1031) (by decide +kernel) rfl
theorem wm_1033 : Cond.instanceMethod ⟨"WeekBoats$Voyage", "step", "(IIII)I"⟩ ∈ lw_gd := wmP (i := 1033) (by decide +kernel) rfl
theorem wm_1034 : Cond.code ⟨"WeekBoats$Voyage", "step", "(IIII)I"⟩ prog_11_method_9_code 6 (some .int) ∈ lw_gd := wmP (i := 1034) (by decide +kernel) rfl
theorem wm_1035 : Cond.methodLink "WeekBoats$Voyage" 92 ⟨"WeekBoats$Voyage", "begins", "(III)I"⟩ ∈ lw_gd := wmP (i := 1035) (by decide +kernel) rfl
theorem wm_1037 : Cond.instanceMethod ⟨"WeekBoats$Voyage", "begins", "(III)I"⟩ ∈ lw_gd := wmP (i := 1037) (by decide +kernel) rfl
theorem wm_1038 : Cond.code ⟨"WeekBoats$Voyage", "begins", "(III)I"⟩ prog_11_method_10_code 8 (some .int) ∈ lw_gd := wmP (i := 1038) (by decide +kernel) rfl
theorem wm_1039 : Cond.methodLink "WeekBoats$Voyage" 96 ⟨"WeekBoats$Voyage", "firstHour", "(III)I"⟩ ∈ lw_gd := wmP (i := 1039) (by decide +kernel) rfl
theorem wm_1041 : Cond.instanceMethod ⟨"WeekBoats$Voyage", "firstHour", "(III)I"⟩ ∈ lw_gd := wmP (i := 1041) (by decide +kernel) rfl
theorem wm_1042 : Cond.code ⟨"WeekBoats$Voyage", "firstHour", "(III)I"⟩ prog_11_method_12_code 4 (some .int) ∈ lw_gd := wmP (i := 1042) (by decide +kernel) rfl
theorem wm_1043 : Cond.methodLink "WeekBoats$Voyage" 99 ⟨"java/lang/Math", "max", "(II)I"⟩ ∈ lw_gd := wmP (i := 1043) (by decide +kernel) rfl
theorem wm_1044 : Cond.methodLink "WeekBoats$Voyage" 105 ⟨"WeekBoats$Voyage", "hourBehind", "(III)I"⟩ ∈ lw_gd := wmP (i := 1044) (by decide +kernel) rfl
theorem wm_1046 : Cond.instanceMethod ⟨"WeekBoats$Voyage", "hourBehind", "(III)I"⟩ ∈ lw_gd := wmP (i := 1046) (by decide +kernel) rfl
theorem wm_1047 : Cond.code ⟨"WeekBoats$Voyage", "hourBehind", "(III)I"⟩ prog_11_method_13_code 4 (some .int) ∈ lw_gd := wmP (i := 1047) (by decide +kernel) rfl
theorem wm_1048 : Cond.methodLink "WeekBoats$Voyage" 108 ⟨"java/lang/Math", "min", "(II)I"⟩ ∈ lw_gd := wmP (i := 1048) (by decide +kernel) rfl
theorem wm_1049 : Cond.methodLink "WeekBoats$Voyage" 111 ⟨"WeekBoats$Voyage", "isStopped", "(II)Z"⟩ ∈ lw_gd := wmP (i := 1049) (by decide +kernel) rfl
theorem wm_1051 : Cond.instanceMethod ⟨"WeekBoats$Voyage", "isStopped", "(II)Z"⟩ ∈ lw_gd := wmP (i := 1051) (by decide +kernel) rfl
theorem wm_1052 : Cond.code ⟨"WeekBoats$Voyage", "isStopped", "(II)Z"⟩ prog_11_method_11_code 3 (some .boolean) ∈ lw_gd := wmP (i := 1052) (by decide +kernel) rfl
theorem wm_1053 : Cond.methodLink "WeekBoatsLaw" 61 ⟨"WeekBoats", "maybe", "(IIII)I"⟩ ∈ lw_gd := wmP (i := 1053) (by decide +kernel) rfl
theorem wm_1054 : Cond.instanceMethod ⟨"WeekBoats", "maybe", "(IIII)I"⟩ ∈ lw_gd := wmP (i := 1054) (by decide +kernel) rfl
theorem wm_1055 : Cond.selects "WeekBoats" ⟨"WeekBoats", "maybe", "(IIII)I"⟩ ⟨"WeekBoats", "maybe", "(IIII)I"⟩ ∈ lw_gd := wmP (i := 1055) (by decide +kernel) rfl
theorem wm_1056 : Cond.code ⟨"WeekBoats", "maybe", "(IIII)I"⟩ prog_1_method_19_code 5 (some .int) ∈ lw_gd := wmP (i := 1056) (by decide +kernel) rfl
theorem wm_1057 : Cond.methodLink "WeekBoats" 187 ⟨"WeekBoats$Voyage", "reach", "(III)V"⟩ ∈ lw_gd := wmP (i := 1057) (by decide +kernel) rfl
theorem wm_1058 : Cond.instanceMethod ⟨"WeekBoats$Voyage", "reach", "(III)V"⟩ ∈ lw_gd := wmP (i := 1058) (by decide +kernel) rfl
theorem wm_1059 : Cond.selects "WeekBoats$Voyage" ⟨"WeekBoats$Voyage", "reach", "(III)V"⟩ ⟨"WeekBoats$Voyage", "reach", "(III)V"⟩ ∈ lw_gd := wmP (i := 1059) (by decide +kernel) rfl
theorem wm_1060 : Cond.code ⟨"WeekBoats$Voyage", "reach", "(III)V"⟩ prog_11_method_5_code 5 none ∈ lw_gd := wmP (i := 1060) (by decide +kernel) rfl
theorem wm_1061 : Cond.methodLink "WeekBoats" 190 ⟨"WeekBoats$Voyage", "reached", "(I)I"⟩ ∈ lw_gd := wmP (i := 1061) (by decide +kernel) rfl
theorem wm_1062 : Cond.instanceMethod ⟨"WeekBoats$Voyage", "reached", "(I)I"⟩ ∈ lw_gd := wmP (i := 1062) (by decide +kernel) rfl
theorem wm_1063 : Cond.selects "WeekBoats$Voyage" ⟨"WeekBoats$Voyage", "reached", "(I)I"⟩ ⟨"WeekBoats$Voyage", "reached", "(I)I"⟩ ∈ lw_gd := wmP (i := 1063) (by decide +kernel) rfl
theorem wm_1064 : Cond.code ⟨"WeekBoats$Voyage", "reached", "(I)I"⟩ prog_11_method_6_code 4 (some .int) ∈ lw_gd := wmP (i := 1064) (by decide +kernel) rfl
theorem wm_1065 : Cond.methodLink "WeekBoatsLaw" 65 ⟨"WeekBoats", "harm", "(IIII)I"⟩ ∈ lw_gd := wmP (i := 1065) (by decide +kernel) rfl
theorem wm_1066 : Cond.instanceMethod ⟨"WeekBoats", "harm", "(IIII)I"⟩ ∈ lw_gd := wmP (i := 1066) (by decide +kernel) rfl
theorem wm_1067 : Cond.selects "WeekBoats" ⟨"WeekBoats", "harm", "(IIII)I"⟩ ⟨"WeekBoats", "harm", "(IIII)I"⟩ ∈ lw_gd := wmP (i := 1067) (by decide +kernel) rfl
theorem wm_1068 : Cond.code ⟨"WeekBoats", "harm", "(IIII)I"⟩ prog_1_method_20_code 6 (some .int) ∈ lw_gd := wmP (i := 1068) (by decide +kernel) rfl
theorem wm_1069 : Cond.methodLink "WeekBoats" 194 ⟨"WeekBoats$Boats", "harmOfLatestWay", "(I)I"⟩ ∈ lw_gd := wmP (i := 1069) (by decide +kernel) rfl
theorem wm_1070 : Cond.instanceMethod ⟨"WeekBoats$Boats", "harmOfLatestWay", "(I)I"⟩ ∈ lw_gd := wmP (i := 1070) (by decide +kernel) rfl
theorem wm_1071 : Cond.selects "WeekBoats$Boats" ⟨"WeekBoats$Boats", "harmOfLatestWay", "(I)I"⟩ ⟨"WeekBoats$Boats", "harmOfLatestWay", "(I)I"⟩ ∈ lw_gd := wmP (i := 1071) (by decide +kernel) rfl
theorem wm_1072 : Cond.code ⟨"WeekBoats$Boats", "harmOfLatestWay", "(I)I"⟩ prog_2_method_11_code 4 (some .int) ∈ lw_gd := wmP (i := 1072) (by decide +kernel) rfl
theorem wm_1073 : Cond.methodLink "WeekBoats$Boats" 101 ⟨"WeekBoats$Boats", "harmOfLock", "(II)I"⟩ ∈ lw_gd := wmP (i := 1073) (by decide +kernel) rfl
theorem wm_1075 : Cond.instanceMethod ⟨"WeekBoats$Boats", "harmOfLock", "(II)I"⟩ ∈ lw_gd := wmP (i := 1075) (by decide +kernel) rfl
theorem wm_1076 : Cond.code ⟨"WeekBoats$Boats", "harmOfLock", "(II)I"⟩ prog_2_method_12_code 4 (some .int) ∈ lw_gd := wmP (i := 1076) (by decide +kernel) rfl
theorem wm_1077 : Cond.methodLink "WeekBoats$Boats" 109 ⟨"WeekBoats$Rules", "askDay", "(II)V"⟩ ∈ lw_gd := wmP (i := 1077) (by decide +kernel) rfl
theorem wm_1078 : Cond.methodLink "WeekBoats$Boats" 118 ⟨"WeekBoats$Rules", "serving", "(I)I"⟩ ∈ lw_gd := wmP (i := 1078) (by decide +kernel) rfl
theorem wm_1079 : Cond.methodLink "WeekBoats$Boats" 121 ⟨"WeekBoats$Rules", "valueOf", "(I)I"⟩ ∈ lw_gd := wmP (i := 1079) (by decide +kernel) rfl
theorem wm_1080 : Cond.instanceMethod ⟨"WeekBoats$Rules", "valueOf", "(I)I"⟩ ∈ lw_gd := wmP (i := 1080) (by decide +kernel) rfl
theorem wm_1081 : Cond.selects "WeekBoats$Rules" ⟨"WeekBoats$Rules", "valueOf", "(I)I"⟩ ⟨"WeekBoats$Rules", "valueOf", "(I)I"⟩ ∈ lw_gd := wmP (i := 1081) (by decide +kernel) rfl
theorem wm_1082 : Cond.code ⟨"WeekBoats$Rules", "valueOf", "(I)I"⟩ prog_8_method_10_code 2 (some .int) ∈ lw_gd := wmP (i := 1082) (by decide +kernel) rfl
theorem wm_1083 : Cond.methodLink "WeekBoats$Boats" 124 ⟨"java/lang/Math", "min", "(II)I"⟩ ∈ lw_gd := wmP (i := 1083) (by decide +kernel) rfl
theorem wm_1084 : Cond.methodLink "WeekBoats$Boats" 71 ⟨"java/lang/Math", "max", "(II)I"⟩ ∈ lw_gd := wmP (i := 1084) (by decide +kernel) rfl
theorem wm_1085 : Cond.methodLink "WeekBoatsLaw" 69 ⟨"WeekBoats", "back", "(II)I"⟩ ∈ lw_gd := wmP (i := 1085) (by decide +kernel) rfl
theorem wm_1086 : Cond.instanceMethod ⟨"WeekBoats", "back", "(II)I"⟩ ∈ lw_gd := wmP (i := 1086) (by decide +kernel) rfl
theorem wm_1087 : Cond.selects "WeekBoats" ⟨"WeekBoats", "back", "(II)I"⟩ ⟨"WeekBoats", "back", "(II)I"⟩ ∈ lw_gd := wmP (i := 1087) (by decide +kernel) rfl
theorem wm_1088 : Cond.code ⟨"WeekBoats", "back", "(II)I"⟩ prog_1_method_21_code 3 (some .int) ∈ lw_gd := wmP (i := 1088) (by decide +kernel) rfl
theorem wm_1089 : Cond.constant "WeekBoats" 198 (-1000000) ∈ lw_gd := wmP (i := 1089) (by decide +kernel) rfl
theorem wm_1090 : Cond.methodLink "WeekBoats" 199 ⟨"WeekBoats$Trips", "turningBack", "(I)I"⟩ ∈ lw_gd := wmP (i := 1090) (by decide +kernel) rfl
theorem wm_1091 : Cond.instanceMethod ⟨"WeekBoats$Trips", "turningBack", "(I)I"⟩ ∈ lw_gd := wmP (i := 1091) (by decide +kernel) rfl
theorem wm_1092 : Cond.selects "WeekBoats$Trips" ⟨"WeekBoats$Trips", "turningBack", "(I)I"⟩ ⟨"WeekBoats$Trips", "turningBack", "(I)I"⟩ ∈ lw_gd := wmP (i := 1092) (by decide +kernel) rfl
theorem wm_1093 : Cond.code ⟨"WeekBoats$Trips", "turningBack", "(I)I"⟩ prog_9_method_5_code 7 (some .int) ∈ lw_gd := wmP (i := 1093) (by decide +kernel) rfl
theorem wm_1094 : Cond.constant "WeekBoats$Trips" 64 (-1000000) ∈ lw_gd := wmP (i := 1094) (by decide +kernel) rfl
theorem wm_1095 : Cond.methodLink "WeekBoats$Trips" 65 ⟨"java/lang/Math", "abs", "(I)I"⟩ ∈ lw_gd := wmP (i := 1095) (by decide +kernel) rfl
theorem wm_1096 : Cond.static ⟨"java/lang/Math", "abs", "(I)I"⟩ ∈ lw_gd := wmP (i := 1096) (by decide +kernel) rfl
theorem wm_1097 : Cond.code ⟨"java/lang/Math", "abs", "(I)I"⟩ prog_17_method_59_code 1 (some .int) ∈ lw_gd := wmP (i := 1097) (by decide +kernel) rfl
theorem wm_1098 : Cond.methodLink "WeekBoats$Trips" 69 ⟨"WeekBoats$Trips", "isBackInTime", "(II)Z"⟩ ∈ lw_gd := wmP (i := 1098) (by decide +kernel) rfl
theorem wm_1100 : Cond.instanceMethod ⟨"WeekBoats$Trips", "isBackInTime", "(II)Z"⟩ ∈ lw_gd := wmP (i := 1100) (by decide +kernel) rfl
theorem wm_1101 : Cond.code ⟨"WeekBoats$Trips", "isBackInTime", "(II)Z"⟩ prog_9_method_6_code 6 (some .boolean) ∈ lw_gd := wmP (i := 1101) (by decide +kernel) rfl
theorem wm_1102 : Cond.methodLink "WeekBoats$Trips" 48 ⟨"WeekBoats$Voyage", "comesTo", "(IIIIZ)I"⟩ ∈ lw_gd := wmP (i := 1102) (by decide +kernel) rfl
theorem wm_1103 : Cond.methodLink "WeekBoats" 202 ⟨"WeekBoats$Trips", "refund", "(I)I"⟩ ∈ lw_gd := wmP (i := 1103) (by decide +kernel) rfl
theorem wm_1104 : Cond.instanceMethod ⟨"WeekBoats$Trips", "refund", "(I)I"⟩ ∈ lw_gd := wmP (i := 1104) (by decide +kernel) rfl
theorem wm_1105 : Cond.selects "WeekBoats$Trips" ⟨"WeekBoats$Trips", "refund", "(I)I"⟩ ⟨"WeekBoats$Trips", "refund", "(I)I"⟩ ∈ lw_gd := wmP (i := 1105) (by decide +kernel) rfl
theorem wm_1106 : Cond.code ⟨"WeekBoats$Trips", "refund", "(I)I"⟩ prog_9_method_7_code 6 (some .int) ∈ lw_gd := wmP (i := 1106) (by decide +kernel) rfl
theorem wm_1107 : Cond.methodLink "WeekBoats$Trips" 60 ⟨"WeekBoats$Trips", "lateBy", "(IZ)I"⟩ ∈ lw_gd := wmP (i := 1107) (by decide +kernel) rfl
theorem wm_1108 : Cond.instanceMethod ⟨"WeekBoats$Trips", "lateBy", "(IZ)I"⟩ ∈ lw_gd := wmP (i := 1108) (by decide +kernel) rfl
theorem wm_1109 : Cond.selects "WeekBoats$Trips" ⟨"WeekBoats$Trips", "lateBy", "(IZ)I"⟩ ⟨"WeekBoats$Trips", "lateBy", "(IZ)I"⟩ ∈ lw_gd := wmP (i := 1109) (by decide +kernel) rfl
theorem wm_1110 : Cond.code ⟨"WeekBoats$Trips", "lateBy", "(IZ)I"⟩ prog_9_method_3_code 4 (some .int) ∈ lw_gd := wmP (i := 1110) (by decide +kernel) rfl
theorem wm_1111 : Cond.methodLink "WeekBoats$Trips" 54 ⟨"java/lang/Math", "max", "(II)I"⟩ ∈ lw_gd := wmP (i := 1111) (by decide +kernel) rfl
theorem wm_1112 : Cond.methodLink "WeekBoats$Trips" 73 ⟨"WeekBoats$Boats", "priceLine", "(IIZ)I"⟩ ∈ lw_gd := wmP (i := 1112) (by decide +kernel) rfl
theorem wm_1113 : Cond.instanceMethod ⟨"WeekBoats$Boats", "priceLine", "(IIZ)I"⟩ ∈ lw_gd := wmP (i := 1113) (by decide +kernel) rfl
theorem wm_1114 : Cond.selects "WeekBoats$Boats" ⟨"WeekBoats$Boats", "priceLine", "(IIZ)I"⟩ ⟨"WeekBoats$Boats", "priceLine", "(IIZ)I"⟩ ∈ lw_gd := wmP (i := 1114) (by decide +kernel) rfl
theorem wm_1115 : Cond.code ⟨"WeekBoats$Boats", "priceLine", "(IIZ)I"⟩ prog_2_method_13_code 4 (some .int) ∈ lw_gd := wmP (i := 1115) (by decide +kernel) rfl
theorem wm_1116 : Cond.methodLink "WeekBoats$Boats" 127 ⟨"WeekBoats$Rules", "askWeek", "(I)V"⟩ ∈ lw_gd := wmP (i := 1116) (by decide +kernel) rfl
theorem wm_1117 : Cond.instanceMethod ⟨"WeekBoats$Rules", "askWeek", "(I)V"⟩ ∈ lw_gd := wmP (i := 1117) (by decide +kernel) rfl
theorem wm_1118 : Cond.selects "WeekBoats$Rules" ⟨"WeekBoats$Rules", "askWeek", "(I)V"⟩ ⟨"WeekBoats$Rules", "askWeek", "(I)V"⟩ ∈ lw_gd := wmP (i := 1118) (by decide +kernel) rfl
theorem wm_1119 : Cond.code ⟨"WeekBoats$Rules", "askWeek", "(I)V"⟩ prog_8_method_8_code 2 none ∈ lw_gd := wmP (i := 1119) (by decide +kernel) rfl
theorem wm_1120 : Cond.methodLink "WeekBoats$Trips" 77 ⟨"java/lang/Math", "min", "(II)I"⟩ ∈ lw_gd := wmP (i := 1120) (by decide +kernel) rfl
theorem wm_1121 : Cond.methodLink "WeekBoats$Trips" 80 ⟨"WeekBoats$Rules", "valueOf", "(I)I"⟩ ∈ lw_gd := wmP (i := 1121) (by decide +kernel) rfl
theorem wm_1122 : Cond.constantLong "WeekBoats$Trips" 85 7 ∈ lw_gd := wmP (i := 1122) (by decide +kernel) rfl
theorem wm_1123 : Cond.methodLink "WeekBoatsLaw" 73 ⟨"WeekBoats", "rung", "()I"⟩ ∈ lw_gd := wmP (i := 1123) (by decide +kernel) rfl
theorem wm_1124 : Cond.instanceMethod ⟨"WeekBoats", "rung", "()I"⟩ ∈ lw_gd := wmP (i := 1124) (by decide +kernel) rfl
theorem wm_1125 : Cond.selects "WeekBoats" ⟨"WeekBoats", "rung", "()I"⟩ ⟨"WeekBoats", "rung", "()I"⟩ ∈ lw_gd := wmP (i := 1125) (by decide +kernel) rfl
theorem wm_1126 : Cond.code ⟨"WeekBoats", "rung", "()I"⟩ prog_1_method_22_code 3 (some .int) ∈ lw_gd := wmP (i := 1126) (by decide +kernel) rfl
theorem wm_1127 : Cond.methodLink "WeekBoats" 205 ⟨"WeekBoats$Trips", "lateBy", "(IZ)I"⟩ ∈ lw_gd := wmP (i := 1127) (by decide +kernel) rfl
theorem wm_1128 : Cond.methodLink "WeekBoatsLaw" 77 ⟨"WeekBoats", "pump", "(IZ)Z"⟩ ∈ lw_gd := wmP (i := 1128) (by decide +kernel) rfl
theorem wm_1129 : Cond.instanceMethod ⟨"WeekBoats", "pump", "(IZ)Z"⟩ ∈ lw_gd := wmP (i := 1129) (by decide +kernel) rfl
theorem wm_1130 : Cond.selects "WeekBoats" ⟨"WeekBoats", "pump", "(IZ)Z"⟩ ⟨"WeekBoats", "pump", "(IZ)Z"⟩ ∈ lw_gd := wmP (i := 1130) (by decide +kernel) rfl
theorem wm_1131 : Cond.code ⟨"WeekBoats", "pump", "(IZ)Z"⟩ prog_1_method_23_code 3 (some .boolean) ∈ lw_gd := wmP (i := 1131) (by decide +kernel) rfl
theorem wm_1132 : Cond.methodLink "WeekBoats" 209 ⟨"WeekBoats$Canal", "setPump", "(IZ)V"⟩ ∈ lw_gd := wmP (i := 1132) (by decide +kernel) rfl
theorem wm_1133 : Cond.instanceMethod ⟨"WeekBoats$Canal", "setPump", "(IZ)V"⟩ ∈ lw_gd := wmP (i := 1133) (by decide +kernel) rfl
theorem wm_1134 : Cond.selects "WeekBoats$Canal" ⟨"WeekBoats$Canal", "setPump", "(IZ)V"⟩ ⟨"WeekBoats$Canal", "setPump", "(IZ)V"⟩ ∈ lw_gd := wmP (i := 1134) (by decide +kernel) rfl
theorem wm_1135 : Cond.code ⟨"WeekBoats$Canal", "setPump", "(IZ)V"⟩ prog_4_method_4_code 3 none ∈ lw_gd := wmP (i := 1135) (by decide +kernel) rfl
theorem wm_1136 : Cond.methodLink "WeekBoatsLaw" 82 ⟨"WeekBoats", "pumped", "(IIIII)I"⟩ ∈ lw_gd := wmP (i := 1136) (by decide +kernel) rfl
theorem wm_1137 : Cond.instanceMethod ⟨"WeekBoats", "pumped", "(IIIII)I"⟩ ∈ lw_gd := wmP (i := 1137) (by decide +kernel) rfl
theorem wm_1138 : Cond.selects "WeekBoats" ⟨"WeekBoats", "pumped", "(IIIII)I"⟩ ⟨"WeekBoats", "pumped", "(IIIII)I"⟩ ∈ lw_gd := wmP (i := 1138) (by decide +kernel) rfl
theorem wm_1139 : Cond.code ⟨"WeekBoats", "pumped", "(IIIII)I"⟩ prog_1_method_24_code 8 (some .int) ∈ lw_gd := wmP (i := 1139) (by decide +kernel) rfl
theorem wm_1140 : Cond.methodLink "WeekBoats" 213 ⟨"WeekBoats$Voyage", "nextPump", "()I"⟩ ∈ lw_gd := wmP (i := 1140) (by decide +kernel) rfl
theorem wm_1141 : Cond.instanceMethod ⟨"WeekBoats$Voyage", "nextPump", "()I"⟩ ∈ lw_gd := wmP (i := 1141) (by decide +kernel) rfl
theorem wm_1142 : Cond.selects "WeekBoats$Voyage" ⟨"WeekBoats$Voyage", "nextPump", "()I"⟩ ⟨"WeekBoats$Voyage", "nextPump", "()I"⟩ ∈ lw_gd := wmP (i := 1142) (by decide +kernel) rfl
theorem wm_1143 : Cond.code ⟨"WeekBoats$Voyage", "nextPump", "()I"⟩ prog_11_method_7_code 4 (some .int) ∈ lw_gd := wmP (i := 1143) (by decide +kernel) rfl
theorem wm_1144 : Cond.methodLink "WeekBoatsLaw" 86 ⟨"WeekBoats", "enough", "(IIIII)I"⟩ ∈ lw_gd := wmP (i := 1144) (by decide +kernel) rfl
theorem wm_1145 : Cond.instanceMethod ⟨"WeekBoats", "enough", "(IIIII)I"⟩ ∈ lw_gd := wmP (i := 1145) (by decide +kernel) rfl
theorem wm_1146 : Cond.selects "WeekBoats" ⟨"WeekBoats", "enough", "(IIIII)I"⟩ ⟨"WeekBoats", "enough", "(IIIII)I"⟩ ∈ lw_gd := wmP (i := 1146) (by decide +kernel) rfl
theorem wm_1147 : Cond.code ⟨"WeekBoats", "enough", "(IIIII)I"⟩ prog_1_method_25_code 8 (some .int) ∈ lw_gd := wmP (i := 1147) (by decide +kernel) rfl
theorem wm_1148 : Cond.methodLink "WeekBoatsLaw" 90 ⟨"WeekBoats", "trip", "(IIIII)I"⟩ ∈ lw_gd := wmP (i := 1148) (by decide +kernel) rfl
theorem wm_1149 : Cond.instanceMethod ⟨"WeekBoats", "trip", "(IIIII)I"⟩ ∈ lw_gd := wmP (i := 1149) (by decide +kernel) rfl
theorem wm_1150 : Cond.selects "WeekBoats" ⟨"WeekBoats", "trip", "(IIIII)I"⟩ ⟨"WeekBoats", "trip", "(IIIII)I"⟩ ∈ lw_gd := wmP (i := 1150) (by decide +kernel) rfl
theorem wm_1151 : Cond.code ⟨"WeekBoats", "trip", "(IIIII)I"⟩ prog_1_method_26_code 6 (some .int) ∈ lw_gd := wmP (i := 1151) (by decide +kernel) rfl
theorem wm_1152 : Cond.methodLink "WeekBoats" 219 ⟨"WeekBoats$Trips", "add", "(IIIII)I"⟩ ∈ lw_gd := wmP (i := 1152) (by decide +kernel) rfl
theorem wm_1153 : Cond.instanceMethod ⟨"WeekBoats$Trips", "add", "(IIIII)I"⟩ ∈ lw_gd := wmP (i := 1153) (by decide +kernel) rfl
theorem wm_1154 : Cond.selects "WeekBoats$Trips" ⟨"WeekBoats$Trips", "add", "(IIIII)I"⟩ ⟨"WeekBoats$Trips", "add", "(IIIII)I"⟩ ∈ lw_gd := wmP (i := 1154) (by decide +kernel) rfl
theorem wm_1155 : Cond.code ⟨"WeekBoats$Trips", "add", "(IIIII)I"⟩ prog_9_method_2_code 6 (some .int) ∈ lw_gd := wmP (i := 1155) (by decide +kernel) rfl
theorem wm_1156 : Cond.methodLink "WeekBoatsLaw" 94 ⟨"WeekBoats", "late", "(I)I"⟩ ∈ lw_gd := wmP (i := 1156) (by decide +kernel) rfl
theorem wm_1157 : Cond.instanceMethod ⟨"WeekBoats", "late", "(I)I"⟩ ∈ lw_gd := wmP (i := 1157) (by decide +kernel) rfl
theorem wm_1158 : Cond.selects "WeekBoats" ⟨"WeekBoats", "late", "(I)I"⟩ ⟨"WeekBoats", "late", "(I)I"⟩ ∈ lw_gd := wmP (i := 1158) (by decide +kernel) rfl
theorem wm_1159 : Cond.code ⟨"WeekBoats", "late", "(I)I"⟩ prog_1_method_27_code 2 (some .int) ∈ lw_gd := wmP (i := 1159) (by decide +kernel) rfl
theorem wm_1160 : Cond.methodLink "WeekBoats" 222 ⟨"WeekBoats$Trips", "howManyLate", "()I"⟩ ∈ lw_gd := wmP (i := 1160) (by decide +kernel) rfl
theorem wm_1161 : Cond.instanceMethod ⟨"WeekBoats$Trips", "howManyLate", "()I"⟩ ∈ lw_gd := wmP (i := 1161) (by decide +kernel) rfl
theorem wm_1162 : Cond.selects "WeekBoats$Trips" ⟨"WeekBoats$Trips", "howManyLate", "()I"⟩ ⟨"WeekBoats$Trips", "howManyLate", "()I"⟩ ∈ lw_gd := wmP (i := 1162) (by decide +kernel) rfl
theorem wm_1163 : Cond.code ⟨"WeekBoats$Trips", "howManyLate", "()I"⟩ prog_9_method_4_code 3 (some .int) ∈ lw_gd := wmP (i := 1163) (by decide +kernel) rfl
theorem wm_1164 : Cond.methodLink "WeekBoatsLaw" 98 ⟨"WeekBoats", "log", "(III)I"⟩ ∈ lw_gd := wmP (i := 1164) (by decide +kernel) rfl
theorem wm_1165 : Cond.instanceMethod ⟨"WeekBoats", "log", "(III)I"⟩ ∈ lw_gd := wmP (i := 1165) (by decide +kernel) rfl
theorem wm_1166 : Cond.selects "WeekBoats" ⟨"WeekBoats", "log", "(III)I"⟩ ⟨"WeekBoats", "log", "(III)I"⟩ ∈ lw_gd := wmP (i := 1166) (by decide +kernel) rfl
theorem wm_1167 : Cond.code ⟨"WeekBoats", "log", "(III)I"⟩ prog_1_method_28_code 4 (some .int) ∈ lw_gd := wmP (i := 1167) (by decide +kernel) rfl
theorem wm_1168 : Cond.methodLink "WeekBoats" 225 ⟨"WeekBoats$Boats", "addLog", "(III)I"⟩ ∈ lw_gd := wmP (i := 1168) (by decide +kernel) rfl
theorem wm_1169 : Cond.instanceMethod ⟨"WeekBoats$Boats", "addLog", "(III)I"⟩ ∈ lw_gd := wmP (i := 1169) (by decide +kernel) rfl
theorem wm_1170 : Cond.selects "WeekBoats$Boats" ⟨"WeekBoats$Boats", "addLog", "(III)I"⟩ ⟨"WeekBoats$Boats", "addLog", "(III)I"⟩ ∈ lw_gd := wmP (i := 1170) (by decide +kernel) rfl
theorem wm_1171 : Cond.code ⟨"WeekBoats$Boats", "addLog", "(III)I"⟩ prog_2_method_3_code 5 (some .int) ∈ lw_gd := wmP (i := 1171) (by decide +kernel) rfl
theorem wm_1172 : Cond.methodLink "WeekBoatsLaw" 102 ⟨"WeekBoats", "could", "(IIII)I"⟩ ∈ lw_gd := wmP (i := 1172) (by decide +kernel) rfl
theorem wm_1173 : Cond.instanceMethod ⟨"WeekBoats", "could", "(IIII)I"⟩ ∈ lw_gd := wmP (i := 1173) (by decide +kernel) rfl
theorem wm_1174 : Cond.selects "WeekBoats" ⟨"WeekBoats", "could", "(IIII)I"⟩ ⟨"WeekBoats", "could", "(IIII)I"⟩ ∈ lw_gd := wmP (i := 1174) (by decide +kernel) rfl
theorem wm_1175 : Cond.code ⟨"WeekBoats", "could", "(IIII)I"⟩ prog_1_method_29_code 5 (some .int) ∈ lw_gd := wmP (i := 1175) (by decide +kernel) rfl
theorem wm_1176 : Cond.methodLink "WeekBoats" 229 ⟨"WeekBoats$Boats", "canHaveBeen", "(IIII)Z"⟩ ∈ lw_gd := wmP (i := 1176) (by decide +kernel) rfl
theorem wm_1177 : Cond.instanceMethod ⟨"WeekBoats$Boats", "canHaveBeen", "(IIII)Z"⟩ ∈ lw_gd := wmP (i := 1177) (by decide +kernel) rfl
theorem wm_1178 : Cond.selects "WeekBoats$Boats" ⟨"WeekBoats$Boats", "canHaveBeen", "(IIII)Z"⟩ ⟨"WeekBoats$Boats", "canHaveBeen", "(IIII)Z"⟩ ∈ lw_gd := wmP (i := 1178) (by decide +kernel) rfl
theorem wm_1179 : Cond.code ⟨"WeekBoats$Boats", "canHaveBeen", "(IIII)Z"⟩ prog_2_method_6_code 6 (some .boolean) ∈ lw_gd := wmP (i := 1179) (by decide +kernel) rfl
theorem wm_1180 : Cond.methodLink "WeekBoats$Boats" 54 ⟨"WeekBoats$Boats", "canBetween", "(IIIII)Z"⟩ ∈ lw_gd := wmP (i := 1180) (by decide +kernel) rfl
theorem wm_1182 : Cond.instanceMethod ⟨"WeekBoats$Boats", "canBetween", "(IIIII)Z"⟩ ∈ lw_gd := wmP (i := 1182) (by decide +kernel) rfl
theorem wm_1183 : Cond.code ⟨"WeekBoats$Boats", "canBetween", "(IIIII)Z"⟩ prog_2_method_7_code 12 (some .boolean) ∈ lw_gd := wmP (i := 1183) (by decide +kernel) rfl
theorem wm_1184 : Cond.methodLink "WeekBoats$Boats" 58 ⟨"WeekBoats$Boats", "placeOf", "(II)I"⟩ ∈ lw_gd := wmP (i := 1184) (by decide +kernel) rfl
theorem wm_1186 : Cond.instanceMethod ⟨"WeekBoats$Boats", "placeOf", "(II)I"⟩ ∈ lw_gd := wmP (i := 1186) (by decide +kernel) rfl
theorem wm_1187 : Cond.code ⟨"WeekBoats$Boats", "placeOf", "(II)I"⟩ prog_2_method_4_code 3 (some .int) ∈ lw_gd := wmP (i := 1187) (by decide +kernel) rfl
theorem wm_1188 : Cond.methodLink "WeekBoats$Boats" 62 ⟨"WeekBoats$Boats", "timeOf", "(II)I"⟩ ∈ lw_gd := wmP (i := 1188) (by decide +kernel) rfl
theorem wm_1190 : Cond.instanceMethod ⟨"WeekBoats$Boats", "timeOf", "(II)I"⟩ ∈ lw_gd := wmP (i := 1190) (by decide +kernel) rfl
theorem wm_1191 : Cond.code ⟨"WeekBoats$Boats", "timeOf", "(II)I"⟩ prog_2_method_5_code 3 (some .int) ∈ lw_gd := wmP (i := 1191) (by decide +kernel) rfl
theorem wm_1192 : Cond.methodLink "WeekBoats$Boats" 65 ⟨"WeekBoats$Voyage", "comesTo", "(IIIIZ)I"⟩ ∈ lw_gd := wmP (i := 1192) (by decide +kernel) rfl
theorem wm_1193 : Cond.methodLink "WeekBoatsLaw" 106 ⟨"WeekBoats", "whose", "(IIII)I"⟩ ∈ lw_gd := wmP (i := 1193) (by decide +kernel) rfl
theorem wm_1194 : Cond.instanceMethod ⟨"WeekBoats", "whose", "(IIII)I"⟩ ∈ lw_gd := wmP (i := 1194) (by decide +kernel) rfl
theorem wm_1195 : Cond.selects "WeekBoats" ⟨"WeekBoats", "whose", "(IIII)I"⟩ ⟨"WeekBoats", "whose", "(IIII)I"⟩ ∈ lw_gd := wmP (i := 1195) (by decide +kernel) rfl
theorem wm_1196 : Cond.code ⟨"WeekBoats", "whose", "(IIII)I"⟩ prog_1_method_30_code 8 (some .int) ∈ lw_gd := wmP (i := 1196) (by decide +kernel) rfl
theorem wm_1197 : Cond.methodLink "WeekBoats" 232 ⟨"java/lang/Integer", "bitCount", "(I)I"⟩ ∈ lw_gd := wmP (i := 1197) (by decide +kernel) rfl
theorem wm_1198 : Cond.static ⟨"java/lang/Integer", "bitCount", "(I)I"⟩ ∈ lw_gd := wmP (i := 1198) (by decide +kernel) rfl
theorem wm_1199 : Cond.code ⟨"java/lang/Integer", "bitCount", "(I)I"⟩ prog_16_method_49_code 1 (some .int) ∈ lw_gd := wmP (i := 1199) (by decide +kernel) rfl
theorem wm_1200 : Cond.constant "java/lang/Integer" 265 1431655765 ∈ lw_gd := wmP (i := 1200) (by decide +kernel) rfl
theorem wm_1201 : Cond.constant "java/lang/Integer" 266 858993459 ∈ lw_gd := wmP (i := 1201) (by decide +kernel) rfl
theorem wm_1202 : Cond.constant "java/lang/Integer" 267 252645135 ∈ lw_gd := wmP (i := 1202) (by decide +kernel) rfl
theorem wm_1203 : Cond.methodLink "WeekBoatsLaw" 110 ⟨"WeekBoats", "tonight", "(II)I"⟩ ∈ lw_gd := wmP (i := 1203) (by decide +kernel) rfl
theorem wm_1204 : Cond.instanceMethod ⟨"WeekBoats", "tonight", "(II)I"⟩ ∈ lw_gd := wmP (i := 1204) (by decide +kernel) rfl
theorem wm_1205 : Cond.selects "WeekBoats" ⟨"WeekBoats", "tonight", "(II)I"⟩ ⟨"WeekBoats", "tonight", "(II)I"⟩ ∈ lw_gd := wmP (i := 1205) (by decide +kernel) rfl
theorem wm_1206 : Cond.code ⟨"WeekBoats", "tonight", "(II)I"⟩ prog_1_method_31_code 4 (some .int) ∈ lw_gd := wmP (i := 1206) (by decide +kernel) rfl
theorem wm_1207 : Cond.methodLink "WeekBoats" 237 ⟨"WeekBoats$Boats", "settleTonight", "(I)V"⟩ ∈ lw_gd := wmP (i := 1207) (by decide +kernel) rfl
theorem wm_1208 : Cond.instanceMethod ⟨"WeekBoats$Boats", "settleTonight", "(I)V"⟩ ∈ lw_gd := wmP (i := 1208) (by decide +kernel) rfl
theorem wm_1209 : Cond.selects "WeekBoats$Boats" ⟨"WeekBoats$Boats", "settleTonight", "(I)V"⟩ ⟨"WeekBoats$Boats", "settleTonight", "(I)V"⟩ ∈ lw_gd := wmP (i := 1209) (by decide +kernel) rfl
theorem wm_1210 : Cond.code ⟨"WeekBoats$Boats", "settleTonight", "(I)V"⟩ prog_2_method_8_code 6 none ∈ lw_gd := wmP (i := 1210) (by decide +kernel) rfl
theorem wm_1211 : Cond.methodLink "WeekBoats$Boats" 76 ⟨"java/util/Arrays", "fill", "([II)V"⟩ ∈ lw_gd := wmP (i := 1211) (by decide +kernel) rfl
theorem wm_1212 : Cond.methodLink "WeekBoats$Boats" 82 ⟨"WeekBoats$Boats", "lastLog", "(II)I"⟩ ∈ lw_gd := wmP (i := 1212) (by decide +kernel) rfl
theorem wm_1214 : Cond.instanceMethod ⟨"WeekBoats$Boats", "lastLog", "(II)I"⟩ ∈ lw_gd := wmP (i := 1214) (by decide +kernel) rfl
theorem wm_1215 : Cond.code ⟨"WeekBoats$Boats", "lastLog", "(II)I"⟩ prog_2_method_9_code 5 (some .int) ∈ lw_gd := wmP (i := 1215) (by decide +kernel) rfl
theorem wm_1216 : Cond.methodLink "WeekBoats$Boats" 85 ⟨"WeekBoats$Voyage", "reach", "(III)V"⟩ ∈ lw_gd := wmP (i := 1216) (by decide +kernel) rfl
theorem wm_1217 : Cond.methodLink "WeekBoats$Boats" 89 ⟨"WeekBoats$Voyage", "reached", "(I)I"⟩ ∈ lw_gd := wmP (i := 1217) (by decide +kernel) rfl
theorem wm_1218 : Cond.methodLink "WeekBoats" 243 ⟨"WeekBoats$Boats", "crowd", "()I"⟩ ∈ lw_gd := wmP (i := 1218) (by decide +kernel) rfl
theorem wm_1219 : Cond.instanceMethod ⟨"WeekBoats$Boats", "crowd", "()I"⟩ ∈ lw_gd := wmP (i := 1219) (by decide +kernel) rfl
theorem wm_1220 : Cond.selects "WeekBoats$Boats" ⟨"WeekBoats$Boats", "crowd", "()I"⟩ ⟨"WeekBoats$Boats", "crowd", "()I"⟩ ∈ lw_gd := wmP (i := 1220) (by decide +kernel) rfl
theorem wm_1221 : Cond.code ⟨"WeekBoats$Boats", "crowd", "()I"⟩ prog_2_method_10_code 3 (some .int) ∈ lw_gd := wmP (i := 1221) (by decide +kernel) rfl
theorem wm_1222 : Cond.methodLink "WeekBoats$Boats" 93 ⟨"java/lang/Integer", "bitCount", "(I)I"⟩ ∈ lw_gd := wmP (i := 1222) (by decide +kernel) rfl
theorem wm_1223 : Cond.methodLink "WeekBoatsLaw" 114 ⟨"WeekBoats", "queue", "(II)I"⟩ ∈ lw_gd := wmP (i := 1223) (by decide +kernel) rfl
theorem wm_1224 : Cond.instanceMethod ⟨"WeekBoats", "queue", "(II)I"⟩ ∈ lw_gd := wmP (i := 1224) (by decide +kernel) rfl
theorem wm_1225 : Cond.selects "WeekBoats" ⟨"WeekBoats", "queue", "(II)I"⟩ ⟨"WeekBoats", "queue", "(II)I"⟩ ∈ lw_gd := wmP (i := 1225) (by decide +kernel) rfl
theorem wm_1226 : Cond.code ⟨"WeekBoats", "queue", "(II)I"⟩ prog_1_method_32_code 3 (some .int) ∈ lw_gd := wmP (i := 1226) (by decide +kernel) rfl
theorem wm_1227 : Cond.methodLink "WeekBoats" 246 ⟨"WeekBoats$LockQueue", "clear", "()V"⟩ ∈ lw_gd := wmP (i := 1227) (by decide +kernel) rfl
theorem wm_1228 : Cond.instanceMethod ⟨"WeekBoats$LockQueue", "clear", "()V"⟩ ∈ lw_gd := wmP (i := 1228) (by decide +kernel) rfl
theorem wm_1229 : Cond.selects "WeekBoats$LockQueue" ⟨"WeekBoats$LockQueue", "clear", "()V"⟩ ⟨"WeekBoats$LockQueue", "clear", "()V"⟩ ∈ lw_gd := wmP (i := 1229) (by decide +kernel) rfl
theorem wm_1230 : Cond.code ⟨"WeekBoats$LockQueue", "clear", "()V"⟩ prog_5_method_2_code 1 none ∈ lw_gd := wmP (i := 1230) (by decide +kernel) rfl
theorem wm_1231 : Cond.methodLink "WeekBoats" 249 ⟨"WeekBoats$LockQueue", "add", "(II)I"⟩ ∈ lw_gd := wmP (i := 1231) (by decide +kernel) rfl
theorem wm_1232 : Cond.instanceMethod ⟨"WeekBoats$LockQueue", "add", "(II)I"⟩ ∈ lw_gd := wmP (i := 1232) (by decide +kernel) rfl
theorem wm_1233 : Cond.selects "WeekBoats$LockQueue" ⟨"WeekBoats$LockQueue", "add", "(II)I"⟩ ⟨"WeekBoats$LockQueue", "add", "(II)I"⟩ ∈ lw_gd := wmP (i := 1233) (by decide +kernel) rfl
theorem wm_1234 : Cond.code ⟨"WeekBoats$LockQueue", "add", "(II)I"⟩ prog_5_method_3_code 3 (some .int) ∈ lw_gd := wmP (i := 1234) (by decide +kernel) rfl
theorem wm_1235 : Cond.methodLink "WeekBoats$LockQueue" 34 ⟨"WeekBoats$LockQueue", "findBest", "()V"⟩ ∈ lw_gd := wmP (i := 1235) (by decide +kernel) rfl
theorem wm_1237 : Cond.instanceMethod ⟨"WeekBoats$LockQueue", "findBest", "()V"⟩ ∈ lw_gd := wmP (i := 1237) (by decide +kernel) rfl
theorem wm_1238 : Cond.code ⟨"WeekBoats$LockQueue", "findBest", "()V"⟩ prog_5_method_4_code 2 none ∈ lw_gd := wmP (i := 1238) (by decide +kernel) rfl
theorem wm_1239 : Cond.methodLink "WeekBoats$LockQueue" 37 ⟨"WeekBoats$LockQueue", "waitOf", "([I)I"⟩ ∈ lw_gd := wmP (i := 1239) (by decide +kernel) rfl
theorem wm_1241 : Cond.instanceMethod ⟨"WeekBoats$LockQueue", "waitOf", "([I)I"⟩ ∈ lw_gd := wmP (i := 1241) (by decide +kernel) rfl
theorem wm_1242 : Cond.code ⟨"WeekBoats$LockQueue", "waitOf", "([I)I"⟩ prog_5_method_5_code 6 (some .int) ∈ lw_gd := wmP (i := 1242) (by decide +kernel) rfl
theorem wm_1243 : Cond.methodLink "WeekBoats$LockQueue" 45 ⟨"java/lang/Math", "max", "(II)I"⟩ ∈ lw_gd := wmP (i := 1243) (by decide +kernel) rfl
theorem wm_1244 : Cond.methodLink "WeekBoats$LockQueue" 51 ⟨"WeekBoats$LockQueue", "minutesOf", "([II)I"⟩ ∈ lw_gd := wmP (i := 1244) (by decide +kernel) rfl
theorem wm_1246 : Cond.instanceMethod ⟨"WeekBoats$LockQueue", "minutesOf", "([II)I"⟩ ∈ lw_gd := wmP (i := 1246) (by decide +kernel) rfl
theorem wm_1247 : Cond.code ⟨"WeekBoats$LockQueue", "minutesOf", "([II)I"⟩ prog_5_method_6_code 3 (some .int) ∈ lw_gd := wmP (i := 1247) (by decide +kernel) rfl
theorem wm_1248 : Cond.methodLink "WeekBoats$LockQueue" 41 ⟨"WeekBoats$LockQueue", "putNext", "(LWeekBoats$LockQueue;IIII)V"⟩ ∈ lw_gd := wmP (i := 1248) (by decide +kernel) rfl
theorem wm_1249 : Cond.static ⟨"WeekBoats$LockQueue", "putNext", "(LWeekBoats$LockQueue;IIII)V"⟩ ∈ lw_gd := wmP (i := 1249) (by decide +kernel) rfl
theorem wm_1250 : Cond.code ⟨"WeekBoats$LockQueue", "putNext", "(LWeekBoats$LockQueue;IIII)V"⟩ prog_5_method_7_code 8 none ∈ lw_gd := wmP (i := 1250) (by decide +kernel) rfl
theorem wm_1251 : Cond.methodLink "WeekBoats$LockQueue" 55 ⟨"java/lang/System", "arraycopy", "(Ljava/lang/Object;ILjava/lang/Object;II)V"⟩ ∈ lw_gd := wmP (i := 1251) (by decide +kernel) rfl
theorem wm_1252 : Cond.methodLink "WeekBoatsLaw" 118 ⟨"WeekBoats", "lock", "(I)I"⟩ ∈ lw_gd := wmP (i := 1252) (by decide +kernel) rfl
theorem wm_1253 : Cond.instanceMethod ⟨"WeekBoats", "lock", "(I)I"⟩ ∈ lw_gd := wmP (i := 1253) (by decide +kernel) rfl
theorem wm_1254 : Cond.selects "WeekBoats" ⟨"WeekBoats", "lock", "(I)I"⟩ ⟨"WeekBoats", "lock", "(I)I"⟩ ∈ lw_gd := wmP (i := 1254) (by decide +kernel) rfl
theorem wm_1255 : Cond.code ⟨"WeekBoats", "lock", "(I)I"⟩ prog_1_method_33_code 2 (some .int) ∈ lw_gd := wmP (i := 1255) (by decide +kernel) rfl
theorem wm_1256 : Cond.methodLink "WeekBoats" 258 ⟨"WeekBoats$LockQueue", "lockfulsAsCome", "()I"⟩ ∈ lw_gd := wmP (i := 1256) (by decide +kernel) rfl
theorem wm_1257 : Cond.instanceMethod ⟨"WeekBoats$LockQueue", "lockfulsAsCome", "()I"⟩ ∈ lw_gd := wmP (i := 1257) (by decide +kernel) rfl
theorem wm_1258 : Cond.selects "WeekBoats$LockQueue" ⟨"WeekBoats$LockQueue", "lockfulsAsCome", "()I"⟩ ⟨"WeekBoats$LockQueue", "lockfulsAsCome", "()I"⟩ ∈ lw_gd := wmP (i := 1258) (by decide +kernel) rfl
theorem wm_1259 : Cond.code ⟨"WeekBoats$LockQueue", "lockfulsAsCome", "()I"⟩ prog_5_method_8_code 3 (some .int) ∈ lw_gd := wmP (i := 1259) (by decide +kernel) rfl
theorem wm_1260 : Cond.methodLink "WeekBoats" 261 ⟨"WeekBoats$LockQueue", "lockfulsAtBest", "()I"⟩ ∈ lw_gd := wmP (i := 1260) (by decide +kernel) rfl
theorem wm_1261 : Cond.instanceMethod ⟨"WeekBoats$LockQueue", "lockfulsAtBest", "()I"⟩ ∈ lw_gd := wmP (i := 1261) (by decide +kernel) rfl
theorem wm_1262 : Cond.selects "WeekBoats$LockQueue" ⟨"WeekBoats$LockQueue", "lockfulsAtBest", "()I"⟩ ⟨"WeekBoats$LockQueue", "lockfulsAtBest", "()I"⟩ ∈ lw_gd := wmP (i := 1262) (by decide +kernel) rfl
theorem wm_1263 : Cond.code ⟨"WeekBoats$LockQueue", "lockfulsAtBest", "()I"⟩ prog_5_method_9_code 3 (some .int) ∈ lw_gd := wmP (i := 1263) (by decide +kernel) rfl
theorem wm_1264 : Cond.methodLink "WeekBoats" 264 ⟨"WeekBoats$LockQueue", "atBest", "(I)I"⟩ ∈ lw_gd := wmP (i := 1264) (by decide +kernel) rfl
theorem wm_1265 : Cond.instanceMethod ⟨"WeekBoats$LockQueue", "atBest", "(I)I"⟩ ∈ lw_gd := wmP (i := 1265) (by decide +kernel) rfl
theorem wm_1266 : Cond.selects "WeekBoats$LockQueue" ⟨"WeekBoats$LockQueue", "atBest", "(I)I"⟩ ⟨"WeekBoats$LockQueue", "atBest", "(I)I"⟩ ∈ lw_gd := wmP (i := 1266) (by decide +kernel) rfl
theorem wm_1267 : Cond.code ⟨"WeekBoats$LockQueue", "atBest", "(I)I"⟩ prog_5_method_10_code 2 (some .int) ∈ lw_gd := wmP (i := 1267) (by decide +kernel) rfl
theorem wm_1269 : Cond.methodLink "WeekBoatsLaw" 122 ⟨"WeekBoats", "booking", "(IIII)I"⟩ ∈ lw_gd := wmP (i := 1269) (by decide +kernel) rfl
theorem wm_1270 : Cond.instanceMethod ⟨"WeekBoats", "booking", "(IIII)I"⟩ ∈ lw_gd := wmP (i := 1270) (by decide +kernel) rfl
theorem wm_1271 : Cond.selects "WeekBoats" ⟨"WeekBoats", "booking", "(IIII)I"⟩ ⟨"WeekBoats", "booking", "(IIII)I"⟩ ∈ lw_gd := wmP (i := 1271) (by decide +kernel) rfl
theorem wm_1272 : Cond.code ⟨"WeekBoats", "booking", "(IIII)I"⟩ prog_1_method_34_code 5 (some .int) ∈ lw_gd := wmP (i := 1272) (by decide +kernel) rfl
theorem wm_1273 : Cond.methodLink "WeekBoats" 267 ⟨"WeekBoats", "isWeek", "(I)Z"⟩ ∈ lw_gd := wmP (i := 1273) (by decide +kernel) rfl
theorem wm_1274 : Cond.static ⟨"WeekBoats", "isWeek", "(I)Z"⟩ ∈ lw_gd := wmP (i := 1274) (by decide +kernel) rfl
theorem wm_1275 : Cond.code ⟨"WeekBoats", "isWeek", "(I)Z"⟩ prog_1_method_5_code 1 (some .boolean) ∈ lw_gd := wmP (i := 1275) (by decide +kernel) rfl
theorem wm_1276 : Cond.methodLink "WeekBoats" 270 ⟨"WeekBoats$Bookings", "add", "(IIII)I"⟩ ∈ lw_gd := wmP (i := 1276) (by decide +kernel) rfl
theorem wm_1277 : Cond.instanceMethod ⟨"WeekBoats$Bookings", "add", "(IIII)I"⟩ ∈ lw_gd := wmP (i := 1277) (by decide +kernel) rfl
theorem wm_1278 : Cond.selects "WeekBoats$Bookings" ⟨"WeekBoats$Bookings", "add", "(IIII)I"⟩ ⟨"WeekBoats$Bookings", "add", "(IIII)I"⟩ ∈ lw_gd := wmP (i := 1278) (by decide +kernel) rfl
theorem wm_1279 : Cond.code ⟨"WeekBoats$Bookings", "add", "(IIII)I"⟩ prog_3_method_2_code 5 (some .int) ∈ lw_gd := wmP (i := 1279) (by decide +kernel) rfl
theorem wm_1280 : Cond.methodLink "WeekBoats$Bookings" 55 ⟨"WeekBoats$Bookings", "putInOrder", "()V"⟩ ∈ lw_gd := wmP (i := 1280) (by decide +kernel) rfl
theorem wm_1282 : Cond.instanceMethod ⟨"WeekBoats$Bookings", "putInOrder", "()V"⟩ ∈ lw_gd := wmP (i := 1282) (by decide +kernel) rfl
theorem wm_1283 : Cond.code ⟨"WeekBoats$Bookings", "putInOrder", "()V"⟩ prog_3_method_3_code 4 none ∈ lw_gd := wmP (i := 1283) (by decide +kernel) rfl
theorem wm_1284 : Cond.methodLink "WeekBoatsLaw" 126 ⟨"WeekBoats", "given", "(II)I"⟩ ∈ lw_gd := wmP (i := 1284) (by decide +kernel) rfl
theorem wm_1285 : Cond.instanceMethod ⟨"WeekBoats", "given", "(II)I"⟩ ∈ lw_gd := wmP (i := 1285) (by decide +kernel) rfl
theorem wm_1286 : Cond.selects "WeekBoats" ⟨"WeekBoats", "given", "(II)I"⟩ ⟨"WeekBoats", "given", "(II)I"⟩ ∈ lw_gd := wmP (i := 1286) (by decide +kernel) rfl
theorem wm_1287 : Cond.code ⟨"WeekBoats", "given", "(II)I"⟩ prog_1_method_35_code 3 (some .int) ∈ lw_gd := wmP (i := 1287) (by decide +kernel) rfl
theorem wm_1288 : Cond.methodLink "WeekBoats" 271 ⟨"WeekBoats", "hireFirst", "(I)V"⟩ ∈ lw_gd := wmP (i := 1288) (by decide +kernel) rfl
theorem wm_1290 : Cond.instanceMethod ⟨"WeekBoats", "hireFirst", "(I)V"⟩ ∈ lw_gd := wmP (i := 1290) (by decide +kernel) rfl
theorem wm_1291 : Cond.code ⟨"WeekBoats", "hireFirst", "(I)V"⟩ prog_1_method_36_code 3 none ∈ lw_gd := wmP (i := 1291) (by decide +kernel) rfl
theorem wm_1292 : Cond.methodLink "WeekBoats" 293 ⟨"WeekBoats$Bookings", "hire", "(III)V"⟩ ∈ lw_gd := wmP (i := 1292) (by decide +kernel) rfl
theorem wm_1293 : Cond.instanceMethod ⟨"WeekBoats$Bookings", "hire", "(III)V"⟩ ∈ lw_gd := wmP (i := 1293) (by decide +kernel) rfl
theorem wm_1294 : Cond.selects "WeekBoats$Bookings" ⟨"WeekBoats$Bookings", "hire", "(III)V"⟩ ⟨"WeekBoats$Bookings", "hire", "(III)V"⟩ ∈ lw_gd := wmP (i := 1294) (by decide +kernel) rfl
theorem wm_1295 : Cond.code ⟨"WeekBoats$Bookings", "hire", "(III)V"⟩ prog_3_method_4_code 4 none ∈ lw_gd := wmP (i := 1295) (by decide +kernel) rfl
theorem wm_1296 : Cond.methodLink "WeekBoats" 274 ⟨"WeekBoats$Bookings", "giveBest", "(I)V"⟩ ∈ lw_gd := wmP (i := 1296) (by decide +kernel) rfl
theorem wm_1297 : Cond.instanceMethod ⟨"WeekBoats$Bookings", "giveBest", "(I)V"⟩ ∈ lw_gd := wmP (i := 1297) (by decide +kernel) rfl
theorem wm_1298 : Cond.selects "WeekBoats$Bookings" ⟨"WeekBoats$Bookings", "giveBest", "(I)V"⟩ ⟨"WeekBoats$Bookings", "giveBest", "(I)V"⟩ ∈ lw_gd := wmP (i := 1298) (by decide +kernel) rfl
theorem wm_1299 : Cond.code ⟨"WeekBoats$Bookings", "giveBest", "(I)V"⟩ prog_3_method_5_code 3 none ∈ lw_gd := wmP (i := 1299) (by decide +kernel) rfl
theorem wm_1300 : Cond.methodLink "WeekBoats$Bookings" 58 ⟨"java/lang/Math", "min", "(II)I"⟩ ∈ lw_gd := wmP (i := 1300) (by decide +kernel) rfl
theorem wm_1301 : Cond.methodLink "WeekBoats$Bookings" 73 ⟨"WeekBoats$Bookings", "canEverBeGiven", "(I)Z"⟩ ∈ lw_gd := wmP (i := 1301) (by decide +kernel) rfl
theorem wm_1303 : Cond.instanceMethod ⟨"WeekBoats$Bookings", "canEverBeGiven", "(I)Z"⟩ ∈ lw_gd := wmP (i := 1303) (by decide +kernel) rfl
theorem wm_1304 : Cond.code ⟨"WeekBoats$Bookings", "canEverBeGiven", "(I)Z"⟩ prog_3_method_6_code 3 (some .boolean) ∈ lw_gd := wmP (i := 1304) (by decide +kernel) rfl
theorem wm_1305 : Cond.methodLink "WeekBoats$Bookings" 81 ⟨"WeekBoats$Bookings", "canCome", "(II)Z"⟩ ∈ lw_gd := wmP (i := 1305) (by decide +kernel) rfl
theorem wm_1307 : Cond.instanceMethod ⟨"WeekBoats$Bookings", "canCome", "(II)Z"⟩ ∈ lw_gd := wmP (i := 1307) (by decide +kernel) rfl
theorem wm_1308 : Cond.code ⟨"WeekBoats$Bookings", "canCome", "(II)Z"⟩ prog_3_method_7_code 5 (some .boolean) ∈ lw_gd := wmP (i := 1308) (by decide +kernel) rfl
theorem wm_1309 : Cond.methodLink "WeekBoats$Bookings" 77 ⟨"WeekBoats$Bookings", "giveNext", "(LWeekBoats$Bookings;II)V"⟩ ∈ lw_gd := wmP (i := 1309) (by decide +kernel) rfl
theorem wm_1310 : Cond.static ⟨"WeekBoats$Bookings", "giveNext", "(LWeekBoats$Bookings;II)V"⟩ ∈ lw_gd := wmP (i := 1310) (by decide +kernel) rfl
theorem wm_1311 : Cond.code ⟨"WeekBoats$Bookings", "giveNext", "(LWeekBoats$Bookings;II)V"⟩ prog_3_method_8_code 8 none ∈ lw_gd := wmP (i := 1311) (by decide +kernel) rfl
theorem wm_1312 : Cond.methodLink "WeekBoats$Bookings" 85 ⟨"WeekBoats$Bookings", "compare", "(I)V"⟩ ∈ lw_gd := wmP (i := 1312) (by decide +kernel) rfl
theorem wm_1314 : Cond.instanceMethod ⟨"WeekBoats$Bookings", "compare", "(I)V"⟩ ∈ lw_gd := wmP (i := 1314) (by decide +kernel) rfl
theorem wm_1315 : Cond.code ⟨"WeekBoats$Bookings", "compare", "(I)V"⟩ prog_3_method_10_code 4 none ∈ lw_gd := wmP (i := 1315) (by decide +kernel) rfl
theorem wm_1316 : Cond.methodLink "WeekBoats$Bookings" 92 ⟨"java/lang/System", "arraycopy", "(Ljava/lang/Object;ILjava/lang/Object;II)V"⟩ ∈ lw_gd := wmP (i := 1316) (by decide +kernel) rfl
theorem wm_1317 : Cond.methodLink "WeekBoats$Bookings" 89 ⟨"WeekBoats$Bookings", "canHave", "(II)Z"⟩ ∈ lw_gd := wmP (i := 1317) (by decide +kernel) rfl
theorem wm_1319 : Cond.instanceMethod ⟨"WeekBoats$Bookings", "canHave", "(II)Z"⟩ ∈ lw_gd := wmP (i := 1319) (by decide +kernel) rfl
theorem wm_1320 : Cond.code ⟨"WeekBoats$Bookings", "canHave", "(II)Z"⟩ prog_3_method_9_code 3 (some .boolean) ∈ lw_gd := wmP (i := 1320) (by decide +kernel) rfl
theorem wm_1321 : Cond.methodLink "WeekBoatsLaw" 130 ⟨"WeekBoats", "more", "(III)I"⟩ ∈ lw_gd := wmP (i := 1321) (by decide +kernel) rfl
theorem wm_1322 : Cond.instanceMethod ⟨"WeekBoats", "more", "(III)I"⟩ ∈ lw_gd := wmP (i := 1322) (by decide +kernel) rfl
theorem wm_1323 : Cond.selects "WeekBoats" ⟨"WeekBoats", "more", "(III)I"⟩ ⟨"WeekBoats", "more", "(III)I"⟩ ∈ lw_gd := wmP (i := 1323) (by decide +kernel) rfl
theorem wm_1324 : Cond.code ⟨"WeekBoats", "more", "(III)I"⟩ prog_1_method_37_code 5 (some .int) ∈ lw_gd := wmP (i := 1324) (by decide +kernel) rfl
theorem wm_1325 : Cond.methodLink "WeekBoatsLaw" 134 ⟨"WeekBoats", "gas", "(III)Z"⟩ ∈ lw_gd := wmP (i := 1325) (by decide +kernel) rfl
theorem wm_1326 : Cond.instanceMethod ⟨"WeekBoats", "gas", "(III)Z"⟩ ∈ lw_gd := wmP (i := 1326) (by decide +kernel) rfl
theorem wm_1327 : Cond.selects "WeekBoats" ⟨"WeekBoats", "gas", "(III)Z"⟩ ⟨"WeekBoats", "gas", "(III)Z"⟩ ∈ lw_gd := wmP (i := 1327) (by decide +kernel) rfl
theorem wm_1328 : Cond.code ⟨"WeekBoats", "gas", "(III)Z"⟩ prog_1_method_38_code 4 (some .boolean) ∈ lw_gd := wmP (i := 1328) (by decide +kernel) rfl
theorem wm_1329 : Cond.methodLink "WeekBoats" 296 ⟨"WeekBoats$Yard", "tellDock", "(III)Z"⟩ ∈ lw_gd := wmP (i := 1329) (by decide +kernel) rfl
theorem wm_1330 : Cond.instanceMethod ⟨"WeekBoats$Yard", "tellDock", "(III)Z"⟩ ∈ lw_gd := wmP (i := 1330) (by decide +kernel) rfl
theorem wm_1331 : Cond.selects "WeekBoats$Yard" ⟨"WeekBoats$Yard", "tellDock", "(III)Z"⟩ ⟨"WeekBoats$Yard", "tellDock", "(III)Z"⟩ ∈ lw_gd := wmP (i := 1331) (by decide +kernel) rfl
theorem wm_1332 : Cond.code ⟨"WeekBoats$Yard", "tellDock", "(III)Z"⟩ prog_12_method_2_code 4 (some .boolean) ∈ lw_gd := wmP (i := 1332) (by decide +kernel) rfl
theorem wm_1333 : Cond.methodLink "WeekBoats$Yard" 42 ⟨"WeekBoats$Yard", "othersInDock", "(I)I"⟩ ∈ lw_gd := wmP (i := 1333) (by decide +kernel) rfl
theorem wm_1335 : Cond.instanceMethod ⟨"WeekBoats$Yard", "othersInDock", "(I)I"⟩ ∈ lw_gd := wmP (i := 1335) (by decide +kernel) rfl
theorem wm_1336 : Cond.code ⟨"WeekBoats$Yard", "othersInDock", "(I)I"⟩ prog_12_method_3_code 4 (some .int) ∈ lw_gd := wmP (i := 1336) (by decide +kernel) rfl
theorem wm_1337 : Cond.methodLink "WeekBoatsLaw" 139 ⟨"WeekBoats", "dock", "(I)I"⟩ ∈ lw_gd := wmP (i := 1337) (by decide +kernel) rfl
theorem wm_1338 : Cond.instanceMethod ⟨"WeekBoats", "dock", "(I)I"⟩ ∈ lw_gd := wmP (i := 1338) (by decide +kernel) rfl
theorem wm_1339 : Cond.selects "WeekBoats" ⟨"WeekBoats", "dock", "(I)I"⟩ ⟨"WeekBoats", "dock", "(I)I"⟩ ∈ lw_gd := wmP (i := 1339) (by decide +kernel) rfl
theorem wm_1340 : Cond.code ⟨"WeekBoats", "dock", "(I)I"⟩ prog_1_method_39_code 2 (some .int) ∈ lw_gd := wmP (i := 1340) (by decide +kernel) rfl
theorem wm_1341 : Cond.methodLink "WeekBoats" 299 ⟨"WeekBoats$Yard", "orderDock", "()V"⟩ ∈ lw_gd := wmP (i := 1341) (by decide +kernel) rfl
theorem wm_1342 : Cond.instanceMethod ⟨"WeekBoats$Yard", "orderDock", "()V"⟩ ∈ lw_gd := wmP (i := 1342) (by decide +kernel) rfl
theorem wm_1343 : Cond.selects "WeekBoats$Yard" ⟨"WeekBoats$Yard", "orderDock", "()V"⟩ ⟨"WeekBoats$Yard", "orderDock", "()V"⟩ ∈ lw_gd := wmP (i := 1343) (by decide +kernel) rfl
theorem wm_1344 : Cond.code ⟨"WeekBoats$Yard", "orderDock", "()V"⟩ prog_12_method_4_code 3 none ∈ lw_gd := wmP (i := 1344) (by decide +kernel) rfl
theorem wm_1345 : Cond.methodLink "WeekBoats$Yard" 50 ⟨"WeekBoats$Yard", "chooseNext", "(I)V"⟩ ∈ lw_gd := wmP (i := 1345) (by decide +kernel) rfl
theorem wm_1347 : Cond.instanceMethod ⟨"WeekBoats$Yard", "chooseNext", "(I)V"⟩ ∈ lw_gd := wmP (i := 1347) (by decide +kernel) rfl
theorem wm_1348 : Cond.code ⟨"WeekBoats$Yard", "chooseNext", "(I)V"⟩ prog_12_method_5_code 7 none ∈ lw_gd := wmP (i := 1348) (by decide +kernel) rfl
theorem wm_1349 : Cond.methodLink "WeekBoats$Yard" 54 ⟨"WeekBoats$Yard", "isBetter", "(III)Z"⟩ ∈ lw_gd := wmP (i := 1349) (by decide +kernel) rfl
theorem wm_1351 : Cond.instanceMethod ⟨"WeekBoats$Yard", "isBetter", "(III)Z"⟩ ∈ lw_gd := wmP (i := 1351) (by decide +kernel) rfl
theorem wm_1352 : Cond.code ⟨"WeekBoats$Yard", "isBetter", "(III)Z"⟩ prog_12_method_6_code 4 (some .boolean) ∈ lw_gd := wmP (i := 1352) (by decide +kernel) rfl
theorem wm_1353 : Cond.methodLink "WeekBoats" 311 ⟨"WeekBoats$Yard", "dockedAt", "(I)I"⟩ ∈ lw_gd := wmP (i := 1353) (by decide +kernel) rfl
theorem wm_1354 : Cond.instanceMethod ⟨"WeekBoats$Yard", "dockedAt", "(I)I"⟩ ∈ lw_gd := wmP (i := 1354) (by decide +kernel) rfl
theorem wm_1355 : Cond.selects "WeekBoats$Yard" ⟨"WeekBoats$Yard", "dockedAt", "(I)I"⟩ ⟨"WeekBoats$Yard", "dockedAt", "(I)I"⟩ ∈ lw_gd := wmP (i := 1355) (by decide +kernel) rfl
theorem wm_1356 : Cond.code ⟨"WeekBoats$Yard", "dockedAt", "(I)I"⟩ prog_12_method_7_code 4 (some .int) ∈ lw_gd := wmP (i := 1356) (by decide +kernel) rfl
theorem wm_1358 : Cond.methodLink "WeekBoatsLaw" 143 ⟨"WeekBoats", "job", "(I)I"⟩ ∈ lw_gd := wmP (i := 1358) (by decide +kernel) rfl
theorem wm_1359 : Cond.instanceMethod ⟨"WeekBoats", "job", "(I)I"⟩ ∈ lw_gd := wmP (i := 1359) (by decide +kernel) rfl
theorem wm_1360 : Cond.selects "WeekBoats" ⟨"WeekBoats", "job", "(I)I"⟩ ⟨"WeekBoats", "job", "(I)I"⟩ ∈ lw_gd := wmP (i := 1360) (by decide +kernel) rfl
theorem wm_1361 : Cond.code ⟨"WeekBoats", "job", "(I)I"⟩ prog_1_method_40_code 2 (some .int) ∈ lw_gd := wmP (i := 1361) (by decide +kernel) rfl
theorem wm_1362 : Cond.methodLink "WeekBoats" 317 ⟨"WeekBoats$Yard", "addJob", "(I)I"⟩ ∈ lw_gd := wmP (i := 1362) (by decide +kernel) rfl
theorem wm_1363 : Cond.instanceMethod ⟨"WeekBoats$Yard", "addJob", "(I)I"⟩ ∈ lw_gd := wmP (i := 1363) (by decide +kernel) rfl
theorem wm_1364 : Cond.selects "WeekBoats$Yard" ⟨"WeekBoats$Yard", "addJob", "(I)I"⟩ ⟨"WeekBoats$Yard", "addJob", "(I)I"⟩ ∈ lw_gd := wmP (i := 1364) (by decide +kernel) rfl
theorem wm_1365 : Cond.code ⟨"WeekBoats$Yard", "addJob", "(I)I"⟩ prog_12_method_8_code 2 (some .int) ∈ lw_gd := wmP (i := 1365) (by decide +kernel) rfl
theorem wm_1366 : Cond.methodLink "WeekBoatsLaw" 147 ⟨"WeekBoats", "turned", "(II)I"⟩ ∈ lw_gd := wmP (i := 1366) (by decide +kernel) rfl
theorem wm_1367 : Cond.instanceMethod ⟨"WeekBoats", "turned", "(II)I"⟩ ∈ lw_gd := wmP (i := 1367) (by decide +kernel) rfl
theorem wm_1368 : Cond.selects "WeekBoats" ⟨"WeekBoats", "turned", "(II)I"⟩ ⟨"WeekBoats", "turned", "(II)I"⟩ ∈ lw_gd := wmP (i := 1368) (by decide +kernel) rfl
theorem wm_1369 : Cond.code ⟨"WeekBoats", "turned", "(II)I"⟩ prog_1_method_41_code 3 (some .int) ∈ lw_gd := wmP (i := 1369) (by decide +kernel) rfl
theorem wm_1370 : Cond.methodLink "WeekBoats" 320 ⟨"WeekBoats$Yard", "workInOrder", "(I)V"⟩ ∈ lw_gd := wmP (i := 1370) (by decide +kernel) rfl
theorem wm_1371 : Cond.instanceMethod ⟨"WeekBoats$Yard", "workInOrder", "(I)V"⟩ ∈ lw_gd := wmP (i := 1371) (by decide +kernel) rfl
theorem wm_1372 : Cond.selects "WeekBoats$Yard" ⟨"WeekBoats$Yard", "workInOrder", "(I)V"⟩ ⟨"WeekBoats$Yard", "workInOrder", "(I)V"⟩ ∈ lw_gd := wmP (i := 1372) (by decide +kernel) rfl
theorem wm_1373 : Cond.code ⟨"WeekBoats$Yard", "workInOrder", "(I)V"⟩ prog_12_method_9_code 5 none ∈ lw_gd := wmP (i := 1373) (by decide +kernel) rfl
theorem wm_1374 : Cond.methodLink "WeekBoats$Yard" 64 ⟨"java/util/Arrays", "fill", "([II)V"⟩ ∈ lw_gd := wmP (i := 1374) (by decide +kernel) rfl
theorem wm_1375 : Cond.methodLink "WeekBoats$Yard" 76 ⟨"java/lang/Math", "max", "(II)I"⟩ ∈ lw_gd := wmP (i := 1375) (by decide +kernel) rfl
theorem wm_1376 : Cond.methodLink "WeekBoats" 329 ⟨"WeekBoats$Yard", "shareBest", "(I)V"⟩ ∈ lw_gd := wmP (i := 1376) (by decide +kernel) rfl
theorem wm_1377 : Cond.instanceMethod ⟨"WeekBoats$Yard", "shareBest", "(I)V"⟩ ∈ lw_gd := wmP (i := 1377) (by decide +kernel) rfl
theorem wm_1378 : Cond.selects "WeekBoats$Yard" ⟨"WeekBoats$Yard", "shareBest", "(I)V"⟩ ⟨"WeekBoats$Yard", "shareBest", "(I)V"⟩ ∈ lw_gd := wmP (i := 1378) (by decide +kernel) rfl
theorem wm_1379 : Cond.code ⟨"WeekBoats$Yard", "shareBest", "(I)V"⟩ prog_12_method_10_code 2 none ∈ lw_gd := wmP (i := 1379) (by decide +kernel) rfl
theorem wm_1380 : Cond.constant "WeekBoats$Yard" 84 2147483647 ∈ lw_gd := wmP (i := 1380) (by decide +kernel) rfl
theorem wm_1381 : Cond.methodLink "WeekBoats$Yard" 88 ⟨"WeekBoats$Yard", "shareNext", "(LWeekBoats$Yard;III)V"⟩ ∈ lw_gd := wmP (i := 1381) (by decide +kernel) rfl
theorem wm_1382 : Cond.static ⟨"WeekBoats$Yard", "shareNext", "(LWeekBoats$Yard;III)V"⟩ ∈ lw_gd := wmP (i := 1382) (by decide +kernel) rfl
theorem wm_1383 : Cond.code ⟨"WeekBoats$Yard", "shareNext", "(LWeekBoats$Yard;III)V"⟩ prog_12_method_11_code 5 none ∈ lw_gd := wmP (i := 1383) (by decide +kernel) rfl
theorem wm_1384 : Cond.methodLink "WeekBoats$Yard" 92 ⟨"java/lang/System", "arraycopy", "(Ljava/lang/Object;ILjava/lang/Object;II)V"⟩ ∈ lw_gd := wmP (i := 1384) (by decide +kernel) rfl
theorem wm_1385 : Cond.methodLink "WeekBoatsLaw" 151 ⟨"WeekBoats", "weight", "(II)Z"⟩ ∈ lw_gd := wmP (i := 1385) (by decide +kernel) rfl
theorem wm_1386 : Cond.instanceMethod ⟨"WeekBoats", "weight", "(II)Z"⟩ ∈ lw_gd := wmP (i := 1386) (by decide +kernel) rfl
theorem wm_1387 : Cond.selects "WeekBoats" ⟨"WeekBoats", "weight", "(II)Z"⟩ ⟨"WeekBoats", "weight", "(II)Z"⟩ ∈ lw_gd := wmP (i := 1387) (by decide +kernel) rfl
theorem wm_1388 : Cond.code ⟨"WeekBoats", "weight", "(II)Z"⟩ prog_1_method_42_code 3 (some .boolean) ∈ lw_gd := wmP (i := 1388) (by decide +kernel) rfl
theorem wm_1389 : Cond.methodLink "WeekBoatsLaw" 156 ⟨"WeekBoats", "van", "(I)I"⟩ ∈ lw_gd := wmP (i := 1389) (by decide +kernel) rfl
theorem wm_1390 : Cond.instanceMethod ⟨"WeekBoats", "van", "(I)I"⟩ ∈ lw_gd := wmP (i := 1390) (by decide +kernel) rfl
theorem wm_1391 : Cond.selects "WeekBoats" ⟨"WeekBoats", "van", "(I)I"⟩ ⟨"WeekBoats", "van", "(I)I"⟩ ∈ lw_gd := wmP (i := 1391) (by decide +kernel) rfl
theorem wm_1392 : Cond.code ⟨"WeekBoats", "van", "(I)I"⟩ prog_1_method_43_code 3 (some .int) ∈ lw_gd := wmP (i := 1392) (by decide +kernel) rfl
theorem wm_1393 : Cond.methodLink "WeekBoats" 341 ⟨"WeekBoats$Vans", "measure", "()V"⟩ ∈ lw_gd := wmP (i := 1393) (by decide +kernel) rfl
theorem wm_1394 : Cond.instanceMethod ⟨"WeekBoats$Vans", "measure", "()V"⟩ ∈ lw_gd := wmP (i := 1394) (by decide +kernel) rfl
theorem wm_1395 : Cond.selects "WeekBoats$Vans" ⟨"WeekBoats$Vans", "measure", "()V"⟩ ⟨"WeekBoats$Vans", "measure", "()V"⟩ ∈ lw_gd := wmP (i := 1395) (by decide +kernel) rfl
theorem wm_1396 : Cond.code ⟨"WeekBoats$Vans", "measure", "()V"⟩ prog_10_method_2_code 2 none ∈ lw_gd := wmP (i := 1396) (by decide +kernel) rfl
theorem wm_1397 : Cond.methodLink "WeekBoats" 344 ⟨"WeekBoats$Vans", "bestPoint", "()I"⟩ ∈ lw_gd := wmP (i := 1397) (by decide +kernel) rfl
theorem wm_1398 : Cond.instanceMethod ⟨"WeekBoats$Vans", "bestPoint", "()I"⟩ ∈ lw_gd := wmP (i := 1398) (by decide +kernel) rfl
theorem wm_1399 : Cond.selects "WeekBoats$Vans" ⟨"WeekBoats$Vans", "bestPoint", "()I"⟩ ⟨"WeekBoats$Vans", "bestPoint", "()I"⟩ ∈ lw_gd := wmP (i := 1399) (by decide +kernel) rfl
theorem wm_1400 : Cond.code ⟨"WeekBoats$Vans", "bestPoint", "()I"⟩ prog_10_method_5_code 3 (some .int) ∈ lw_gd := wmP (i := 1400) (by decide +kernel) rfl
theorem wm_1401 : Cond.methodLink "WeekBoats$Vans" 58 ⟨"WeekBoats$Vans", "sumFrom", "(II)I"⟩ ∈ lw_gd := wmP (i := 1401) (by decide +kernel) rfl
theorem wm_1402 : Cond.instanceMethod ⟨"WeekBoats$Vans", "sumFrom", "(II)I"⟩ ∈ lw_gd := wmP (i := 1402) (by decide +kernel) rfl
theorem wm_1403 : Cond.selects "WeekBoats$Vans" ⟨"WeekBoats$Vans", "sumFrom", "(II)I"⟩ ⟨"WeekBoats$Vans", "sumFrom", "(II)I"⟩ ∈ lw_gd := wmP (i := 1403) (by decide +kernel) rfl
theorem wm_1404 : Cond.code ⟨"WeekBoats$Vans", "sumFrom", "(II)I"⟩ prog_10_method_4_code 5 (some .int) ∈ lw_gd := wmP (i := 1404) (by decide +kernel) rfl
theorem wm_1405 : Cond.methodLink "WeekBoats$Vans" 51 ⟨"WeekBoats$Vans", "minutes", "(II)I"⟩ ∈ lw_gd := wmP (i := 1405) (by decide +kernel) rfl
theorem wm_1407 : Cond.instanceMethod ⟨"WeekBoats$Vans", "minutes", "(II)I"⟩ ∈ lw_gd := wmP (i := 1407) (by decide +kernel) rfl
theorem wm_1408 : Cond.code ⟨"WeekBoats$Vans", "minutes", "(II)I"⟩ prog_10_method_3_code 3 (some .int) ∈ lw_gd := wmP (i := 1408) (by decide +kernel) rfl
theorem wm_1409 : Cond.methodLink "WeekBoats$Vans" 45 ⟨"java/lang/Math", "abs", "(I)I"⟩ ∈ lw_gd := wmP (i := 1409) (by decide +kernel) rfl
theorem wm_1410 : Cond.methodLink "WeekBoats$Vans" 55 ⟨"java/lang/Math", "min", "(II)I"⟩ ∈ lw_gd := wmP (i := 1410) (by decide +kernel) rfl
theorem wm_1411 : Cond.methodLink "WeekBoats" 347 ⟨"WeekBoats$Vans", "sumFrom", "(II)I"⟩ ∈ lw_gd := wmP (i := 1411) (by decide +kernel) rfl
theorem wm_1412 : Cond.methodLink "WeekBoats" 350 ⟨"WeekBoats$Vans", "worstFrom", "(I)I"⟩ ∈ lw_gd := wmP (i := 1412) (by decide +kernel) rfl
theorem wm_1413 : Cond.instanceMethod ⟨"WeekBoats$Vans", "worstFrom", "(I)I"⟩ ∈ lw_gd := wmP (i := 1413) (by decide +kernel) rfl
theorem wm_1414 : Cond.selects "WeekBoats$Vans" ⟨"WeekBoats$Vans", "worstFrom", "(I)I"⟩ ⟨"WeekBoats$Vans", "worstFrom", "(I)I"⟩ ∈ lw_gd := wmP (i := 1414) (by decide +kernel) rfl
theorem wm_1415 : Cond.code ⟨"WeekBoats$Vans", "worstFrom", "(I)I"⟩ prog_10_method_6_code 4 (some .int) ∈ lw_gd := wmP (i := 1415) (by decide +kernel) rfl
theorem wm_1416 : Cond.methodLink "WeekBoats$Vans" 61 ⟨"java/lang/Math", "max", "(II)I"⟩ ∈ lw_gd := wmP (i := 1416) (by decide +kernel) rfl
theorem wm_1417 : Cond.methodLink "WeekBoatsLaw" 160 ⟨"WeekBoats", "vans", "(I)I"⟩ ∈ lw_gd := wmP (i := 1417) (by decide +kernel) rfl
theorem wm_1418 : Cond.instanceMethod ⟨"WeekBoats", "vans", "(I)I"⟩ ∈ lw_gd := wmP (i := 1418) (by decide +kernel) rfl
theorem wm_1419 : Cond.selects "WeekBoats" ⟨"WeekBoats", "vans", "(I)I"⟩ ⟨"WeekBoats", "vans", "(I)I"⟩ ∈ lw_gd := wmP (i := 1419) (by decide +kernel) rfl
theorem wm_1420 : Cond.code ⟨"WeekBoats", "vans", "(I)I"⟩ prog_1_method_44_code 2 (some .int) ∈ lw_gd := wmP (i := 1420) (by decide +kernel) rfl
theorem wm_1421 : Cond.methodLink "WeekBoats" 353 ⟨"WeekBoats$Vans", "findCouple", "()V"⟩ ∈ lw_gd := wmP (i := 1421) (by decide +kernel) rfl
theorem wm_1422 : Cond.instanceMethod ⟨"WeekBoats$Vans", "findCouple", "()V"⟩ ∈ lw_gd := wmP (i := 1422) (by decide +kernel) rfl
theorem wm_1423 : Cond.selects "WeekBoats$Vans" ⟨"WeekBoats$Vans", "findCouple", "()V"⟩ ⟨"WeekBoats$Vans", "findCouple", "()V"⟩ ∈ lw_gd := wmP (i := 1423) (by decide +kernel) rfl
theorem wm_1424 : Cond.code ⟨"WeekBoats$Vans", "findCouple", "()V"⟩ prog_10_method_7_code 4 none ∈ lw_gd := wmP (i := 1424) (by decide +kernel) rfl
theorem wm_1425 : Cond.methodLink "WeekBoatsLaw" 164 ⟨"WeekBoats", "call", "(III)I"⟩ ∈ lw_gd := wmP (i := 1425) (by decide +kernel) rfl
theorem wm_1426 : Cond.instanceMethod ⟨"WeekBoats", "call", "(III)I"⟩ ∈ lw_gd := wmP (i := 1426) (by decide +kernel) rfl
theorem wm_1427 : Cond.selects "WeekBoats" ⟨"WeekBoats", "call", "(III)I"⟩ ⟨"WeekBoats", "call", "(III)I"⟩ ∈ lw_gd := wmP (i := 1427) (by decide +kernel) rfl
theorem wm_1428 : Cond.code ⟨"WeekBoats", "call", "(III)I"⟩ prog_1_method_45_code 4 (some .int) ∈ lw_gd := wmP (i := 1428) (by decide +kernel) rfl
theorem wm_1429 : Cond.methodLink "WeekBoats" 365 ⟨"WeekBoats$Vans", "addCall", "(III)I"⟩ ∈ lw_gd := wmP (i := 1429) (by decide +kernel) rfl
theorem wm_1430 : Cond.instanceMethod ⟨"WeekBoats$Vans", "addCall", "(III)I"⟩ ∈ lw_gd := wmP (i := 1430) (by decide +kernel) rfl
theorem wm_1431 : Cond.selects "WeekBoats$Vans" ⟨"WeekBoats$Vans", "addCall", "(III)I"⟩ ⟨"WeekBoats$Vans", "addCall", "(III)I"⟩ ∈ lw_gd := wmP (i := 1431) (by decide +kernel) rfl
theorem wm_1432 : Cond.code ⟨"WeekBoats$Vans", "addCall", "(III)I"⟩ prog_10_method_8_code 4 (some .int) ∈ lw_gd := wmP (i := 1432) (by decide +kernel) rfl
theorem wm_1433 : Cond.methodLink "WeekBoatsLaw" 168 ⟨"WeekBoats", "taken", "(III)I"⟩ ∈ lw_gd := wmP (i := 1433) (by decide +kernel) rfl
theorem wm_1434 : Cond.instanceMethod ⟨"WeekBoats", "taken", "(III)I"⟩ ∈ lw_gd := wmP (i := 1434) (by decide +kernel) rfl
theorem wm_1435 : Cond.selects "WeekBoats" ⟨"WeekBoats", "taken", "(III)I"⟩ ⟨"WeekBoats", "taken", "(III)I"⟩ ∈ lw_gd := wmP (i := 1435) (by decide +kernel) rfl
theorem wm_1436 : Cond.code ⟨"WeekBoats", "taken", "(III)I"⟩ prog_1_method_46_code 4 (some .int) ∈ lw_gd := wmP (i := 1436) (by decide +kernel) rfl
theorem wm_1437 : Cond.methodLink "WeekBoats" 368 ⟨"WeekBoats$Vans", "takeCalls", "(II)V"⟩ ∈ lw_gd := wmP (i := 1437) (by decide +kernel) rfl
theorem wm_1438 : Cond.instanceMethod ⟨"WeekBoats$Vans", "takeCalls", "(II)V"⟩ ∈ lw_gd := wmP (i := 1438) (by decide +kernel) rfl
theorem wm_1439 : Cond.selects "WeekBoats$Vans" ⟨"WeekBoats$Vans", "takeCalls", "(II)V"⟩ ⟨"WeekBoats$Vans", "takeCalls", "(II)V"⟩ ∈ lw_gd := wmP (i := 1439) (by decide +kernel) rfl
theorem wm_1440 : Cond.code ⟨"WeekBoats$Vans", "takeCalls", "(II)V"⟩ prog_10_method_9_code 6 none ∈ lw_gd := wmP (i := 1440) (by decide +kernel) rfl
theorem wm_1441 : Cond.methodLink "WeekBoats$Vans" 74 ⟨"java/util/Arrays", "fill", "([II)V"⟩ ∈ lw_gd := wmP (i := 1441) (by decide +kernel) rfl
theorem wm_1442 : Cond.methodLink "WeekBoats$Vans" 89 ⟨"WeekBoats$Vans", "comesAt", "(II)I"⟩ ∈ lw_gd := wmP (i := 1442) (by decide +kernel) rfl
theorem wm_1444 : Cond.instanceMethod ⟨"WeekBoats$Vans", "comesAt", "(II)I"⟩ ∈ lw_gd := wmP (i := 1444) (by decide +kernel) rfl
theorem wm_1445 : Cond.code ⟨"WeekBoats$Vans", "comesAt", "(II)I"⟩ prog_10_method_10_code 3 (some .int) ∈ lw_gd := wmP (i := 1445) (by decide +kernel) rfl
theorem wm_1446 : Cond.methodLink "WeekBoats" 381 ⟨"WeekBoats$Vans", "takerOf", "(I)I"⟩ ∈ lw_gd := wmP (i := 1446) (by decide +kernel) rfl
theorem wm_1447 : Cond.instanceMethod ⟨"WeekBoats$Vans", "takerOf", "(I)I"⟩ ∈ lw_gd := wmP (i := 1447) (by decide +kernel) rfl
theorem wm_1448 : Cond.selects "WeekBoats$Vans" ⟨"WeekBoats$Vans", "takerOf", "(I)I"⟩ ⟨"WeekBoats$Vans", "takerOf", "(I)I"⟩ ∈ lw_gd := wmP (i := 1448) (by decide +kernel) rfl
theorem wm_1449 : Cond.code ⟨"WeekBoats$Vans", "takerOf", "(I)I"⟩ prog_10_method_11_code 2 (some .int) ∈ lw_gd := wmP (i := 1449) (by decide +kernel) rfl
theorem wm_1451 : Cond.methodLink "WeekBoatsLaw" 172 ⟨"WeekBoats", "left", "(IIIII)I"⟩ ∈ lw_gd := wmP (i := 1451) (by decide +kernel) rfl
theorem wm_1452 : Cond.instanceMethod ⟨"WeekBoats", "left", "(IIIII)I"⟩ ∈ lw_gd := wmP (i := 1452) (by decide +kernel) rfl
theorem wm_1453 : Cond.selects "WeekBoats" ⟨"WeekBoats", "left", "(IIIII)I"⟩ ⟨"WeekBoats", "left", "(IIIII)I"⟩ ∈ lw_gd := wmP (i := 1453) (by decide +kernel) rfl
theorem wm_1454 : Cond.code ⟨"WeekBoats", "left", "(IIIII)I"⟩ prog_1_method_47_code 7 (some .int) ∈ lw_gd := wmP (i := 1454) (by decide +kernel) rfl
theorem wm_1455 : Cond.methodLink "WeekBoats" 384 ⟨"WeekBoats", "isWeather", "(IIII)Z"⟩ ∈ lw_gd := wmP (i := 1455) (by decide +kernel) rfl
theorem wm_1456 : Cond.static ⟨"WeekBoats", "isWeather", "(IIII)Z"⟩ ∈ lw_gd := wmP (i := 1456) (by decide +kernel) rfl
theorem wm_1457 : Cond.code ⟨"WeekBoats", "isWeather", "(IIII)Z"⟩ prog_1_method_48_code 4 (some .boolean) ∈ lw_gd := wmP (i := 1457) (by decide +kernel) rfl
theorem wm_1458 : Cond.methodLink "WeekBoats" 387 ⟨"WeekBoats$Rain", "start", "(II)V"⟩ ∈ lw_gd := wmP (i := 1458) (by decide +kernel) rfl
theorem wm_1459 : Cond.instanceMethod ⟨"WeekBoats$Rain", "start", "(II)V"⟩ ∈ lw_gd := wmP (i := 1459) (by decide +kernel) rfl
theorem wm_1460 : Cond.selects "WeekBoats$Rain" ⟨"WeekBoats$Rain", "start", "(II)V"⟩ ⟨"WeekBoats$Rain", "start", "(II)V"⟩ ∈ lw_gd := wmP (i := 1460) (by decide +kernel) rfl
theorem wm_1461 : Cond.code ⟨"WeekBoats$Rain", "start", "(II)V"⟩ prog_7_method_2_code 3 none ∈ lw_gd := wmP (i := 1461) (by decide +kernel) rfl
theorem wm_1462 : Cond.methodLink "WeekBoats$Rain" 18 ⟨"java/util/Arrays", "fill", "([II)V"⟩ ∈ lw_gd := wmP (i := 1462) (by decide +kernel) rfl
theorem wm_1463 : Cond.constant "WeekBoats$Rain" 24 1000000 ∈ lw_gd := wmP (i := 1463) (by decide +kernel) rfl
theorem wm_1464 : Cond.methodLink "WeekBoats" 390 ⟨"WeekBoats$Rain", "passDay", "(IIII)V"⟩ ∈ lw_gd := wmP (i := 1464) (by decide +kernel) rfl
theorem wm_1465 : Cond.instanceMethod ⟨"WeekBoats$Rain", "passDay", "(IIII)V"⟩ ∈ lw_gd := wmP (i := 1465) (by decide +kernel) rfl
theorem wm_1466 : Cond.selects "WeekBoats$Rain" ⟨"WeekBoats$Rain", "passDay", "(IIII)V"⟩ ⟨"WeekBoats$Rain", "passDay", "(IIII)V"⟩ ∈ lw_gd := wmP (i := 1466) (by decide +kernel) rfl
theorem wm_1467 : Cond.code ⟨"WeekBoats$Rain", "passDay", "(IIII)V"⟩ prog_7_method_3_code 8 none ∈ lw_gd := wmP (i := 1467) (by decide +kernel) rfl
theorem wm_1468 : Cond.methodLink "WeekBoats$Rain" 29 ⟨"java/lang/Math", "max", "(II)I"⟩ ∈ lw_gd := wmP (i := 1468) (by decide +kernel) rfl
theorem wm_1469 : Cond.methodLink "WeekBoats$Rain" 35 ⟨"java/lang/Math", "min", "(II)I"⟩ ∈ lw_gd := wmP (i := 1469) (by decide +kernel) rfl
theorem wm_1470 : Cond.methodLink "WeekBoatsLaw" 176 ⟨"WeekBoats", "shuts", "(IIII)I"⟩ ∈ lw_gd := wmP (i := 1470) (by decide +kernel) rfl
theorem wm_1471 : Cond.instanceMethod ⟨"WeekBoats", "shuts", "(IIII)I"⟩ ∈ lw_gd := wmP (i := 1471) (by decide +kernel) rfl
theorem wm_1472 : Cond.selects "WeekBoats" ⟨"WeekBoats", "shuts", "(IIII)I"⟩ ⟨"WeekBoats", "shuts", "(IIII)I"⟩ ∈ lw_gd := wmP (i := 1472) (by decide +kernel) rfl
theorem wm_1473 : Cond.code ⟨"WeekBoats", "shuts", "(IIII)I"⟩ prog_1_method_49_code 6 (some .int) ∈ lw_gd := wmP (i := 1473) (by decide +kernel) rfl
theorem wm_1474 : Cond.constant "WeekBoats" 397 500000 ∈ lw_gd := wmP (i := 1474) (by decide +kernel) rfl
theorem wm_1475 : Cond.methodLink "WeekBoatsLaw" 180 ⟨"WeekBoats", "price", "(IIZ)I"⟩ ∈ lw_gd := wmP (i := 1475) (by decide +kernel) rfl
theorem wm_1476 : Cond.instanceMethod ⟨"WeekBoats", "price", "(IIZ)I"⟩ ∈ lw_gd := wmP (i := 1476) (by decide +kernel) rfl
theorem wm_1477 : Cond.selects "WeekBoats" ⟨"WeekBoats", "price", "(IIZ)I"⟩ ⟨"WeekBoats", "price", "(IIZ)I"⟩ ∈ lw_gd := wmP (i := 1477) (by decide +kernel) rfl
theorem wm_1478 : Cond.code ⟨"WeekBoats", "price", "(IIZ)I"⟩ prog_1_method_50_code 5 (some .int) ∈ lw_gd := wmP (i := 1478) (by decide +kernel) rfl
theorem wm_1479 : Cond.methodLink "WeekBoats" 398 ⟨"WeekBoats$Boats", "priceLine", "(IIZ)I"⟩ ∈ lw_gd := wmP (i := 1479) (by decide +kernel) rfl
theorem wm_1480 : Cond.methodLink "WeekBoats" 402 ⟨"WeekBoats$Rules", "valueOf", "(I)I"⟩ ∈ lw_gd := wmP (i := 1480) (by decide +kernel) rfl
theorem wm_1481 : Cond.methodLink "WeekBoatsLaw" 185 ⟨"WeekBoats", "held", "(IIII)I"⟩ ∈ lw_gd := wmP (i := 1481) (by decide +kernel) rfl
theorem wm_1482 : Cond.instanceMethod ⟨"WeekBoats", "held", "(IIII)I"⟩ ∈ lw_gd := wmP (i := 1482) (by decide +kernel) rfl
theorem wm_1483 : Cond.selects "WeekBoats" ⟨"WeekBoats", "held", "(IIII)I"⟩ ⟨"WeekBoats", "held", "(IIII)I"⟩ ∈ lw_gd := wmP (i := 1483) (by decide +kernel) rfl
theorem wm_1484 : Cond.code ⟨"WeekBoats", "held", "(IIII)I"⟩ prog_1_method_51_code 6 (some .int) ∈ lw_gd := wmP (i := 1484) (by decide +kernel) rfl
theorem wm_1485 : Cond.methodLink "WeekBoats" 405 ⟨"WeekBoats$Boats", "holdLine", "(IIII)I"⟩ ∈ lw_gd := wmP (i := 1485) (by decide +kernel) rfl
theorem wm_1486 : Cond.instanceMethod ⟨"WeekBoats$Boats", "holdLine", "(IIII)I"⟩ ∈ lw_gd := wmP (i := 1486) (by decide +kernel) rfl
theorem wm_1487 : Cond.selects "WeekBoats$Boats" ⟨"WeekBoats$Boats", "holdLine", "(IIII)I"⟩ ⟨"WeekBoats$Boats", "holdLine", "(IIII)I"⟩ ∈ lw_gd := wmP (i := 1487) (by decide +kernel) rfl
theorem wm_1488 : Cond.code ⟨"WeekBoats$Boats", "holdLine", "(IIII)I"⟩ prog_2_method_14_code 5 (some .int) ∈ lw_gd := wmP (i := 1488) (by decide +kernel) rfl
theorem wm_1489 : Cond.methodLink "WeekBoatsLaw" 189 ⟨"WeekBoats", "look", "(I)I"⟩ ∈ lw_gd := wmP (i := 1489) (by decide +kernel) rfl
theorem wm_1490 : Cond.instanceMethod ⟨"WeekBoats", "look", "(I)I"⟩ ∈ lw_gd := wmP (i := 1490) (by decide +kernel) rfl
theorem wm_1491 : Cond.selects "WeekBoats" ⟨"WeekBoats", "look", "(I)I"⟩ ⟨"WeekBoats", "look", "(I)I"⟩ ∈ lw_gd := wmP (i := 1491) (by decide +kernel) rfl
theorem wm_1492 : Cond.code ⟨"WeekBoats", "look", "(I)I"⟩ prog_1_method_52_code 2 (some .int) ∈ lw_gd := wmP (i := 1492) (by decide +kernel) rfl
theorem wm_1495 : Cond.methodLink "WeekBoatsLaw" 12 ⟨"WeekBoatsModel", "<init>", "()V"⟩ ∈ lw_gd := wmP (i := 1495) (by decide +kernel) rfl
theorem wm_1496 : Cond.instanceMethod ⟨"WeekBoatsModel", "<init>", "()V"⟩ ∈ lw_gd := wmP (i := 1496) (by decide +kernel) rfl
theorem wm_1497 : Cond.code ⟨"WeekBoatsModel", "<init>", "()V"⟩ prog_14_method_4_code 2 none ∈ lw_gd := wmP (i := 1497) (by decide +kernel) rfl
theorem wm_1498 : Cond.methodLink "WeekBoatsModel" 7 ⟨"java/lang/Object", "<init>", "()V"⟩ ∈ lw_gd := wmP (i := 1498) (by decide +kernel) rfl
theorem wm_1499 : Cond.fieldLink "WeekBoatsModel" 13 "WeekBoatsModel" "miles" "[I" ∈ lw_gd := wmP (i := 1499) (by decide +kernel) rfl
theorem wm_1500 : Cond.fieldLink "WeekBoatsModel" 17 "WeekBoatsModel" "locks" "[I" ∈ lw_gd := wmP (i := 1500) (by decide +kernel) rfl
theorem wm_1501 : Cond.fieldLink "WeekBoatsModel" 20 "WeekBoatsModel" "road" "[I" ∈ lw_gd := wmP (i := 1501) (by decide +kernel) rfl
theorem wm_1502 : Cond.fieldLink "WeekBoatsModel" 23 "WeekBoatsModel" "stopAt" "[I" ∈ lw_gd := wmP (i := 1502) (by decide +kernel) rfl
theorem wm_1503 : Cond.fieldLink "WeekBoatsModel" 26 "WeekBoatsModel" "stopFrom" "[I" ∈ lw_gd := wmP (i := 1503) (by decide +kernel) rfl
theorem wm_1504 : Cond.fieldLink "WeekBoatsModel" 29 "WeekBoatsModel" "stopTo" "[I" ∈ lw_gd := wmP (i := 1504) (by decide +kernel) rfl
theorem wm_1505 : Cond.fieldLink "WeekBoatsModel" 32 "WeekBoatsModel" "berthsOf" "[I" ∈ lw_gd := wmP (i := 1505) (by decide +kernel) rfl
theorem wm_1506 : Cond.fieldLink "WeekBoatsModel" 35 "WeekBoatsModel" "ageOf" "[I" ∈ lw_gd := wmP (i := 1506) (by decide +kernel) rfl
theorem wm_1507 : Cond.fieldLink "WeekBoatsModel" 38 "WeekBoatsModel" "homeOf" "[I" ∈ lw_gd := wmP (i := 1507) (by decide +kernel) rfl
theorem wm_1508 : Cond.fieldLink "WeekBoatsModel" 41 "WeekBoatsModel" "taughtOf" "[I" ∈ lw_gd := wmP (i := 1508) (by decide +kernel) rfl
theorem wm_1509 : Cond.fieldLink "WeekBoatsModel" 44 "WeekBoatsModel" "water" "I" ∈ lw_gd := wmP (i := 1509) (by decide +kernel) rfl
theorem wm_1510 : Cond.fieldLink "WeekBoatsModel" 232 "WeekBoatsModel" "stops" "I" ∈ lw_gd := wmP (i := 1510) (by decide +kernel) rfl
theorem wm_1511 : Cond.fieldLink "WeekBoatsModel" 235 "WeekBoatsModel" "boats" "I" ∈ lw_gd := wmP (i := 1511) (by decide +kernel) rfl
theorem wm_1512 : Cond.fieldLink "WeekBoatsModel" 48 "WeekBoatsModel" "lineSort" "[I" ∈ lw_gd := wmP (i := 1512) (by decide +kernel) rfl
theorem wm_1513 : Cond.fieldLink "WeekBoatsModel" 51 "WeekBoatsModel" "lineOne" "[I" ∈ lw_gd := wmP (i := 1513) (by decide +kernel) rfl
theorem wm_1514 : Cond.fieldLink "WeekBoatsModel" 54 "WeekBoatsModel" "lineTwo" "[I" ∈ lw_gd := wmP (i := 1514) (by decide +kernel) rfl
theorem wm_1515 : Cond.fieldLink "WeekBoatsModel" 57 "WeekBoatsModel" "from" "[I" ∈ lw_gd := wmP (i := 1515) (by decide +kernel) rfl
theorem wm_1516 : Cond.fieldLink "WeekBoatsModel" 60 "WeekBoatsModel" "mid" "[I" ∈ lw_gd := wmP (i := 1516) (by decide +kernel) rfl
theorem wm_1517 : Cond.fieldLink "WeekBoatsModel" 63 "WeekBoatsModel" "to" "[I" ∈ lw_gd := wmP (i := 1517) (by decide +kernel) rfl
theorem wm_1518 : Cond.fieldLink "WeekBoatsModel" 66 "WeekBoatsModel" "step" "[I" ∈ lw_gd := wmP (i := 1518) (by decide +kernel) rfl
theorem wm_1519 : Cond.fieldLink "WeekBoatsModel" 69 "WeekBoatsModel" "freshSort" "[I" ∈ lw_gd := wmP (i := 1519) (by decide +kernel) rfl
theorem wm_1520 : Cond.fieldLink "WeekBoatsModel" 72 "WeekBoatsModel" "freshOne" "[I" ∈ lw_gd := wmP (i := 1520) (by decide +kernel) rfl
theorem wm_1521 : Cond.fieldLink "WeekBoatsModel" 75 "WeekBoatsModel" "freshTwo" "[I" ∈ lw_gd := wmP (i := 1521) (by decide +kernel) rfl
theorem wm_1522 : Cond.fieldLink "WeekBoatsModel" 78 "WeekBoatsModel" "freshFrom" "[I" ∈ lw_gd := wmP (i := 1522) (by decide +kernel) rfl
theorem wm_1523 : Cond.fieldLink "WeekBoatsModel" 81 "WeekBoatsModel" "freshMid" "[I" ∈ lw_gd := wmP (i := 1523) (by decide +kernel) rfl
theorem wm_1524 : Cond.fieldLink "WeekBoatsModel" 84 "WeekBoatsModel" "freshTo" "[I" ∈ lw_gd := wmP (i := 1524) (by decide +kernel) rfl
theorem wm_1525 : Cond.fieldLink "WeekBoatsModel" 87 "WeekBoatsModel" "freshStep" "[I" ∈ lw_gd := wmP (i := 1525) (by decide +kernel) rfl
theorem wm_1526 : Cond.fieldLink "WeekBoatsModel" 90 "WeekBoatsModel" "tunnel" "[I" ∈ lw_gd := wmP (i := 1526) (by decide +kernel) rfl
theorem wm_1527 : Cond.fieldLink "WeekBoatsModel" 93 "WeekBoatsModel" "freshTunnel" "[I" ∈ lw_gd := wmP (i := 1527) (by decide +kernel) rfl
theorem wm_1528 : Cond.fieldLink "WeekBoatsModel" 96 "WeekBoatsModel" "hasTunnel" "[Z" ∈ lw_gd := wmP (i := 1528) (by decide +kernel) rfl
theorem wm_1529 : Cond.fieldLink "WeekBoatsModel" 100 "WeekBoatsModel" "freshHas" "[Z" ∈ lw_gd := wmP (i := 1529) (by decide +kernel) rfl
theorem wm_1530 : Cond.fieldLink "WeekBoatsModel" 103 "WeekBoatsModel" "tape" "[I" ∈ lw_gd := wmP (i := 1530) (by decide +kernel) rfl
theorem wm_1531 : Cond.fieldLink "WeekBoatsModel" 106 "WeekBoatsModel" "pile" "[I" ∈ lw_gd := wmP (i := 1531) (by decide +kernel) rfl
theorem wm_1532 : Cond.fieldLink "WeekBoatsModel" 109 "WeekBoatsModel" "facts" "[I" ∈ lw_gd := wmP (i := 1532) (by decide +kernel) rfl
theorem wm_1533 : Cond.fieldLink "WeekBoatsModel" 390 "WeekBoatsModel" "lines" "I" ∈ lw_gd := wmP (i := 1533) (by decide +kernel) rfl
theorem wm_1534 : Cond.fieldLink "WeekBoatsModel" 375 "WeekBoatsModel" "freshLines" "I" ∈ lw_gd := wmP (i := 1534) (by decide +kernel) rfl
theorem wm_1535 : Cond.fieldLink "WeekBoatsModel" 333 "WeekBoatsModel" "steps" "I" ∈ lw_gd := wmP (i := 1535) (by decide +kernel) rfl
theorem wm_1536 : Cond.fieldLink "WeekBoatsModel" 242 "WeekBoatsModel" "taped" "I" ∈ lw_gd := wmP (i := 1536) (by decide +kernel) rfl
theorem wm_1537 : Cond.fieldLink "WeekBoatsModel" 245 "WeekBoatsModel" "at" "I" ∈ lw_gd := wmP (i := 1537) (by decide +kernel) rfl
theorem wm_1538 : Cond.fieldLink "WeekBoatsModel" 306 "WeekBoatsModel" "token" "I" ∈ lw_gd := wmP (i := 1538) (by decide +kernel) rfl
theorem wm_1539 : Cond.fieldLink "WeekBoatsModel" 248 "WeekBoatsModel" "tokenAt" "I" ∈ lw_gd := wmP (i := 1539) (by decide +kernel) rfl
theorem wm_1540 : Cond.fieldLink "WeekBoatsModel" 318 "WeekBoatsModel" "value" "I" ∈ lw_gd := wmP (i := 1540) (by decide +kernel) rfl
theorem wm_1541 : Cond.fieldLink "WeekBoatsModel" 321 "WeekBoatsModel" "wrong" "I" ∈ lw_gd := wmP (i := 1541) (by decide +kernel) rfl
theorem wm_1542 : Cond.fieldLink "WeekBoatsModel" 324 "WeekBoatsModel" "wrongAt" "I" ∈ lw_gd := wmP (i := 1542) (by decide +kernel) rfl
theorem wm_1543 : Cond.fieldLink "WeekBoatsModel" 384 "WeekBoatsModel" "faultKind" "I" ∈ lw_gd := wmP (i := 1543) (by decide +kernel) rfl
theorem wm_1544 : Cond.fieldLink "WeekBoatsModel" 336 "WeekBoatsModel" "depth" "I" ∈ lw_gd := wmP (i := 1544) (by decide +kernel) rfl
theorem wm_1545 : Cond.fieldLink "WeekBoatsModel" 112 "WeekBoatsModel" "faultPlace" "I" ∈ lw_gd := wmP (i := 1545) (by decide +kernel) rfl
theorem wm_1546 : Cond.fieldLink "WeekBoatsModel" 421 "WeekBoatsModel" "counts" "Z" ∈ lw_gd := wmP (i := 1546) (by decide +kernel) rfl
theorem wm_1547 : Cond.fieldLink "WeekBoatsModel" 425 "WeekBoatsModel" "harmed" "I" ∈ lw_gd := wmP (i := 1547) (by decide +kernel) rfl
theorem wm_1548 : Cond.fieldLink "WeekBoatsModel" 444 "WeekBoatsModel" "trips" "I" ∈ lw_gd := wmP (i := 1548) (by decide +kernel) rfl
theorem wm_1549 : Cond.fieldLink "WeekBoatsModel" 115 "WeekBoatsModel" "tripBoat" "[I" ∈ lw_gd := wmP (i := 1549) (by decide +kernel) rfl
theorem wm_1550 : Cond.fieldLink "WeekBoatsModel" 118 "WeekBoatsModel" "tripFrom" "[I" ∈ lw_gd := wmP (i := 1550) (by decide +kernel) rfl
theorem wm_1551 : Cond.fieldLink "WeekBoatsModel" 121 "WeekBoatsModel" "tripTo" "[I" ∈ lw_gd := wmP (i := 1551) (by decide +kernel) rfl
theorem wm_1552 : Cond.fieldLink "WeekBoatsModel" 124 "WeekBoatsModel" "tripTime" "[I" ∈ lw_gd := wmP (i := 1552) (by decide +kernel) rfl
theorem wm_1553 : Cond.fieldLink "WeekBoatsModel" 127 "WeekBoatsModel" "tripDue" "[I" ∈ lw_gd := wmP (i := 1553) (by decide +kernel) rfl
theorem wm_1554 : Cond.fieldLink "WeekBoatsModel" 130 "WeekBoatsModel" "isPump" "[Z" ∈ lw_gd := wmP (i := 1554) (by decide +kernel) rfl
theorem wm_1555 : Cond.fieldLink "WeekBoatsModel" 133 "WeekBoatsModel" "logMany" "[I" ∈ lw_gd := wmP (i := 1555) (by decide +kernel) rfl
theorem wm_1556 : Cond.fieldLink "WeekBoatsModel" 136 "WeekBoatsModel" "logPoint" "[I" ∈ lw_gd := wmP (i := 1556) (by decide +kernel) rfl
theorem wm_1557 : Cond.fieldLink "WeekBoatsModel" 139 "WeekBoatsModel" "logTime" "[I" ∈ lw_gd := wmP (i := 1557) (by decide +kernel) rfl
theorem wm_1558 : Cond.fieldLink "WeekBoatsModel" 475 "WeekBoatsModel" "queued" "I" ∈ lw_gd := wmP (i := 1558) (by decide +kernel) rfl
theorem wm_1559 : Cond.fieldLink "WeekBoatsModel" 142 "WeekBoatsModel" "comesAt" "[I" ∈ lw_gd := wmP (i := 1559) (by decide +kernel) rfl
theorem wm_1560 : Cond.fieldLink "WeekBoatsModel" 145 "WeekBoatsModel" "goesWay" "[I" ∈ lw_gd := wmP (i := 1560) (by decide +kernel) rfl
theorem wm_1561 : Cond.fieldLink "WeekBoatsModel" 148 "WeekBoatsModel" "order" "[I" ∈ lw_gd := wmP (i := 1561) (by decide +kernel) rfl
theorem wm_1562 : Cond.fieldLink "WeekBoatsModel" 151 "WeekBoatsModel" "best" "[I" ∈ lw_gd := wmP (i := 1562) (by decide +kernel) rfl
theorem wm_1563 : Cond.fieldLink "WeekBoatsModel" 481 "WeekBoatsModel" "bestWait" "I" ∈ lw_gd := wmP (i := 1563) (by decide +kernel) rfl
theorem wm_1564 : Cond.fieldLink "WeekBoatsModel" 493 "WeekBoatsModel" "bookings" "I" ∈ lw_gd := wmP (i := 1564) (by decide +kernel) rfl
theorem wm_1565 : Cond.fieldLink "WeekBoatsModel" 496 "WeekBoatsModel" "served" "I" ∈ lw_gd := wmP (i := 1565) (by decide +kernel) rfl
theorem wm_1566 : Cond.fieldLink "WeekBoatsModel" 499 "WeekBoatsModel" "atHome" "I" ∈ lw_gd := wmP (i := 1566) (by decide +kernel) rfl
theorem wm_1567 : Cond.fieldLink "WeekBoatsModel" 154 "WeekBoatsModel" "bookFrom" "[I" ∈ lw_gd := wmP (i := 1567) (by decide +kernel) rfl
theorem wm_1568 : Cond.fieldLink "WeekBoatsModel" 157 "WeekBoatsModel" "bookTo" "[I" ∈ lw_gd := wmP (i := 1568) (by decide +kernel) rfl
theorem wm_1569 : Cond.fieldLink "WeekBoatsModel" 160 "WeekBoatsModel" "bookWeek" "[I" ∈ lw_gd := wmP (i := 1569) (by decide +kernel) rfl
theorem wm_1570 : Cond.fieldLink "WeekBoatsModel" 163 "WeekBoatsModel" "bookBerths" "[I" ∈ lw_gd := wmP (i := 1570) (by decide +kernel) rfl
theorem wm_1571 : Cond.fieldLink "WeekBoatsModel" 166 "WeekBoatsModel" "goneThrough" "[I" ∈ lw_gd := wmP (i := 1571) (by decide +kernel) rfl
theorem wm_1572 : Cond.fieldLink "WeekBoatsModel" 169 "WeekBoatsModel" "gives" "[I" ∈ lw_gd := wmP (i := 1572) (by decide +kernel) rfl
theorem wm_1573 : Cond.fieldLink "WeekBoatsModel" 172 "WeekBoatsModel" "given" "[I" ∈ lw_gd := wmP (i := 1573) (by decide +kernel) rfl
theorem wm_1574 : Cond.fieldLink "WeekBoatsModel" 175 "WeekBoatsModel" "where" "[I" ∈ lw_gd := wmP (i := 1574) (by decide +kernel) rfl
theorem wm_1575 : Cond.fieldLink "WeekBoatsModel" 178 "WeekBoatsModel" "busy" "[I" ∈ lw_gd := wmP (i := 1575) (by decide +kernel) rfl
theorem wm_1576 : Cond.fieldLink "WeekBoatsModel" 181 "WeekBoatsModel" "askBerths" "[I" ∈ lw_gd := wmP (i := 1576) (by decide +kernel) rfl
theorem wm_1577 : Cond.fieldLink "WeekBoatsModel" 184 "WeekBoatsModel" "askHome" "[I" ∈ lw_gd := wmP (i := 1577) (by decide +kernel) rfl
theorem wm_1578 : Cond.fieldLink "WeekBoatsModel" 187 "WeekBoatsModel" "date" "[I" ∈ lw_gd := wmP (i := 1578) (by decide +kernel) rfl
theorem wm_1579 : Cond.fieldLink "WeekBoatsModel" 190 "WeekBoatsModel" "days" "[I" ∈ lw_gd := wmP (i := 1579) (by decide +kernel) rfl
theorem wm_1580 : Cond.fieldLink "WeekBoatsModel" 193 "WeekBoatsModel" "docked" "[I" ∈ lw_gd := wmP (i := 1580) (by decide +kernel) rfl
theorem wm_1581 : Cond.fieldLink "WeekBoatsModel" 196 "WeekBoatsModel" "dockOrder" "[I" ∈ lw_gd := wmP (i := 1581) (by decide +kernel) rfl
theorem wm_1582 : Cond.fieldLink "WeekBoatsModel" 199 "WeekBoatsModel" "dockBest" "[I" ∈ lw_gd := wmP (i := 1582) (by decide +kernel) rfl
theorem wm_1583 : Cond.fieldLink "WeekBoatsModel" 515 "WeekBoatsModel" "docks" "I" ∈ lw_gd := wmP (i := 1583) (by decide +kernel) rfl
theorem wm_1584 : Cond.fieldLink "WeekBoatsModel" 518 "WeekBoatsModel" "leastLate" "I" ∈ lw_gd := wmP (i := 1584) (by decide +kernel) rfl
theorem wm_1585 : Cond.fieldLink "WeekBoatsModel" 521 "WeekBoatsModel" "leastSum" "I" ∈ lw_gd := wmP (i := 1585) (by decide +kernel) rfl
theorem wm_1586 : Cond.fieldLink "WeekBoatsModel" 528 "WeekBoatsModel" "jobs" "I" ∈ lw_gd := wmP (i := 1586) (by decide +kernel) rfl
theorem wm_1587 : Cond.fieldLink "WeekBoatsModel" 202 "WeekBoatsModel" "job" "[I" ∈ lw_gd := wmP (i := 1587) (by decide +kernel) rfl
theorem wm_1588 : Cond.fieldLink "WeekBoatsModel" 205 "WeekBoatsModel" "ends" "[I" ∈ lw_gd := wmP (i := 1588) (by decide +kernel) rfl
theorem wm_1589 : Cond.fieldLink "WeekBoatsModel" 531 "WeekBoatsModel" "over" "I" ∈ lw_gd := wmP (i := 1589) (by decide +kernel) rfl
theorem wm_1590 : Cond.fieldLink "WeekBoatsModel" 208 "WeekBoatsModel" "weights" "[I" ∈ lw_gd := wmP (i := 1590) (by decide +kernel) rfl
theorem wm_1591 : Cond.fieldLink "WeekBoatsModel" 555 "WeekBoatsModel" "calls" "I" ∈ lw_gd := wmP (i := 1591) (by decide +kernel) rfl
theorem wm_1592 : Cond.fieldLink "WeekBoatsModel" 211 "WeekBoatsModel" "callMinute" "[I" ∈ lw_gd := wmP (i := 1592) (by decide +kernel) rfl
theorem wm_1593 : Cond.fieldLink "WeekBoatsModel" 214 "WeekBoatsModel" "callPoint" "[I" ∈ lw_gd := wmP (i := 1593) (by decide +kernel) rfl
theorem wm_1594 : Cond.fieldLink "WeekBoatsModel" 217 "WeekBoatsModel" "callWork" "[I" ∈ lw_gd := wmP (i := 1594) (by decide +kernel) rfl
theorem wm_1595 : Cond.fieldLink "WeekBoatsModel" 220 "WeekBoatsModel" "vanAt" "[I" ∈ lw_gd := wmP (i := 1595) (by decide +kernel) rfl
theorem wm_1596 : Cond.fieldLink "WeekBoatsModel" 223 "WeekBoatsModel" "vanFree" "[I" ∈ lw_gd := wmP (i := 1596) (by decide +kernel) rfl
theorem wm_1597 : Cond.fieldLink "WeekBoatsModel" 226 "WeekBoatsModel" "chances" "[I" ∈ lw_gd := wmP (i := 1597) (by decide +kernel) rfl
theorem wm_1598 : Cond.fieldLink "WeekBoatsModel" 229 "WeekBoatsModel" "later" "[I" ∈ lw_gd := wmP (i := 1598) (by decide +kernel) rfl
theorem wm_1599 : Cond.fieldLink "WeekBoatsModel" 454 "WeekBoatsModel" "isPriced" "Z" ∈ lw_gd := wmP (i := 1599) (by decide +kernel) rfl
theorem wm_1804 : Cond.methodLink "WeekBoatsLaw" 17 ⟨"WeekBoatsModel", "stretch", "(IIII)Z"⟩ ∈ lw_gd := wmP (i := 1804) (by decide +kernel) rfl
theorem wm_1805 : Cond.instanceMethod ⟨"WeekBoatsModel", "stretch", "(IIII)Z"⟩ ∈ lw_gd := wmP (i := 1805) (by decide +kernel) rfl
theorem wm_1806 : Cond.selects "WeekBoatsModel" ⟨"WeekBoatsModel", "stretch", "(IIII)Z"⟩ ⟨"WeekBoatsModel", "stretch", "(IIII)Z"⟩ ∈ lw_gd := wmP (i := 1806) (by decide +kernel) rfl
theorem wm_1807 : Cond.code ⟨"WeekBoatsModel", "stretch", "(IIII)Z"⟩ prog_14_method_5_code 5 (some .boolean) ∈ lw_gd := wmP (i := 1807) (by decide +kernel) rfl
theorem wm_1808 : Cond.methodLink "WeekBoatsModel" 3 ⟨"WeekBoatsModel", "isIn", "(III)Z"⟩ ∈ lw_gd := wmP (i := 1808) (by decide +kernel) rfl
theorem wm_1809 : Cond.static ⟨"WeekBoatsModel", "isIn", "(III)Z"⟩ ∈ lw_gd := wmP (i := 1809) (by decide +kernel) rfl
theorem wm_1810 : Cond.code ⟨"WeekBoatsModel", "isIn", "(III)Z"⟩ prog_14_method_1_code 3 (some .boolean) ∈ lw_gd := wmP (i := 1810) (by decide +kernel) rfl
theorem wm_1811 : Cond.methodLink "WeekBoatsLaw" 22 ⟨"WeekBoatsModel", "water", "(I)Z"⟩ ∈ lw_gd := wmP (i := 1811) (by decide +kernel) rfl
theorem wm_1812 : Cond.instanceMethod ⟨"WeekBoatsModel", "water", "(I)Z"⟩ ∈ lw_gd := wmP (i := 1812) (by decide +kernel) rfl
theorem wm_1813 : Cond.selects "WeekBoatsModel" ⟨"WeekBoatsModel", "water", "(I)Z"⟩ ⟨"WeekBoatsModel", "water", "(I)Z"⟩ ∈ lw_gd := wmP (i := 1813) (by decide +kernel) rfl
theorem wm_1814 : Cond.code ⟨"WeekBoatsModel", "water", "(I)Z"⟩ prog_14_method_6_code 2 (some .boolean) ∈ lw_gd := wmP (i := 1814) (by decide +kernel) rfl
theorem wm_1815 : Cond.methodLink "WeekBoatsLaw" 27 ⟨"WeekBoatsModel", "stoppage", "(III)I"⟩ ∈ lw_gd := wmP (i := 1815) (by decide +kernel) rfl
theorem wm_1816 : Cond.instanceMethod ⟨"WeekBoatsModel", "stoppage", "(III)I"⟩ ∈ lw_gd := wmP (i := 1816) (by decide +kernel) rfl
theorem wm_1817 : Cond.selects "WeekBoatsModel" ⟨"WeekBoatsModel", "stoppage", "(III)I"⟩ ⟨"WeekBoatsModel", "stoppage", "(III)I"⟩ ∈ lw_gd := wmP (i := 1817) (by decide +kernel) rfl
theorem wm_1818 : Cond.code ⟨"WeekBoatsModel", "stoppage", "(III)I"⟩ prog_14_method_7_code 4 (some .int) ∈ lw_gd := wmP (i := 1818) (by decide +kernel) rfl
theorem wm_1819 : Cond.methodLink "WeekBoatsLaw" 32 ⟨"WeekBoatsModel", "boat", "(IIII)I"⟩ ∈ lw_gd := wmP (i := 1819) (by decide +kernel) rfl
theorem wm_1820 : Cond.instanceMethod ⟨"WeekBoatsModel", "boat", "(IIII)I"⟩ ∈ lw_gd := wmP (i := 1820) (by decide +kernel) rfl
theorem wm_1821 : Cond.selects "WeekBoatsModel" ⟨"WeekBoatsModel", "boat", "(IIII)I"⟩ ⟨"WeekBoatsModel", "boat", "(IIII)I"⟩ ∈ lw_gd := wmP (i := 1821) (by decide +kernel) rfl
theorem wm_1822 : Cond.code ⟨"WeekBoatsModel", "boat", "(IIII)I"⟩ prog_14_method_9_code 5 (some .int) ∈ lw_gd := wmP (i := 1822) (by decide +kernel) rfl
theorem wm_1823 : Cond.methodLink "WeekBoatsModel" 238 ⟨"WeekBoatsModel", "isPoint", "(I)Z"⟩ ∈ lw_gd := wmP (i := 1823) (by decide +kernel) rfl
theorem wm_1824 : Cond.static ⟨"WeekBoatsModel", "isPoint", "(I)Z"⟩ ∈ lw_gd := wmP (i := 1824) (by decide +kernel) rfl
theorem wm_1825 : Cond.code ⟨"WeekBoatsModel", "isPoint", "(I)Z"⟩ prog_14_method_2_code 1 (some .boolean) ∈ lw_gd := wmP (i := 1825) (by decide +kernel) rfl
theorem wm_1826 : Cond.methodLink "WeekBoatsLaw" 37 ⟨"WeekBoatsModel", "feed", "(IIIII)I"⟩ ∈ lw_gd := wmP (i := 1826) (by decide +kernel) rfl
theorem wm_1827 : Cond.instanceMethod ⟨"WeekBoatsModel", "feed", "(IIIII)I"⟩ ∈ lw_gd := wmP (i := 1827) (by decide +kernel) rfl
theorem wm_1828 : Cond.selects "WeekBoatsModel" ⟨"WeekBoatsModel", "feed", "(IIIII)I"⟩ ⟨"WeekBoatsModel", "feed", "(IIIII)I"⟩ ∈ lw_gd := wmP (i := 1828) (by decide +kernel) rfl
theorem wm_1829 : Cond.code ⟨"WeekBoatsModel", "feed", "(IIIII)I"⟩ prog_14_method_10_code 8 (some .int) ∈ lw_gd := wmP (i := 1829) (by decide +kernel) rfl
theorem wm_1830 : Cond.methodLink "WeekBoatsLaw" 41 ⟨"WeekBoatsModel", "end", "(I)Z"⟩ ∈ lw_gd := wmP (i := 1830) (by decide +kernel) rfl
theorem wm_1831 : Cond.instanceMethod ⟨"WeekBoatsModel", "end", "(I)Z"⟩ ∈ lw_gd := wmP (i := 1831) (by decide +kernel) rfl
theorem wm_1832 : Cond.selects "WeekBoatsModel" ⟨"WeekBoatsModel", "end", "(I)Z"⟩ ⟨"WeekBoatsModel", "end", "(I)Z"⟩ ∈ lw_gd := wmP (i := 1832) (by decide +kernel) rfl
theorem wm_1833 : Cond.code ⟨"WeekBoatsModel", "end", "(I)Z"⟩ prog_14_method_11_code 2 (some .boolean) ∈ lw_gd := wmP (i := 1833) (by decide +kernel) rfl
theorem wm_1834 : Cond.methodLink "WeekBoatsLaw" 46 ⟨"WeekBoatsModel", "rules", "()I"⟩ ∈ lw_gd := wmP (i := 1834) (by decide +kernel) rfl
theorem wm_1835 : Cond.instanceMethod ⟨"WeekBoatsModel", "rules", "()I"⟩ ∈ lw_gd := wmP (i := 1835) (by decide +kernel) rfl
theorem wm_1836 : Cond.selects "WeekBoatsModel" ⟨"WeekBoatsModel", "rules", "()I"⟩ ⟨"WeekBoatsModel", "rules", "()I"⟩ ∈ lw_gd := wmP (i := 1836) (by decide +kernel) rfl
theorem wm_1837 : Cond.code ⟨"WeekBoatsModel", "rules", "()I"⟩ prog_14_method_32_code 2 (some .int) ∈ lw_gd := wmP (i := 1837) (by decide +kernel) rfl
theorem wm_1838 : Cond.methodLink "WeekBoatsModel" 330 ⟨"WeekBoatsModel", "next0", "()V"⟩ ∈ lw_gd := wmP (i := 1838) (by decide +kernel) rfl
theorem wm_1840 : Cond.instanceMethod ⟨"WeekBoatsModel", "next0", "()V"⟩ ∈ lw_gd := wmP (i := 1840) (by decide +kernel) rfl
theorem wm_1841 : Cond.code ⟨"WeekBoatsModel", "next0", "()V"⟩ prog_14_method_17_code 3 none ∈ lw_gd := wmP (i := 1841) (by decide +kernel) rfl
theorem wm_1842 : Cond.methodLink "WeekBoatsModel" 302 ⟨"WeekBoatsModel", "see", "(I)I"⟩ ∈ lw_gd := wmP (i := 1842) (by decide +kernel) rfl
theorem wm_1844 : Cond.instanceMethod ⟨"WeekBoatsModel", "see", "(I)I"⟩ ∈ lw_gd := wmP (i := 1844) (by decide +kernel) rfl
theorem wm_1845 : Cond.code ⟨"WeekBoatsModel", "see", "(I)I"⟩ prog_14_method_12_code 2 (some .int) ∈ lw_gd := wmP (i := 1845) (by decide +kernel) rfl
theorem wm_1846 : Cond.methodLink "WeekBoatsModel" 309 ⟨"WeekBoatsModel", "isLetter", "(I)Z"⟩ ∈ lw_gd := wmP (i := 1846) (by decide +kernel) rfl
theorem wm_1847 : Cond.static ⟨"WeekBoatsModel", "isLetter", "(I)Z"⟩ ∈ lw_gd := wmP (i := 1847) (by decide +kernel) rfl
theorem wm_1848 : Cond.code ⟨"WeekBoatsModel", "isLetter", "(I)Z"⟩ prog_14_method_13_code 1 (some .boolean) ∈ lw_gd := wmP (i := 1848) (by decide +kernel) rfl
theorem wm_1849 : Cond.methodLink "WeekBoatsModel" 312 ⟨"WeekBoatsModel", "word", "()I"⟩ ∈ lw_gd := wmP (i := 1849) (by decide +kernel) rfl
theorem wm_1851 : Cond.instanceMethod ⟨"WeekBoatsModel", "word", "()I"⟩ ∈ lw_gd := wmP (i := 1851) (by decide +kernel) rfl
theorem wm_1852 : Cond.code ⟨"WeekBoatsModel", "word", "()I"⟩ prog_14_method_16_code 1 (some .int) ∈ lw_gd := wmP (i := 1852) (by decide +kernel) rfl
theorem wm_1854 : Cond.methodLink "WeekBoatsModel" 262 ⟨"WeekBoatsModel", "is", "(Ljava/lang/String;)Z"⟩ ∈ lw_gd := wmP (i := 1854) (by decide +kernel) rfl
theorem wm_1856 : Cond.instanceMethod ⟨"WeekBoatsModel", "is", "(Ljava/lang/String;)Z"⟩ ∈ lw_gd := wmP (i := 1856) (by decide +kernel) rfl
theorem wm_1857 : Cond.code ⟨"WeekBoatsModel", "is", "(Ljava/lang/String;)Z"⟩ prog_14_method_15_code 4 (some .boolean) ∈ lw_gd := wmP (i := 1857) (by decide +kernel) rfl
theorem wm_1858 : Cond.methodLink "WeekBoatsModel" 251 ⟨"java/lang/String", "length", "()I"⟩ ∈ lw_gd := wmP (i := 1858) (by decide +kernel) rfl
theorem wm_1859 : Cond.methodLink "WeekBoatsModel" 257 ⟨"java/lang/String", "charAt", "(I)C"⟩ ∈ lw_gd := wmP (i := 1859) (by decide +kernel) rfl
theorem wm_1879 : Cond.methodLink "WeekBoatsModel" 315 ⟨"WeekBoatsModel", "isDigit", "(I)Z"⟩ ∈ lw_gd := wmP (i := 1879) (by decide +kernel) rfl
theorem wm_1880 : Cond.static ⟨"WeekBoatsModel", "isDigit", "(I)Z"⟩ ∈ lw_gd := wmP (i := 1880) (by decide +kernel) rfl
theorem wm_1881 : Cond.code ⟨"WeekBoatsModel", "isDigit", "(I)Z"⟩ prog_14_method_14_code 1 (some .boolean) ∈ lw_gd := wmP (i := 1881) (by decide +kernel) rfl
theorem wm_1882 : Cond.methodLink "WeekBoatsModel" 381 ⟨"WeekBoatsModel", "aLine", "()Z"⟩ ∈ lw_gd := wmP (i := 1882) (by decide +kernel) rfl
theorem wm_1884 : Cond.instanceMethod ⟨"WeekBoatsModel", "aLine", "()Z"⟩ ∈ lw_gd := wmP (i := 1884) (by decide +kernel) rfl
theorem wm_1885 : Cond.code ⟨"WeekBoatsModel", "aLine", "()Z"⟩ prog_14_method_31_code 3 (some .boolean) ∈ lw_gd := wmP (i := 1885) (by decide +kernel) rfl
theorem wm_1886 : Cond.methodLink "WeekBoatsModel" 327 ⟨"WeekBoatsModel", "bad", "(I)Z"⟩ ∈ lw_gd := wmP (i := 1886) (by decide +kernel) rfl
theorem wm_1888 : Cond.instanceMethod ⟨"WeekBoatsModel", "bad", "(I)Z"⟩ ∈ lw_gd := wmP (i := 1888) (by decide +kernel) rfl
theorem wm_1889 : Cond.code ⟨"WeekBoatsModel", "bad", "(I)Z"⟩ prog_14_method_18_code 2 (some .boolean) ∈ lw_gd := wmP (i := 1889) (by decide +kernel) rfl
theorem wm_1890 : Cond.methodLink "WeekBoatsModel" 378 ⟨"WeekBoatsModel", "aTunnel", "()Z"⟩ ∈ lw_gd := wmP (i := 1890) (by decide +kernel) rfl
theorem wm_1892 : Cond.instanceMethod ⟨"WeekBoatsModel", "aTunnel", "()Z"⟩ ∈ lw_gd := wmP (i := 1892) (by decide +kernel) rfl
theorem wm_1893 : Cond.code ⟨"WeekBoatsModel", "aTunnel", "()Z"⟩ prog_14_method_30_code 3 (some .boolean) ∈ lw_gd := wmP (i := 1893) (by decide +kernel) rfl
theorem wm_1894 : Cond.methodLink "WeekBoatsModel" 349 ⟨"WeekBoatsModel", "number", "(II)Z"⟩ ∈ lw_gd := wmP (i := 1894) (by decide +kernel) rfl
theorem wm_1896 : Cond.instanceMethod ⟨"WeekBoatsModel", "number", "(II)Z"⟩ ∈ lw_gd := wmP (i := 1896) (by decide +kernel) rfl
theorem wm_1897 : Cond.code ⟨"WeekBoatsModel", "number", "(II)Z"⟩ prog_14_method_20_code 3 (some .boolean) ∈ lw_gd := wmP (i := 1897) (by decide +kernel) rfl
theorem wm_1898 : Cond.methodLink "WeekBoatsModel" 371 ⟨"WeekBoatsModel", "hours", "([II[II)Z"⟩ ∈ lw_gd := wmP (i := 1898) (by decide +kernel) rfl
theorem wm_1900 : Cond.instanceMethod ⟨"WeekBoatsModel", "hours", "([II[II)Z"⟩ ∈ lw_gd := wmP (i := 1900) (by decide +kernel) rfl
theorem wm_1901 : Cond.code ⟨"WeekBoatsModel", "hours", "([II[II)Z"⟩ prog_14_method_29_code 5 (some .boolean) ∈ lw_gd := wmP (i := 1901) (by decide +kernel) rfl
theorem wm_1902 : Cond.methodLink "WeekBoatsModel" 365 ⟨"WeekBoatsModel", "need", "(I)Z"⟩ ∈ lw_gd := wmP (i := 1902) (by decide +kernel) rfl
theorem wm_1904 : Cond.instanceMethod ⟨"WeekBoatsModel", "need", "(I)Z"⟩ ∈ lw_gd := wmP (i := 1904) (by decide +kernel) rfl
theorem wm_1905 : Cond.code ⟨"WeekBoatsModel", "need", "(I)Z"⟩ prog_14_method_19_code 2 (some .boolean) ∈ lw_gd := wmP (i := 1905) (by decide +kernel) rfl
theorem wm_1906 : Cond.methodLink "WeekBoatsModel" 368 ⟨"WeekBoatsModel", "sumUp", "()Z"⟩ ∈ lw_gd := wmP (i := 1906) (by decide +kernel) rfl
theorem wm_1908 : Cond.instanceMethod ⟨"WeekBoatsModel", "sumUp", "()Z"⟩ ∈ lw_gd := wmP (i := 1908) (by decide +kernel) rfl
theorem wm_1909 : Cond.code ⟨"WeekBoatsModel", "sumUp", "()Z"⟩ prog_14_method_23_code 2 (some .boolean) ∈ lw_gd := wmP (i := 1909) (by decide +kernel) rfl
theorem wm_1910 : Cond.methodLink "WeekBoatsModel" 338 ⟨"WeekBoatsModel", "product", "()Z"⟩ ∈ lw_gd := wmP (i := 1910) (by decide +kernel) rfl
theorem wm_1912 : Cond.instanceMethod ⟨"WeekBoatsModel", "product", "()Z"⟩ ∈ lw_gd := wmP (i := 1912) (by decide +kernel) rfl
theorem wm_1913 : Cond.code ⟨"WeekBoatsModel", "product", "()Z"⟩ prog_14_method_24_code 3 (some .boolean) ∈ lw_gd := wmP (i := 1913) (by decide +kernel) rfl
theorem wm_1914 : Cond.methodLink "WeekBoatsModel" 346 ⟨"WeekBoatsModel", "unit", "()Z"⟩ ∈ lw_gd := wmP (i := 1914) (by decide +kernel) rfl
theorem wm_1916 : Cond.instanceMethod ⟨"WeekBoatsModel", "unit", "()Z"⟩ ∈ lw_gd := wmP (i := 1916) (by decide +kernel) rfl
theorem wm_1917 : Cond.code ⟨"WeekBoatsModel", "unit", "()Z"⟩ prog_14_method_25_code 2 (some .boolean) ∈ lw_gd := wmP (i := 1917) (by decide +kernel) rfl
theorem wm_1918 : Cond.methodLink "WeekBoatsModel" 342 ⟨"WeekBoatsModel", "lay", "(II)V"⟩ ∈ lw_gd := wmP (i := 1918) (by decide +kernel) rfl
theorem wm_1920 : Cond.instanceMethod ⟨"WeekBoatsModel", "lay", "(II)V"⟩ ∈ lw_gd := wmP (i := 1920) (by decide +kernel) rfl
theorem wm_1921 : Cond.code ⟨"WeekBoatsModel", "lay", "(II)V"⟩ prog_14_method_21_code 3 none ∈ lw_gd := wmP (i := 1921) (by decide +kernel) rfl
theorem wm_1922 : Cond.methodLink "WeekBoatsModel" 362 ⟨"WeekBoatsModel", "any", "()Z"⟩ ∈ lw_gd := wmP (i := 1922) (by decide +kernel) rfl
theorem wm_1924 : Cond.instanceMethod ⟨"WeekBoatsModel", "any", "()Z"⟩ ∈ lw_gd := wmP (i := 1924) (by decide +kernel) rfl
theorem wm_1925 : Cond.code ⟨"WeekBoatsModel", "any", "()Z"⟩ prog_14_method_26_code 1 (some .boolean) ∈ lw_gd := wmP (i := 1925) (by decide +kernel) rfl
theorem wm_1926 : Cond.methodLink "WeekBoatsModel" 353 ⟨"WeekBoatsModel", "every", "()Z"⟩ ∈ lw_gd := wmP (i := 1926) (by decide +kernel) rfl
theorem wm_1928 : Cond.instanceMethod ⟨"WeekBoatsModel", "every", "()Z"⟩ ∈ lw_gd := wmP (i := 1928) (by decide +kernel) rfl
theorem wm_1929 : Cond.code ⟨"WeekBoatsModel", "every", "()Z"⟩ prog_14_method_27_code 1 (some .boolean) ∈ lw_gd := wmP (i := 1929) (by decide +kernel) rfl
theorem wm_1930 : Cond.methodLink "WeekBoatsModel" 356 ⟨"WeekBoatsModel", "one", "()Z"⟩ ∈ lw_gd := wmP (i := 1930) (by decide +kernel) rfl
theorem wm_1932 : Cond.instanceMethod ⟨"WeekBoatsModel", "one", "()Z"⟩ ∈ lw_gd := wmP (i := 1932) (by decide +kernel) rfl
theorem wm_1933 : Cond.code ⟨"WeekBoatsModel", "one", "()Z"⟩ prog_14_method_28_code 2 (some .boolean) ∈ lw_gd := wmP (i := 1933) (by decide +kernel) rfl
theorem wm_1934 : Cond.methodLink "WeekBoatsModel" 359 ⟨"WeekBoatsModel", "opens", "()Z"⟩ ∈ lw_gd := wmP (i := 1934) (by decide +kernel) rfl
theorem wm_1936 : Cond.instanceMethod ⟨"WeekBoatsModel", "opens", "()Z"⟩ ∈ lw_gd := wmP (i := 1936) (by decide +kernel) rfl
theorem wm_1937 : Cond.code ⟨"WeekBoatsModel", "opens", "()Z"⟩ prog_14_method_22_code 1 (some .boolean) ∈ lw_gd := wmP (i := 1937) (by decide +kernel) rfl
theorem wm_1938 : Cond.methodLink "WeekBoatsModel" 387 ⟨"WeekBoatsModel", "keeps", "()V"⟩ ∈ lw_gd := wmP (i := 1938) (by decide +kernel) rfl
theorem wm_1940 : Cond.instanceMethod ⟨"WeekBoatsModel", "keeps", "()V"⟩ ∈ lw_gd := wmP (i := 1940) (by decide +kernel) rfl
theorem wm_1941 : Cond.code ⟨"WeekBoatsModel", "keeps", "()V"⟩ prog_14_method_33_code 2 none ∈ lw_gd := wmP (i := 1941) (by decide +kernel) rfl
theorem wm_1942 : Cond.methodLink "WeekBoatsLaw" 51 ⟨"WeekBoatsModel", "fault", "(I)I"⟩ ∈ lw_gd := wmP (i := 1942) (by decide +kernel) rfl
theorem wm_1943 : Cond.instanceMethod ⟨"WeekBoatsModel", "fault", "(I)I"⟩ ∈ lw_gd := wmP (i := 1943) (by decide +kernel) rfl
theorem wm_1944 : Cond.selects "WeekBoatsModel" ⟨"WeekBoatsModel", "fault", "(I)I"⟩ ⟨"WeekBoatsModel", "fault", "(I)I"⟩ ∈ lw_gd := wmP (i := 1944) (by decide +kernel) rfl
theorem wm_1945 : Cond.code ⟨"WeekBoatsModel", "fault", "(I)I"⟩ prog_14_method_34_code 2 (some .int) ∈ lw_gd := wmP (i := 1945) (by decide +kernel) rfl
theorem wm_1946 : Cond.methodLink "WeekBoatsLaw" 56 ⟨"WeekBoatsModel", "open", "(II)I"⟩ ∈ lw_gd := wmP (i := 1946) (by decide +kernel) rfl
theorem wm_1947 : Cond.instanceMethod ⟨"WeekBoatsModel", "open", "(II)I"⟩ ∈ lw_gd := wmP (i := 1947) (by decide +kernel) rfl
theorem wm_1948 : Cond.selects "WeekBoatsModel" ⟨"WeekBoatsModel", "open", "(II)I"⟩ ⟨"WeekBoatsModel", "open", "(II)I"⟩ ∈ lw_gd := wmP (i := 1948) (by decide +kernel) rfl
theorem wm_1949 : Cond.code ⟨"WeekBoatsModel", "open", "(II)I"⟩ prog_14_method_40_code 4 (some .int) ∈ lw_gd := wmP (i := 1949) (by decide +kernel) rfl
theorem wm_1950 : Cond.methodLink "WeekBoatsModel" 407 ⟨"WeekBoatsModel", "locksLine", "(I)I"⟩ ∈ lw_gd := wmP (i := 1950) (by decide +kernel) rfl
theorem wm_1952 : Cond.instanceMethod ⟨"WeekBoatsModel", "locksLine", "(I)I"⟩ ∈ lw_gd := wmP (i := 1952) (by decide +kernel) rfl
theorem wm_1953 : Cond.code ⟨"WeekBoatsModel", "locksLine", "(I)I"⟩ prog_14_method_39_code 2 (some .int) ∈ lw_gd := wmP (i := 1953) (by decide +kernel) rfl
theorem wm_1954 : Cond.methodLink "WeekBoatsModel" 401 ⟨"WeekBoatsModel", "forgets", "()V"⟩ ∈ lw_gd := wmP (i := 1954) (by decide +kernel) rfl
theorem wm_1956 : Cond.instanceMethod ⟨"WeekBoatsModel", "forgets", "()V"⟩ ∈ lw_gd := wmP (i := 1956) (by decide +kernel) rfl
theorem wm_1957 : Cond.code ⟨"WeekBoatsModel", "forgets", "()V"⟩ prog_14_method_38_code 2 none ∈ lw_gd := wmP (i := 1957) (by decide +kernel) rfl
theorem wm_1958 : Cond.methodLink "WeekBoatsModel" 404 ⟨"WeekBoatsModel", "serves", "(I)I"⟩ ∈ lw_gd := wmP (i := 1958) (by decide +kernel) rfl
theorem wm_1960 : Cond.instanceMethod ⟨"WeekBoatsModel", "serves", "(I)I"⟩ ∈ lw_gd := wmP (i := 1960) (by decide +kernel) rfl
theorem wm_1961 : Cond.code ⟨"WeekBoatsModel", "serves", "(I)I"⟩ prog_14_method_37_code 3 (some .int) ∈ lw_gd := wmP (i := 1961) (by decide +kernel) rfl
theorem wm_1962 : Cond.methodLink "WeekBoatsModel" 397 ⟨"WeekBoatsModel", "comesTo", "(II)I"⟩ ∈ lw_gd := wmP (i := 1962) (by decide +kernel) rfl
theorem wm_1964 : Cond.instanceMethod ⟨"WeekBoatsModel", "comesTo", "(II)I"⟩ ∈ lw_gd := wmP (i := 1964) (by decide +kernel) rfl
theorem wm_1965 : Cond.code ⟨"WeekBoatsModel", "comesTo", "(II)I"⟩ prog_14_method_36_code 7 (some .int) ∈ lw_gd := wmP (i := 1965) (by decide +kernel) rfl
theorem wm_1966 : Cond.methodLink "WeekBoatsModel" 393 ⟨"WeekBoatsModel", "both", "(III)I"⟩ ∈ lw_gd := wmP (i := 1966) (by decide +kernel) rfl
theorem wm_1967 : Cond.static ⟨"WeekBoatsModel", "both", "(III)I"⟩ ∈ lw_gd := wmP (i := 1967) (by decide +kernel) rfl
theorem wm_1968 : Cond.code ⟨"WeekBoatsModel", "both", "(III)I"⟩ prog_14_method_35_code 3 (some .int) ∈ lw_gd := wmP (i := 1968) (by decide +kernel) rfl
theorem wm_1969 : Cond.methodLink "WeekBoatsLaw" 60 ⟨"WeekBoatsModel", "comes", "(IIII)I"⟩ ∈ lw_gd := wmP (i := 1969) (by decide +kernel) rfl
theorem wm_1970 : Cond.instanceMethod ⟨"WeekBoatsModel", "comes", "(IIII)I"⟩ ∈ lw_gd := wmP (i := 1970) (by decide +kernel) rfl
theorem wm_1971 : Cond.selects "WeekBoatsModel" ⟨"WeekBoatsModel", "comes", "(IIII)I"⟩ ⟨"WeekBoatsModel", "comes", "(IIII)I"⟩ ∈ lw_gd := wmP (i := 1971) (by decide +kernel) rfl
theorem wm_1972 : Cond.code ⟨"WeekBoatsModel", "comes", "(IIII)I"⟩ prog_14_method_47_code 5 (some .int) ∈ lw_gd := wmP (i := 1972) (by decide +kernel) rfl
theorem wm_1973 : Cond.methodLink "WeekBoatsModel" 435 ⟨"WeekBoatsModel", "isBoat", "(I)Z"⟩ ∈ lw_gd := wmP (i := 1973) (by decide +kernel) rfl
theorem wm_1975 : Cond.instanceMethod ⟨"WeekBoatsModel", "isBoat", "(I)Z"⟩ ∈ lw_gd := wmP (i := 1975) (by decide +kernel) rfl
theorem wm_1976 : Cond.code ⟨"WeekBoatsModel", "isBoat", "(I)Z"⟩ prog_14_method_8_code 2 (some .boolean) ∈ lw_gd := wmP (i := 1976) (by decide +kernel) rfl
theorem wm_1977 : Cond.methodLink "WeekBoatsModel" 438 ⟨"WeekBoatsModel", "isTime", "(I)Z"⟩ ∈ lw_gd := wmP (i := 1977) (by decide +kernel) rfl
theorem wm_1978 : Cond.static ⟨"WeekBoatsModel", "isTime", "(I)Z"⟩ ∈ lw_gd := wmP (i := 1978) (by decide +kernel) rfl
theorem wm_1979 : Cond.code ⟨"WeekBoatsModel", "isTime", "(I)Z"⟩ prog_14_method_3_code 1 (some .boolean) ∈ lw_gd := wmP (i := 1979) (by decide +kernel) rfl
theorem wm_1980 : Cond.methodLink "WeekBoatsModel" 441 ⟨"WeekBoatsModel", "led", "(IIII)I"⟩ ∈ lw_gd := wmP (i := 1980) (by decide +kernel) rfl
theorem wm_1982 : Cond.instanceMethod ⟨"WeekBoatsModel", "led", "(IIII)I"⟩ ∈ lw_gd := wmP (i := 1982) (by decide +kernel) rfl
theorem wm_1983 : Cond.code ⟨"WeekBoatsModel", "led", "(IIII)I"⟩ prog_14_method_46_code 7 (some .int) ∈ lw_gd := wmP (i := 1983) (by decide +kernel) rfl
theorem wm_1984 : Cond.methodLink "WeekBoatsModel" 431 ⟨"WeekBoatsModel", "through", "(IIZI)I"⟩ ∈ lw_gd := wmP (i := 1984) (by decide +kernel) rfl
theorem wm_1986 : Cond.instanceMethod ⟨"WeekBoatsModel", "through", "(IIZI)I"⟩ ∈ lw_gd := wmP (i := 1986) (by decide +kernel) rfl
theorem wm_1987 : Cond.code ⟨"WeekBoatsModel", "through", "(IIZI)I"⟩ prog_14_method_45_code 8 (some .int) ∈ lw_gd := wmP (i := 1987) (by decide +kernel) rfl
theorem wm_1988 : Cond.methodLink "WeekBoatsModel" 417 ⟨"WeekBoatsModel", "endOf", "(IIII)I"⟩ ∈ lw_gd := wmP (i := 1988) (by decide +kernel) rfl
theorem wm_1990 : Cond.instanceMethod ⟨"WeekBoatsModel", "endOf", "(IIII)I"⟩ ∈ lw_gd := wmP (i := 1990) (by decide +kernel) rfl
theorem wm_1991 : Cond.code ⟨"WeekBoatsModel", "endOf", "(IIII)I"⟩ prog_14_method_43_code 6 (some .int) ∈ lw_gd := wmP (i := 1991) (by decide +kernel) rfl
theorem wm_1992 : Cond.methodLink "WeekBoatsModel" 413 ⟨"WeekBoatsModel", "mayBegin", "(IIII)Z"⟩ ∈ lw_gd := wmP (i := 1992) (by decide +kernel) rfl
theorem wm_1994 : Cond.instanceMethod ⟨"WeekBoatsModel", "mayBegin", "(IIII)Z"⟩ ∈ lw_gd := wmP (i := 1994) (by decide +kernel) rfl
theorem wm_1995 : Cond.code ⟨"WeekBoatsModel", "mayBegin", "(IIII)Z"⟩ prog_14_method_42_code 6 (some .boolean) ∈ lw_gd := wmP (i := 1995) (by decide +kernel) rfl
theorem wm_1996 : Cond.methodLink "WeekBoatsModel" 410 ⟨"WeekBoatsModel", "isStopped", "(II)Z"⟩ ∈ lw_gd := wmP (i := 1996) (by decide +kernel) rfl
theorem wm_1998 : Cond.instanceMethod ⟨"WeekBoatsModel", "isStopped", "(II)Z"⟩ ∈ lw_gd := wmP (i := 1998) (by decide +kernel) rfl
theorem wm_1999 : Cond.code ⟨"WeekBoatsModel", "isStopped", "(II)Z"⟩ prog_14_method_41_code 4 (some .boolean) ∈ lw_gd := wmP (i := 1999) (by decide +kernel) rfl
theorem wm_2000 : Cond.methodLink "WeekBoatsModel" 428 ⟨"WeekBoatsModel", "harmOf", "(II)I"⟩ ∈ lw_gd := wmP (i := 2000) (by decide +kernel) rfl
theorem wm_2002 : Cond.instanceMethod ⟨"WeekBoatsModel", "harmOf", "(II)I"⟩ ∈ lw_gd := wmP (i := 2002) (by decide +kernel) rfl
theorem wm_2003 : Cond.code ⟨"WeekBoatsModel", "harmOf", "(II)I"⟩ prog_14_method_44_code 5 (some .int) ∈ lw_gd := wmP (i := 2003) (by decide +kernel) rfl
theorem wm_2004 : Cond.methodLink "WeekBoatsLaw" 68 ⟨"WeekBoatsModel", "harm", "(IIII)I"⟩ ∈ lw_gd := wmP (i := 2004) (by decide +kernel) rfl
theorem wm_2005 : Cond.instanceMethod ⟨"WeekBoatsModel", "harm", "(IIII)I"⟩ ∈ lw_gd := wmP (i := 2005) (by decide +kernel) rfl
theorem wm_2006 : Cond.selects "WeekBoatsModel" ⟨"WeekBoatsModel", "harm", "(IIII)I"⟩ ⟨"WeekBoatsModel", "harm", "(IIII)I"⟩ ∈ lw_gd := wmP (i := 2006) (by decide +kernel) rfl
theorem wm_2007 : Cond.code ⟨"WeekBoatsModel", "harm", "(IIII)I"⟩ prog_14_method_48_code 6 (some .int) ∈ lw_gd := wmP (i := 2007) (by decide +kernel) rfl
theorem wm_2008 : Cond.methodLink "WeekBoatsLaw" 89 ⟨"WeekBoatsModel", "enough", "(IIIII)I"⟩ ∈ lw_gd := wmP (i := 2008) (by decide +kernel) rfl
theorem wm_2009 : Cond.instanceMethod ⟨"WeekBoatsModel", "enough", "(IIIII)I"⟩ ∈ lw_gd := wmP (i := 2009) (by decide +kernel) rfl
theorem wm_2010 : Cond.selects "WeekBoatsModel" ⟨"WeekBoatsModel", "enough", "(IIIII)I"⟩ ⟨"WeekBoatsModel", "enough", "(IIIII)I"⟩ ∈ lw_gd := wmP (i := 2010) (by decide +kernel) rfl
theorem wm_2011 : Cond.code ⟨"WeekBoatsModel", "enough", "(IIIII)I"⟩ prog_14_method_49_code 10 (some .int) ∈ lw_gd := wmP (i := 2011) (by decide +kernel) rfl
theorem wm_2012 : Cond.methodLink "WeekBoatsLaw" 64 ⟨"WeekBoatsModel", "maybe", "(IIII)I"⟩ ∈ lw_gd := wmP (i := 2012) (by decide +kernel) rfl
theorem wm_2013 : Cond.instanceMethod ⟨"WeekBoatsModel", "maybe", "(IIII)I"⟩ ∈ lw_gd := wmP (i := 2013) (by decide +kernel) rfl
theorem wm_2014 : Cond.selects "WeekBoatsModel" ⟨"WeekBoatsModel", "maybe", "(IIII)I"⟩ ⟨"WeekBoatsModel", "maybe", "(IIII)I"⟩ ∈ lw_gd := wmP (i := 2014) (by decide +kernel) rfl
theorem wm_2015 : Cond.code ⟨"WeekBoatsModel", "maybe", "(IIII)I"⟩ prog_14_method_50_code 8 (some .int) ∈ lw_gd := wmP (i := 2015) (by decide +kernel) rfl
theorem wm_2016 : Cond.methodLink "WeekBoatsLaw" 93 ⟨"WeekBoatsModel", "trip", "(IIIII)I"⟩ ∈ lw_gd := wmP (i := 2016) (by decide +kernel) rfl
theorem wm_2017 : Cond.instanceMethod ⟨"WeekBoatsModel", "trip", "(IIIII)I"⟩ ∈ lw_gd := wmP (i := 2017) (by decide +kernel) rfl
theorem wm_2018 : Cond.selects "WeekBoatsModel" ⟨"WeekBoatsModel", "trip", "(IIIII)I"⟩ ⟨"WeekBoatsModel", "trip", "(IIIII)I"⟩ ∈ lw_gd := wmP (i := 2018) (by decide +kernel) rfl
theorem wm_2019 : Cond.code ⟨"WeekBoatsModel", "trip", "(IIIII)I"⟩ prog_14_method_51_code 6 (some .int) ∈ lw_gd := wmP (i := 2019) (by decide +kernel) rfl
theorem wm_2020 : Cond.methodLink "WeekBoatsLaw" 97 ⟨"WeekBoatsModel", "late", "(I)I"⟩ ∈ lw_gd := wmP (i := 2020) (by decide +kernel) rfl
theorem wm_2021 : Cond.instanceMethod ⟨"WeekBoatsModel", "late", "(I)I"⟩ ∈ lw_gd := wmP (i := 2021) (by decide +kernel) rfl
theorem wm_2022 : Cond.selects "WeekBoatsModel" ⟨"WeekBoatsModel", "late", "(I)I"⟩ ⟨"WeekBoatsModel", "late", "(I)I"⟩ ∈ lw_gd := wmP (i := 2022) (by decide +kernel) rfl
theorem wm_2023 : Cond.code ⟨"WeekBoatsModel", "late", "(I)I"⟩ prog_14_method_53_code 4 (some .int) ∈ lw_gd := wmP (i := 2023) (by decide +kernel) rfl
theorem wm_2024 : Cond.methodLink "WeekBoatsModel" 447 ⟨"WeekBoatsModel", "lateOf", "(I)I"⟩ ∈ lw_gd := wmP (i := 2024) (by decide +kernel) rfl
theorem wm_2026 : Cond.instanceMethod ⟨"WeekBoatsModel", "lateOf", "(I)I"⟩ ∈ lw_gd := wmP (i := 2026) (by decide +kernel) rfl
theorem wm_2027 : Cond.code ⟨"WeekBoatsModel", "lateOf", "(I)I"⟩ prog_14_method_52_code 3 (some .int) ∈ lw_gd := wmP (i := 2027) (by decide +kernel) rfl
theorem wm_2028 : Cond.methodLink "WeekBoatsLaw" 72 ⟨"WeekBoatsModel", "back", "(II)I"⟩ ∈ lw_gd := wmP (i := 2028) (by decide +kernel) rfl
theorem wm_2029 : Cond.instanceMethod ⟨"WeekBoatsModel", "back", "(II)I"⟩ ∈ lw_gd := wmP (i := 2029) (by decide +kernel) rfl
theorem wm_2030 : Cond.selects "WeekBoatsModel" ⟨"WeekBoatsModel", "back", "(II)I"⟩ ⟨"WeekBoatsModel", "back", "(II)I"⟩ ∈ lw_gd := wmP (i := 2030) (by decide +kernel) rfl
theorem wm_2031 : Cond.code ⟨"WeekBoatsModel", "back", "(II)I"⟩ prog_14_method_56_code 3 (some .int) ∈ lw_gd := wmP (i := 2031) (by decide +kernel) rfl
theorem wm_2032 : Cond.methodLink "WeekBoatsModel" 459 ⟨"WeekBoatsModel", "turningBack", "(I)I"⟩ ∈ lw_gd := wmP (i := 2032) (by decide +kernel) rfl
theorem wm_2034 : Cond.instanceMethod ⟨"WeekBoatsModel", "turningBack", "(I)I"⟩ ∈ lw_gd := wmP (i := 2034) (by decide +kernel) rfl
theorem wm_2035 : Cond.code ⟨"WeekBoatsModel", "turningBack", "(I)I"⟩ prog_14_method_54_code 8 (some .int) ∈ lw_gd := wmP (i := 2035) (by decide +kernel) rfl
theorem wm_2036 : Cond.constant "WeekBoatsModel" 450 (-1000000) ∈ lw_gd := wmP (i := 2036) (by decide +kernel) rfl
theorem wm_2037 : Cond.methodLink "WeekBoatsModel" 462 ⟨"WeekBoatsModel", "refund", "(I)I"⟩ ∈ lw_gd := wmP (i := 2037) (by decide +kernel) rfl
theorem wm_2039 : Cond.instanceMethod ⟨"WeekBoatsModel", "refund", "(I)I"⟩ ∈ lw_gd := wmP (i := 2039) (by decide +kernel) rfl
theorem wm_2040 : Cond.code ⟨"WeekBoatsModel", "refund", "(I)I"⟩ prog_14_method_55_code 5 (some .int) ∈ lw_gd := wmP (i := 2040) (by decide +kernel) rfl
theorem wm_2041 : Cond.methodLink "WeekBoatsModel" 451 ⟨"WeekBoatsModel", "price", "(IIZ)I"⟩ ∈ lw_gd := wmP (i := 2041) (by decide +kernel) rfl
theorem wm_2042 : Cond.instanceMethod ⟨"WeekBoatsModel", "price", "(IIZ)I"⟩ ∈ lw_gd := wmP (i := 2042) (by decide +kernel) rfl
theorem wm_2043 : Cond.selects "WeekBoatsModel" ⟨"WeekBoatsModel", "price", "(IIZ)I"⟩ ⟨"WeekBoatsModel", "price", "(IIZ)I"⟩ ∈ lw_gd := wmP (i := 2043) (by decide +kernel) rfl
theorem wm_2044 : Cond.code ⟨"WeekBoatsModel", "price", "(IIZ)I"⟩ prog_14_method_105_code 5 (some .int) ∈ lw_gd := wmP (i := 2044) (by decide +kernel) rfl
theorem wm_2045 : Cond.constantLong "WeekBoatsModel" 457 7 ∈ lw_gd := wmP (i := 2045) (by decide +kernel) rfl
theorem wm_2046 : Cond.methodLink "WeekBoatsLaw" 76 ⟨"WeekBoatsModel", "rung", "()I"⟩ ∈ lw_gd := wmP (i := 2046) (by decide +kernel) rfl
theorem wm_2047 : Cond.instanceMethod ⟨"WeekBoatsModel", "rung", "()I"⟩ ∈ lw_gd := wmP (i := 2047) (by decide +kernel) rfl
theorem wm_2048 : Cond.selects "WeekBoatsModel" ⟨"WeekBoatsModel", "rung", "()I"⟩ ⟨"WeekBoatsModel", "rung", "()I"⟩ ∈ lw_gd := wmP (i := 2048) (by decide +kernel) rfl
theorem wm_2049 : Cond.code ⟨"WeekBoatsModel", "rung", "()I"⟩ prog_14_method_57_code 5 (some .int) ∈ lw_gd := wmP (i := 2049) (by decide +kernel) rfl
theorem wm_2050 : Cond.methodLink "WeekBoatsLaw" 81 ⟨"WeekBoatsModel", "pump", "(IZ)Z"⟩ ∈ lw_gd := wmP (i := 2050) (by decide +kernel) rfl
theorem wm_2051 : Cond.instanceMethod ⟨"WeekBoatsModel", "pump", "(IZ)Z"⟩ ∈ lw_gd := wmP (i := 2051) (by decide +kernel) rfl
theorem wm_2052 : Cond.selects "WeekBoatsModel" ⟨"WeekBoatsModel", "pump", "(IZ)Z"⟩ ⟨"WeekBoatsModel", "pump", "(IZ)Z"⟩ ∈ lw_gd := wmP (i := 2052) (by decide +kernel) rfl
theorem wm_2053 : Cond.code ⟨"WeekBoatsModel", "pump", "(IZ)Z"⟩ prog_14_method_58_code 3 (some .boolean) ∈ lw_gd := wmP (i := 2053) (by decide +kernel) rfl
theorem wm_2054 : Cond.methodLink "WeekBoatsLaw" 85 ⟨"WeekBoatsModel", "pumped", "(IIIII)I"⟩ ∈ lw_gd := wmP (i := 2054) (by decide +kernel) rfl
theorem wm_2055 : Cond.instanceMethod ⟨"WeekBoatsModel", "pumped", "(IIIII)I"⟩ ∈ lw_gd := wmP (i := 2055) (by decide +kernel) rfl
theorem wm_2056 : Cond.selects "WeekBoatsModel" ⟨"WeekBoatsModel", "pumped", "(IIIII)I"⟩ ⟨"WeekBoatsModel", "pumped", "(IIIII)I"⟩ ∈ lw_gd := wmP (i := 2056) (by decide +kernel) rfl
theorem wm_2057 : Cond.code ⟨"WeekBoatsModel", "pumped", "(IIIII)I"⟩ prog_14_method_59_code 10 (some .int) ∈ lw_gd := wmP (i := 2057) (by decide +kernel) rfl
theorem wm_2058 : Cond.methodLink "WeekBoatsLaw" 101 ⟨"WeekBoatsModel", "log", "(III)I"⟩ ∈ lw_gd := wmP (i := 2058) (by decide +kernel) rfl
theorem wm_2059 : Cond.instanceMethod ⟨"WeekBoatsModel", "log", "(III)I"⟩ ∈ lw_gd := wmP (i := 2059) (by decide +kernel) rfl
theorem wm_2060 : Cond.selects "WeekBoatsModel" ⟨"WeekBoatsModel", "log", "(III)I"⟩ ⟨"WeekBoatsModel", "log", "(III)I"⟩ ∈ lw_gd := wmP (i := 2060) (by decide +kernel) rfl
theorem wm_2061 : Cond.code ⟨"WeekBoatsModel", "log", "(III)I"⟩ prog_14_method_60_code 4 (some .int) ∈ lw_gd := wmP (i := 2061) (by decide +kernel) rfl
theorem wm_2062 : Cond.methodLink "WeekBoatsLaw" 105 ⟨"WeekBoatsModel", "could", "(IIII)I"⟩ ∈ lw_gd := wmP (i := 2062) (by decide +kernel) rfl
theorem wm_2063 : Cond.instanceMethod ⟨"WeekBoatsModel", "could", "(IIII)I"⟩ ∈ lw_gd := wmP (i := 2063) (by decide +kernel) rfl
theorem wm_2064 : Cond.selects "WeekBoatsModel" ⟨"WeekBoatsModel", "could", "(IIII)I"⟩ ⟨"WeekBoatsModel", "could", "(IIII)I"⟩ ∈ lw_gd := wmP (i := 2064) (by decide +kernel) rfl
theorem wm_2065 : Cond.code ⟨"WeekBoatsModel", "could", "(IIII)I"⟩ prog_14_method_64_code 5 (some .int) ∈ lw_gd := wmP (i := 2065) (by decide +kernel) rfl
theorem wm_2066 : Cond.methodLink "WeekBoatsModel" 469 ⟨"WeekBoatsModel", "isSpan", "(II)Z"⟩ ∈ lw_gd := wmP (i := 2066) (by decide +kernel) rfl
theorem wm_2067 : Cond.static ⟨"WeekBoatsModel", "isSpan", "(II)Z"⟩ ∈ lw_gd := wmP (i := 2067) (by decide +kernel) rfl
theorem wm_2068 : Cond.code ⟨"WeekBoatsModel", "isSpan", "(II)Z"⟩ prog_14_method_63_code 2 (some .boolean) ∈ lw_gd := wmP (i := 2068) (by decide +kernel) rfl
theorem wm_2069 : Cond.methodLink "WeekBoatsModel" 472 ⟨"WeekBoatsModel", "canHaveBeen", "(IIII)Z"⟩ ∈ lw_gd := wmP (i := 2069) (by decide +kernel) rfl
theorem wm_2071 : Cond.instanceMethod ⟨"WeekBoatsModel", "canHaveBeen", "(IIII)Z"⟩ ∈ lw_gd := wmP (i := 2071) (by decide +kernel) rfl
theorem wm_2072 : Cond.code ⟨"WeekBoatsModel", "canHaveBeen", "(IIII)Z"⟩ prog_14_method_62_code 6 (some .boolean) ∈ lw_gd := wmP (i := 2072) (by decide +kernel) rfl
theorem wm_2073 : Cond.methodLink "WeekBoatsModel" 465 ⟨"WeekBoatsModel", "between", "(IIIII)Z"⟩ ∈ lw_gd := wmP (i := 2073) (by decide +kernel) rfl
theorem wm_2075 : Cond.instanceMethod ⟨"WeekBoatsModel", "between", "(IIIII)Z"⟩ ∈ lw_gd := wmP (i := 2075) (by decide +kernel) rfl
theorem wm_2076 : Cond.code ⟨"WeekBoatsModel", "between", "(IIIII)Z"⟩ prog_14_method_61_code 11 (some .boolean) ∈ lw_gd := wmP (i := 2076) (by decide +kernel) rfl
theorem wm_2077 : Cond.methodLink "WeekBoatsLaw" 109 ⟨"WeekBoatsModel", "whose", "(IIII)I"⟩ ∈ lw_gd := wmP (i := 2077) (by decide +kernel) rfl
theorem wm_2078 : Cond.instanceMethod ⟨"WeekBoatsModel", "whose", "(IIII)I"⟩ ∈ lw_gd := wmP (i := 2078) (by decide +kernel) rfl
theorem wm_2079 : Cond.selects "WeekBoatsModel" ⟨"WeekBoatsModel", "whose", "(IIII)I"⟩ ⟨"WeekBoatsModel", "whose", "(IIII)I"⟩ ∈ lw_gd := wmP (i := 2079) (by decide +kernel) rfl
theorem wm_2080 : Cond.code ⟨"WeekBoatsModel", "whose", "(IIII)I"⟩ prog_14_method_65_code 9 (some .int) ∈ lw_gd := wmP (i := 2080) (by decide +kernel) rfl
theorem wm_2081 : Cond.methodLink "WeekBoatsLaw" 113 ⟨"WeekBoatsModel", "tonight", "(II)I"⟩ ∈ lw_gd := wmP (i := 2081) (by decide +kernel) rfl
theorem wm_2082 : Cond.instanceMethod ⟨"WeekBoatsModel", "tonight", "(II)I"⟩ ∈ lw_gd := wmP (i := 2082) (by decide +kernel) rfl
theorem wm_2083 : Cond.selects "WeekBoatsModel" ⟨"WeekBoatsModel", "tonight", "(II)I"⟩ ⟨"WeekBoatsModel", "tonight", "(II)I"⟩ ∈ lw_gd := wmP (i := 2083) (by decide +kernel) rfl
theorem wm_2084 : Cond.code ⟨"WeekBoatsModel", "tonight", "(II)I"⟩ prog_14_method_66_code 11 (some .int) ∈ lw_gd := wmP (i := 2084) (by decide +kernel) rfl
theorem wm_2085 : Cond.methodLink "WeekBoatsLaw" 117 ⟨"WeekBoatsModel", "queue", "(II)I"⟩ ∈ lw_gd := wmP (i := 2085) (by decide +kernel) rfl
theorem wm_2086 : Cond.instanceMethod ⟨"WeekBoatsModel", "queue", "(II)I"⟩ ∈ lw_gd := wmP (i := 2086) (by decide +kernel) rfl
theorem wm_2087 : Cond.selects "WeekBoatsModel" ⟨"WeekBoatsModel", "queue", "(II)I"⟩ ⟨"WeekBoatsModel", "queue", "(II)I"⟩ ∈ lw_gd := wmP (i := 2087) (by decide +kernel) rfl
theorem wm_2088 : Cond.code ⟨"WeekBoatsModel", "queue", "(II)I"⟩ prog_14_method_67_code 3 (some .int) ∈ lw_gd := wmP (i := 2088) (by decide +kernel) rfl
theorem wm_2089 : Cond.methodLink "WeekBoatsLaw" 121 ⟨"WeekBoatsModel", "lock", "(I)I"⟩ ∈ lw_gd := wmP (i := 2089) (by decide +kernel) rfl
theorem wm_2090 : Cond.instanceMethod ⟨"WeekBoatsModel", "lock", "(I)I"⟩ ∈ lw_gd := wmP (i := 2090) (by decide +kernel) rfl
theorem wm_2091 : Cond.selects "WeekBoatsModel" ⟨"WeekBoatsModel", "lock", "(I)I"⟩ ⟨"WeekBoatsModel", "lock", "(I)I"⟩ ∈ lw_gd := wmP (i := 2091) (by decide +kernel) rfl
theorem wm_2092 : Cond.code ⟨"WeekBoatsModel", "lock", "(I)I"⟩ prog_14_method_72_code 3 (some .int) ∈ lw_gd := wmP (i := 2092) (by decide +kernel) rfl
theorem wm_2093 : Cond.methodLink "WeekBoatsModel" 484 ⟨"WeekBoatsModel", "orders", "(II)V"⟩ ∈ lw_gd := wmP (i := 2093) (by decide +kernel) rfl
theorem wm_2095 : Cond.instanceMethod ⟨"WeekBoatsModel", "orders", "(II)V"⟩ ∈ lw_gd := wmP (i := 2095) (by decide +kernel) rfl
theorem wm_2096 : Cond.code ⟨"WeekBoatsModel", "orders", "(II)V"⟩ prog_14_method_70_code 5 none ∈ lw_gd := wmP (i := 2096) (by decide +kernel) rfl
theorem wm_2097 : Cond.methodLink "WeekBoatsModel" 478 ⟨"WeekBoatsModel", "waits", "()I"⟩ ∈ lw_gd := wmP (i := 2097) (by decide +kernel) rfl
theorem wm_2099 : Cond.instanceMethod ⟨"WeekBoatsModel", "waits", "()I"⟩ ∈ lw_gd := wmP (i := 2099) (by decide +kernel) rfl
theorem wm_2100 : Cond.code ⟨"WeekBoatsModel", "waits", "()I"⟩ prog_14_method_68_code 6 (some .int) ∈ lw_gd := wmP (i := 2100) (by decide +kernel) rfl
theorem wm_2101 : Cond.methodLink "WeekBoatsModel" 487 ⟨"WeekBoatsModel", "asTheyCome", "()V"⟩ ∈ lw_gd := wmP (i := 2101) (by decide +kernel) rfl
theorem wm_2103 : Cond.instanceMethod ⟨"WeekBoatsModel", "asTheyCome", "()V"⟩ ∈ lw_gd := wmP (i := 2103) (by decide +kernel) rfl
theorem wm_2104 : Cond.code ⟨"WeekBoatsModel", "asTheyCome", "()V"⟩ prog_14_method_71_code 2 none ∈ lw_gd := wmP (i := 2104) (by decide +kernel) rfl
theorem wm_2105 : Cond.methodLink "WeekBoatsModel" 490 ⟨"WeekBoatsModel", "lockfuls", "()I"⟩ ∈ lw_gd := wmP (i := 2105) (by decide +kernel) rfl
theorem wm_2107 : Cond.instanceMethod ⟨"WeekBoatsModel", "lockfuls", "()I"⟩ ∈ lw_gd := wmP (i := 2107) (by decide +kernel) rfl
theorem wm_2108 : Cond.code ⟨"WeekBoatsModel", "lockfuls", "()I"⟩ prog_14_method_69_code 3 (some .int) ∈ lw_gd := wmP (i := 2108) (by decide +kernel) rfl
theorem wm_2109 : Cond.methodLink "WeekBoatsLaw" 125 ⟨"WeekBoatsModel", "booking", "(IIII)I"⟩ ∈ lw_gd := wmP (i := 2109) (by decide +kernel) rfl
theorem wm_2110 : Cond.instanceMethod ⟨"WeekBoatsModel", "booking", "(IIII)I"⟩ ∈ lw_gd := wmP (i := 2110) (by decide +kernel) rfl
theorem wm_2111 : Cond.selects "WeekBoatsModel" ⟨"WeekBoatsModel", "booking", "(IIII)I"⟩ ⟨"WeekBoatsModel", "booking", "(IIII)I"⟩ ∈ lw_gd := wmP (i := 2111) (by decide +kernel) rfl
theorem wm_2112 : Cond.code ⟨"WeekBoatsModel", "booking", "(IIII)I"⟩ prog_14_method_73_code 5 (some .int) ∈ lw_gd := wmP (i := 2112) (by decide +kernel) rfl
theorem wm_2113 : Cond.methodLink "WeekBoatsLaw" 129 ⟨"WeekBoatsModel", "given", "(II)I"⟩ ∈ lw_gd := wmP (i := 2113) (by decide +kernel) rfl
theorem wm_2114 : Cond.instanceMethod ⟨"WeekBoatsModel", "given", "(II)I"⟩ ∈ lw_gd := wmP (i := 2114) (by decide +kernel) rfl
theorem wm_2115 : Cond.selects "WeekBoatsModel" ⟨"WeekBoatsModel", "given", "(II)I"⟩ ⟨"WeekBoatsModel", "given", "(II)I"⟩ ∈ lw_gd := wmP (i := 2115) (by decide +kernel) rfl
theorem wm_2116 : Cond.code ⟨"WeekBoatsModel", "given", "(II)I"⟩ prog_14_method_76_code 3 (some .int) ∈ lw_gd := wmP (i := 2116) (by decide +kernel) rfl
theorem wm_2117 : Cond.methodLink "WeekBoatsModel" 505 ⟨"WeekBoatsModel", "asks", "(I)V"⟩ ∈ lw_gd := wmP (i := 2117) (by decide +kernel) rfl
theorem wm_2119 : Cond.instanceMethod ⟨"WeekBoatsModel", "asks", "(I)V"⟩ ∈ lw_gd := wmP (i := 2119) (by decide +kernel) rfl
theorem wm_2120 : Cond.code ⟨"WeekBoatsModel", "asks", "(I)V"⟩ prog_14_method_77_code 3 none ∈ lw_gd := wmP (i := 2120) (by decide +kernel) rfl
theorem wm_2121 : Cond.methodLink "WeekBoatsModel" 509 ⟨"WeekBoatsModel", "givesBest", "(I)V"⟩ ∈ lw_gd := wmP (i := 2121) (by decide +kernel) rfl
theorem wm_2123 : Cond.instanceMethod ⟨"WeekBoatsModel", "givesBest", "(I)V"⟩ ∈ lw_gd := wmP (i := 2123) (by decide +kernel) rfl
theorem wm_2124 : Cond.code ⟨"WeekBoatsModel", "givesBest", "(I)V"⟩ prog_14_method_78_code 3 none ∈ lw_gd := wmP (i := 2124) (by decide +kernel) rfl
theorem wm_2125 : Cond.methodLink "WeekBoatsModel" 512 ⟨"WeekBoatsModel", "sorts", "()V"⟩ ∈ lw_gd := wmP (i := 2125) (by decide +kernel) rfl
theorem wm_2127 : Cond.instanceMethod ⟨"WeekBoatsModel", "sorts", "()V"⟩ ∈ lw_gd := wmP (i := 2127) (by decide +kernel) rfl
theorem wm_2128 : Cond.code ⟨"WeekBoatsModel", "sorts", "()V"⟩ prog_14_method_74_code 3 none ∈ lw_gd := wmP (i := 2128) (by decide +kernel) rfl
theorem wm_2129 : Cond.methodLink "WeekBoatsModel" 502 ⟨"WeekBoatsModel", "gives", "(III)V"⟩ ∈ lw_gd := wmP (i := 2129) (by decide +kernel) rfl
theorem wm_2131 : Cond.instanceMethod ⟨"WeekBoatsModel", "gives", "(III)V"⟩ ∈ lw_gd := wmP (i := 2131) (by decide +kernel) rfl
theorem wm_2132 : Cond.code ⟨"WeekBoatsModel", "gives", "(III)V"⟩ prog_14_method_75_code 8 none ∈ lw_gd := wmP (i := 2132) (by decide +kernel) rfl
theorem wm_2133 : Cond.methodLink "WeekBoatsLaw" 133 ⟨"WeekBoatsModel", "more", "(III)I"⟩ ∈ lw_gd := wmP (i := 2133) (by decide +kernel) rfl
theorem wm_2134 : Cond.instanceMethod ⟨"WeekBoatsModel", "more", "(III)I"⟩ ∈ lw_gd := wmP (i := 2134) (by decide +kernel) rfl
theorem wm_2135 : Cond.selects "WeekBoatsModel" ⟨"WeekBoatsModel", "more", "(III)I"⟩ ⟨"WeekBoatsModel", "more", "(III)I"⟩ ∈ lw_gd := wmP (i := 2135) (by decide +kernel) rfl
theorem wm_2136 : Cond.code ⟨"WeekBoatsModel", "more", "(III)I"⟩ prog_14_method_79_code 5 (some .int) ∈ lw_gd := wmP (i := 2136) (by decide +kernel) rfl
theorem wm_2137 : Cond.methodLink "WeekBoatsLaw" 138 ⟨"WeekBoatsModel", "gas", "(III)Z"⟩ ∈ lw_gd := wmP (i := 2137) (by decide +kernel) rfl
theorem wm_2138 : Cond.instanceMethod ⟨"WeekBoatsModel", "gas", "(III)Z"⟩ ∈ lw_gd := wmP (i := 2138) (by decide +kernel) rfl
theorem wm_2139 : Cond.selects "WeekBoatsModel" ⟨"WeekBoatsModel", "gas", "(III)Z"⟩ ⟨"WeekBoatsModel", "gas", "(III)Z"⟩ ∈ lw_gd := wmP (i := 2139) (by decide +kernel) rfl
theorem wm_2140 : Cond.code ⟨"WeekBoatsModel", "gas", "(III)Z"⟩ prog_14_method_80_code 6 (some .boolean) ∈ lw_gd := wmP (i := 2140) (by decide +kernel) rfl
theorem wm_2141 : Cond.methodLink "WeekBoatsLaw" 142 ⟨"WeekBoatsModel", "dock", "(I)I"⟩ ∈ lw_gd := wmP (i := 2141) (by decide +kernel) rfl
theorem wm_2142 : Cond.instanceMethod ⟨"WeekBoatsModel", "dock", "(I)I"⟩ ∈ lw_gd := wmP (i := 2142) (by decide +kernel) rfl
theorem wm_2143 : Cond.selects "WeekBoatsModel" ⟨"WeekBoatsModel", "dock", "(I)I"⟩ ⟨"WeekBoatsModel", "dock", "(I)I"⟩ ∈ lw_gd := wmP (i := 2143) (by decide +kernel) rfl
theorem wm_2144 : Cond.code ⟨"WeekBoatsModel", "dock", "(I)I"⟩ prog_14_method_82_code 3 (some .int) ∈ lw_gd := wmP (i := 2144) (by decide +kernel) rfl
theorem wm_2145 : Cond.methodLink "WeekBoatsModel" 524 ⟨"WeekBoatsModel", "docksOn", "(IIIII)V"⟩ ∈ lw_gd := wmP (i := 2145) (by decide +kernel) rfl
theorem wm_2147 : Cond.instanceMethod ⟨"WeekBoatsModel", "docksOn", "(IIIII)V"⟩ ∈ lw_gd := wmP (i := 2147) (by decide +kernel) rfl
theorem wm_2148 : Cond.code ⟨"WeekBoatsModel", "docksOn", "(IIIII)V"⟩ prog_14_method_81_code 9 none ∈ lw_gd := wmP (i := 2148) (by decide +kernel) rfl
theorem wm_2149 : Cond.methodLink "WeekBoatsLaw" 146 ⟨"WeekBoatsModel", "job", "(I)I"⟩ ∈ lw_gd := wmP (i := 2149) (by decide +kernel) rfl
theorem wm_2150 : Cond.instanceMethod ⟨"WeekBoatsModel", "job", "(I)I"⟩ ∈ lw_gd := wmP (i := 2150) (by decide +kernel) rfl
theorem wm_2151 : Cond.selects "WeekBoatsModel" ⟨"WeekBoatsModel", "job", "(I)I"⟩ ⟨"WeekBoatsModel", "job", "(I)I"⟩ ∈ lw_gd := wmP (i := 2151) (by decide +kernel) rfl
theorem wm_2152 : Cond.code ⟨"WeekBoatsModel", "job", "(I)I"⟩ prog_14_method_83_code 2 (some .int) ∈ lw_gd := wmP (i := 2152) (by decide +kernel) rfl
theorem wm_2153 : Cond.methodLink "WeekBoatsLaw" 150 ⟨"WeekBoatsModel", "turned", "(II)I"⟩ ∈ lw_gd := wmP (i := 2153) (by decide +kernel) rfl
theorem wm_2154 : Cond.instanceMethod ⟨"WeekBoatsModel", "turned", "(II)I"⟩ ∈ lw_gd := wmP (i := 2154) (by decide +kernel) rfl
theorem wm_2155 : Cond.selects "WeekBoatsModel" ⟨"WeekBoatsModel", "turned", "(II)I"⟩ ⟨"WeekBoatsModel", "turned", "(II)I"⟩ ∈ lw_gd := wmP (i := 2155) (by decide +kernel) rfl
theorem wm_2156 : Cond.code ⟨"WeekBoatsModel", "turned", "(II)I"⟩ prog_14_method_87_code 9 (some .int) ∈ lw_gd := wmP (i := 2156) (by decide +kernel) rfl
theorem wm_2157 : Cond.methodLink "WeekBoatsModel" 537 ⟨"WeekBoatsModel", "worked", "(I)I"⟩ ∈ lw_gd := wmP (i := 2157) (by decide +kernel) rfl
theorem wm_2159 : Cond.instanceMethod ⟨"WeekBoatsModel", "worked", "(I)I"⟩ ∈ lw_gd := wmP (i := 2159) (by decide +kernel) rfl
theorem wm_2160 : Cond.code ⟨"WeekBoatsModel", "worked", "(I)I"⟩ prog_14_method_84_code 5 (some .int) ∈ lw_gd := wmP (i := 2160) (by decide +kernel) rfl
theorem wm_2161 : Cond.methodLink "WeekBoatsModel" 534 ⟨"WeekBoatsModel", "lastEnd", "(I)I"⟩ ∈ lw_gd := wmP (i := 2161) (by decide +kernel) rfl
theorem wm_2163 : Cond.instanceMethod ⟨"WeekBoatsModel", "lastEnd", "(I)I"⟩ ∈ lw_gd := wmP (i := 2163) (by decide +kernel) rfl
theorem wm_2164 : Cond.code ⟨"WeekBoatsModel", "lastEnd", "(I)I"⟩ prog_14_method_85_code 4 (some .int) ∈ lw_gd := wmP (i := 2164) (by decide +kernel) rfl
theorem wm_2165 : Cond.methodLink "WeekBoatsModel" 540 ⟨"WeekBoatsModel", "handOf", "(III)I"⟩ ∈ lw_gd := wmP (i := 2165) (by decide +kernel) rfl
theorem wm_2167 : Cond.instanceMethod ⟨"WeekBoatsModel", "handOf", "(III)I"⟩ ∈ lw_gd := wmP (i := 2167) (by decide +kernel) rfl
theorem wm_2168 : Cond.code ⟨"WeekBoatsModel", "handOf", "(III)I"⟩ prog_14_method_86_code 6 (some .int) ∈ lw_gd := wmP (i := 2168) (by decide +kernel) rfl
theorem wm_2169 : Cond.methodLink "WeekBoatsLaw" 155 ⟨"WeekBoatsModel", "weight", "(II)Z"⟩ ∈ lw_gd := wmP (i := 2169) (by decide +kernel) rfl
theorem wm_2170 : Cond.instanceMethod ⟨"WeekBoatsModel", "weight", "(II)Z"⟩ ∈ lw_gd := wmP (i := 2170) (by decide +kernel) rfl
theorem wm_2171 : Cond.selects "WeekBoatsModel" ⟨"WeekBoatsModel", "weight", "(II)Z"⟩ ⟨"WeekBoatsModel", "weight", "(II)Z"⟩ ∈ lw_gd := wmP (i := 2171) (by decide +kernel) rfl
theorem wm_2172 : Cond.code ⟨"WeekBoatsModel", "weight", "(II)Z"⟩ prog_14_method_88_code 3 (some .boolean) ∈ lw_gd := wmP (i := 2172) (by decide +kernel) rfl
theorem wm_2173 : Cond.methodLink "WeekBoatsLaw" 159 ⟨"WeekBoatsModel", "van", "(I)I"⟩ ∈ lw_gd := wmP (i := 2173) (by decide +kernel) rfl
theorem wm_2174 : Cond.instanceMethod ⟨"WeekBoatsModel", "van", "(I)I"⟩ ∈ lw_gd := wmP (i := 2174) (by decide +kernel) rfl
theorem wm_2175 : Cond.selects "WeekBoatsModel" ⟨"WeekBoatsModel", "van", "(I)I"⟩ ⟨"WeekBoatsModel", "van", "(I)I"⟩ ∈ lw_gd := wmP (i := 2175) (by decide +kernel) rfl
theorem wm_2176 : Cond.code ⟨"WeekBoatsModel", "van", "(I)I"⟩ prog_14_method_92_code 4 (some .int) ∈ lw_gd := wmP (i := 2176) (by decide +kernel) rfl
theorem wm_2177 : Cond.methodLink "WeekBoatsModel" 546 ⟨"WeekBoatsModel", "sumOf", "(I)I"⟩ ∈ lw_gd := wmP (i := 2177) (by decide +kernel) rfl
theorem wm_2179 : Cond.instanceMethod ⟨"WeekBoatsModel", "sumOf", "(I)I"⟩ ∈ lw_gd := wmP (i := 2179) (by decide +kernel) rfl
theorem wm_2180 : Cond.code ⟨"WeekBoatsModel", "sumOf", "(I)I"⟩ prog_14_method_90_code 4 (some .int) ∈ lw_gd := wmP (i := 2180) (by decide +kernel) rfl
theorem wm_2181 : Cond.methodLink "WeekBoatsModel" 543 ⟨"WeekBoatsModel", "drive", "(II)I"⟩ ∈ lw_gd := wmP (i := 2181) (by decide +kernel) rfl
theorem wm_2183 : Cond.instanceMethod ⟨"WeekBoatsModel", "drive", "(II)I"⟩ ∈ lw_gd := wmP (i := 2183) (by decide +kernel) rfl
theorem wm_2184 : Cond.code ⟨"WeekBoatsModel", "drive", "(II)I"⟩ prog_14_method_89_code 5 (some .int) ∈ lw_gd := wmP (i := 2184) (by decide +kernel) rfl
theorem wm_2185 : Cond.methodLink "WeekBoatsModel" 549 ⟨"WeekBoatsModel", "worstOf", "(I)I"⟩ ∈ lw_gd := wmP (i := 2185) (by decide +kernel) rfl
theorem wm_2187 : Cond.instanceMethod ⟨"WeekBoatsModel", "worstOf", "(I)I"⟩ ∈ lw_gd := wmP (i := 2187) (by decide +kernel) rfl
theorem wm_2188 : Cond.code ⟨"WeekBoatsModel", "worstOf", "(I)I"⟩ prog_14_method_91_code 4 (some .int) ∈ lw_gd := wmP (i := 2188) (by decide +kernel) rfl
theorem wm_2189 : Cond.methodLink "WeekBoatsLaw" 163 ⟨"WeekBoatsModel", "vans", "(I)I"⟩ ∈ lw_gd := wmP (i := 2189) (by decide +kernel) rfl
theorem wm_2190 : Cond.instanceMethod ⟨"WeekBoatsModel", "vans", "(I)I"⟩ ∈ lw_gd := wmP (i := 2190) (by decide +kernel) rfl
theorem wm_2191 : Cond.selects "WeekBoatsModel" ⟨"WeekBoatsModel", "vans", "(I)I"⟩ ⟨"WeekBoatsModel", "vans", "(I)I"⟩ ∈ lw_gd := wmP (i := 2191) (by decide +kernel) rfl
theorem wm_2192 : Cond.code ⟨"WeekBoatsModel", "vans", "(I)I"⟩ prog_14_method_94_code 8 (some .int) ∈ lw_gd := wmP (i := 2192) (by decide +kernel) rfl
theorem wm_2193 : Cond.methodLink "WeekBoatsModel" 552 ⟨"WeekBoatsModel", "nearer", "(III)I"⟩ ∈ lw_gd := wmP (i := 2193) (by decide +kernel) rfl
theorem wm_2195 : Cond.instanceMethod ⟨"WeekBoatsModel", "nearer", "(III)I"⟩ ∈ lw_gd := wmP (i := 2195) (by decide +kernel) rfl
theorem wm_2196 : Cond.code ⟨"WeekBoatsModel", "nearer", "(III)I"⟩ prog_14_method_93_code 4 (some .int) ∈ lw_gd := wmP (i := 2196) (by decide +kernel) rfl
theorem wm_2197 : Cond.methodLink "WeekBoatsLaw" 167 ⟨"WeekBoatsModel", "call", "(III)I"⟩ ∈ lw_gd := wmP (i := 2197) (by decide +kernel) rfl
theorem wm_2198 : Cond.instanceMethod ⟨"WeekBoatsModel", "call", "(III)I"⟩ ∈ lw_gd := wmP (i := 2198) (by decide +kernel) rfl
theorem wm_2199 : Cond.selects "WeekBoatsModel" ⟨"WeekBoatsModel", "call", "(III)I"⟩ ⟨"WeekBoatsModel", "call", "(III)I"⟩ ∈ lw_gd := wmP (i := 2199) (by decide +kernel) rfl
theorem wm_2200 : Cond.code ⟨"WeekBoatsModel", "call", "(III)I"⟩ prog_14_method_95_code 4 (some .int) ∈ lw_gd := wmP (i := 2200) (by decide +kernel) rfl
theorem wm_2201 : Cond.methodLink "WeekBoatsLaw" 171 ⟨"WeekBoatsModel", "taken", "(III)I"⟩ ∈ lw_gd := wmP (i := 2201) (by decide +kernel) rfl
theorem wm_2202 : Cond.instanceMethod ⟨"WeekBoatsModel", "taken", "(III)I"⟩ ∈ lw_gd := wmP (i := 2202) (by decide +kernel) rfl
theorem wm_2203 : Cond.selects "WeekBoatsModel" ⟨"WeekBoatsModel", "taken", "(III)I"⟩ ⟨"WeekBoatsModel", "taken", "(III)I"⟩ ∈ lw_gd := wmP (i := 2203) (by decide +kernel) rfl
theorem wm_2204 : Cond.code ⟨"WeekBoatsModel", "taken", "(III)I"⟩ prog_14_method_97_code 10 (some .int) ∈ lw_gd := wmP (i := 2204) (by decide +kernel) rfl
theorem wm_2205 : Cond.methodLink "WeekBoatsModel" 558 ⟨"WeekBoatsModel", "arrives", "(II)I"⟩ ∈ lw_gd := wmP (i := 2205) (by decide +kernel) rfl
theorem wm_2207 : Cond.instanceMethod ⟨"WeekBoatsModel", "arrives", "(II)I"⟩ ∈ lw_gd := wmP (i := 2207) (by decide +kernel) rfl
theorem wm_2208 : Cond.code ⟨"WeekBoatsModel", "arrives", "(II)I"⟩ prog_14_method_96_code 4 (some .int) ∈ lw_gd := wmP (i := 2208) (by decide +kernel) rfl
theorem wm_2209 : Cond.methodLink "WeekBoatsLaw" 175 ⟨"WeekBoatsModel", "left", "(IIIII)I"⟩ ∈ lw_gd := wmP (i := 2209) (by decide +kernel) rfl
theorem wm_2210 : Cond.instanceMethod ⟨"WeekBoatsModel", "left", "(IIIII)I"⟩ ∈ lw_gd := wmP (i := 2210) (by decide +kernel) rfl
theorem wm_2211 : Cond.selects "WeekBoatsModel" ⟨"WeekBoatsModel", "left", "(IIIII)I"⟩ ⟨"WeekBoatsModel", "left", "(IIIII)I"⟩ ∈ lw_gd := wmP (i := 2211) (by decide +kernel) rfl
theorem wm_2212 : Cond.code ⟨"WeekBoatsModel", "left", "(IIIII)I"⟩ prog_14_method_103_code 7 (some .int) ∈ lw_gd := wmP (i := 2212) (by decide +kernel) rfl
theorem wm_2213 : Cond.methodLink "WeekBoatsModel" 567 ⟨"WeekBoatsModel", "canAsk", "(IIII)Z"⟩ ∈ lw_gd := wmP (i := 2213) (by decide +kernel) rfl
theorem wm_2214 : Cond.static ⟨"WeekBoatsModel", "canAsk", "(IIII)Z"⟩ ∈ lw_gd := wmP (i := 2214) (by decide +kernel) rfl
theorem wm_2215 : Cond.code ⟨"WeekBoatsModel", "canAsk", "(IIII)Z"⟩ prog_14_method_98_code 4 (some .boolean) ∈ lw_gd := wmP (i := 2215) (by decide +kernel) rfl
theorem wm_2216 : Cond.methodLink "WeekBoatsModel" 570 ⟨"WeekBoatsModel", "starts", "()V"⟩ ∈ lw_gd := wmP (i := 2216) (by decide +kernel) rfl
theorem wm_2218 : Cond.instanceMethod ⟨"WeekBoatsModel", "starts", "()V"⟩ ∈ lw_gd := wmP (i := 2218) (by decide +kernel) rfl
theorem wm_2219 : Cond.code ⟨"WeekBoatsModel", "starts", "()V"⟩ prog_14_method_101_code 2 none ∈ lw_gd := wmP (i := 2219) (by decide +kernel) rfl
theorem wm_2220 : Cond.constant "WeekBoatsModel" 561 1000000 ∈ lw_gd := wmP (i := 2220) (by decide +kernel) rfl
theorem wm_2221 : Cond.methodLink "WeekBoatsModel" 573 ⟨"WeekBoatsModel", "aDay", "(IIII)V"⟩ ∈ lw_gd := wmP (i := 2221) (by decide +kernel) rfl
theorem wm_2223 : Cond.instanceMethod ⟨"WeekBoatsModel", "aDay", "(IIII)V"⟩ ∈ lw_gd := wmP (i := 2223) (by decide +kernel) rfl
theorem wm_2224 : Cond.code ⟨"WeekBoatsModel", "aDay", "(IIII)V"⟩ prog_14_method_102_code 8 none ∈ lw_gd := wmP (i := 2224) (by decide +kernel) rfl
theorem wm_2225 : Cond.constantLong "WeekBoatsModel" 562 100 ∈ lw_gd := wmP (i := 2225) (by decide +kernel) rfl
theorem wm_2226 : Cond.methodLink "WeekBoatsModel" 564 ⟨"WeekBoatsModel", "falls", "(III)V"⟩ ∈ lw_gd := wmP (i := 2226) (by decide +kernel) rfl
theorem wm_2228 : Cond.instanceMethod ⟨"WeekBoatsModel", "falls", "(III)V"⟩ ∈ lw_gd := wmP (i := 2228) (by decide +kernel) rfl
theorem wm_2229 : Cond.code ⟨"WeekBoatsModel", "falls", "(III)V"⟩ prog_14_method_99_code 5 none ∈ lw_gd := wmP (i := 2229) (by decide +kernel) rfl
theorem wm_2230 : Cond.methodLink "WeekBoatsModel" 577 ⟨"WeekBoatsModel", "kept", "()I"⟩ ∈ lw_gd := wmP (i := 2230) (by decide +kernel) rfl
theorem wm_2232 : Cond.instanceMethod ⟨"WeekBoatsModel", "kept", "()I"⟩ ∈ lw_gd := wmP (i := 2232) (by decide +kernel) rfl
theorem wm_2233 : Cond.code ⟨"WeekBoatsModel", "kept", "()I"⟩ prog_14_method_100_code 3 (some .int) ∈ lw_gd := wmP (i := 2233) (by decide +kernel) rfl
theorem wm_2234 : Cond.methodLink "WeekBoatsLaw" 179 ⟨"WeekBoatsModel", "shuts", "(IIII)I"⟩ ∈ lw_gd := wmP (i := 2234) (by decide +kernel) rfl
theorem wm_2235 : Cond.instanceMethod ⟨"WeekBoatsModel", "shuts", "(IIII)I"⟩ ∈ lw_gd := wmP (i := 2235) (by decide +kernel) rfl
theorem wm_2236 : Cond.selects "WeekBoatsModel" ⟨"WeekBoatsModel", "shuts", "(IIII)I"⟩ ⟨"WeekBoatsModel", "shuts", "(IIII)I"⟩ ∈ lw_gd := wmP (i := 2236) (by decide +kernel) rfl
theorem wm_2237 : Cond.code ⟨"WeekBoatsModel", "shuts", "(IIII)I"⟩ prog_14_method_104_code 6 (some .int) ∈ lw_gd := wmP (i := 2237) (by decide +kernel) rfl
theorem wm_2238 : Cond.constant "WeekBoatsModel" 580 500000 ∈ lw_gd := wmP (i := 2238) (by decide +kernel) rfl
theorem wm_2239 : Cond.methodLink "WeekBoatsLaw" 184 ⟨"WeekBoatsModel", "price", "(IIZ)I"⟩ ∈ lw_gd := wmP (i := 2239) (by decide +kernel) rfl
theorem wm_2240 : Cond.methodLink "WeekBoatsLaw" 188 ⟨"WeekBoatsModel", "held", "(IIII)I"⟩ ∈ lw_gd := wmP (i := 2240) (by decide +kernel) rfl
theorem wm_2241 : Cond.instanceMethod ⟨"WeekBoatsModel", "held", "(IIII)I"⟩ ∈ lw_gd := wmP (i := 2241) (by decide +kernel) rfl
theorem wm_2242 : Cond.selects "WeekBoatsModel" ⟨"WeekBoatsModel", "held", "(IIII)I"⟩ ⟨"WeekBoatsModel", "held", "(IIII)I"⟩ ∈ lw_gd := wmP (i := 2242) (by decide +kernel) rfl
theorem wm_2243 : Cond.code ⟨"WeekBoatsModel", "held", "(IIII)I"⟩ prog_14_method_106_code 6 (some .int) ∈ lw_gd := wmP (i := 2243) (by decide +kernel) rfl
theorem wm_2244 : Cond.methodLink "WeekBoatsLaw" 192 ⟨"WeekBoatsModel", "look", "(I)I"⟩ ∈ lw_gd := wmP (i := 2244) (by decide +kernel) rfl
theorem wm_2245 : Cond.instanceMethod ⟨"WeekBoatsModel", "look", "(I)I"⟩ ∈ lw_gd := wmP (i := 2245) (by decide +kernel) rfl
theorem wm_2246 : Cond.selects "WeekBoatsModel" ⟨"WeekBoatsModel", "look", "(I)I"⟩ ⟨"WeekBoatsModel", "look", "(I)I"⟩ ∈ lw_gd := wmP (i := 2246) (by decide +kernel) rfl
theorem wm_2247 : Cond.code ⟨"WeekBoatsModel", "look", "(I)I"⟩ prog_14_method_107_code 2 (some .int) ∈ lw_gd := wmP (i := 2247) (by decide +kernel) rfl
theorem wm_2248 : Cond.fieldLink "java/lang/String" 9 "java/lang/String" "value" "[B" ∈ lw_gd := wmP (i := 2248) (by decide +kernel) rfl
theorem wm_2249 : Cond.fieldLink "java/lang/String" 15 "java/lang/String" "coder" "B" ∈ lw_gd := wmP (i := 2249) (by decide +kernel) rfl
