section
theorem wmP {i : Nat} {w : Cond} (h : lw_tbl[i]? = some w) (hg : goodWord w = true) : w ∈ lw_gd := gd (List.mem_of_getElem? h) hg
theorem wk_1 {i : Nat} {w : Cond} (h : tables_1_1[i]? = some w) (hg : goodWord w = true) : w ∈ lw_gd := gd (List.mem_append_right _ (tm_1 h)) hg
theorem wk_2 {i : Nat} {w : Cond} (h : tables_1_2[i]? = some w) (hg : goodWord w = true) : w ∈ lw_gd := gd (List.mem_append_right _ (tm_2 h)) hg
theorem wk_3 {i : Nat} {w : Cond} (h : tables_1_3[i]? = some w) (hg : goodWord w = true) : w ∈ lw_gd := gd (List.mem_append_right _ (tm_3 h)) hg
theorem wk_4 {i : Nat} {w : Cond} (h : tables_1_4[i]? = some w) (hg : goodWord w = true) : w ∈ lw_gd := gd (List.mem_append_right _ (tm_4 h)) hg
theorem wk_5 {i : Nat} {w : Cond} (h : tables_1_5[i]? = some w) (hg : goodWord w = true) : w ∈ lw_gd := gd (List.mem_append_right _ (tm_5 h)) hg
theorem wk_6 {i : Nat} {w : Cond} (h : tables_1_6[i]? = some w) (hg : goodWord w = true) : w ∈ lw_gd := gd (List.mem_append_right _ (tm_6 h)) hg
theorem wk_7 {i : Nat} {w : Cond} (h : tables_1_7[i]? = some w) (hg : goodWord w = true) : w ∈ lw_gd := gd (List.mem_append_right _ (tm_7 h)) hg
theorem wk_8 {i : Nat} {w : Cond} (h : tables_1_8[i]? = some w) (hg : goodWord w = true) : w ∈ lw_gd := gd (List.mem_append_right _ (tm_8 h)) hg
theorem wk_9 {i : Nat} {w : Cond} (h : tables_1_9[i]? = some w) (hg : goodWord w = true) : w ∈ lw_gd := gd (List.mem_append_right _ (tm_9 h)) hg
theorem wm_0 : Cond.selects "WeekBoats$Rules" ⟨"WeekBoats$Rules", "run", "(II)I"⟩ ⟨"WeekBoats$Rules", "run", "(II)I"⟩ ∈ lw_gd := wmP (i := 0) (by decide +kernel) rfl
theorem wm_1 : Cond.selects "WeekBoats$Rules" ⟨"WeekBoats$Rules", "askedOf", "(I)I"⟩ ⟨"WeekBoats$Rules", "askedOf", "(I)I"⟩ ∈ lw_gd := wmP (i := 1) (by decide +kernel) rfl
theorem wm_2 : Cond.selects "WeekBoats$Parser" ⟨"WeekBoats$Parser", "scan", "()V"⟩ ⟨"WeekBoats$Parser", "scan", "()V"⟩ ∈ lw_gd := wmP (i := 2) (by decide +kernel) rfl
theorem wm_3 : Cond.selects "WeekBoats$Parser" ⟨"WeekBoats$Parser", "endOfWord", "(I)I"⟩ ⟨"WeekBoats$Parser", "endOfWord", "(I)I"⟩ ∈ lw_gd := wmP (i := 3) (by decide +kernel) rfl
theorem wm_4 : Cond.selects "WeekBoats$Parser" ⟨"WeekBoats$Parser", "wordOf", "(II)I"⟩ ⟨"WeekBoats$Parser", "wordOf", "(II)I"⟩ ∈ lw_gd := wmP (i := 4) (by decide +kernel) rfl
theorem wm_5 : Cond.selects "WeekBoats$Parser" ⟨"WeekBoats$Parser", "isSame", "(III)Z"⟩ ⟨"WeekBoats$Parser", "isSame", "(III)Z"⟩ ∈ lw_gd := wmP (i := 5) (by decide +kernel) rfl
theorem wm_6 : Cond.selects "WeekBoats$Parser" ⟨"WeekBoats$Parser", "add", "(II)V"⟩ ⟨"WeekBoats$Parser", "add", "(II)V"⟩ ∈ lw_gd := wmP (i := 6) (by decide +kernel) rfl
theorem wm_7 : Cond.selects "WeekBoats$Parser" ⟨"WeekBoats$Parser", "endOfDigits", "(I)I"⟩ ⟨"WeekBoats$Parser", "endOfDigits", "(I)I"⟩ ∈ lw_gd := wmP (i := 7) (by decide +kernel) rfl
theorem wm_8 : Cond.selects "WeekBoats$Parser" ⟨"WeekBoats$Parser", "numberOf", "(II)I"⟩ ⟨"WeekBoats$Parser", "numberOf", "(II)I"⟩ ∈ lw_gd := wmP (i := 8) (by decide +kernel) rfl
theorem wm_9 : Cond.selects "WeekBoats$Parser" ⟨"WeekBoats$Parser", "readLine", "()V"⟩ ⟨"WeekBoats$Parser", "readLine", "()V"⟩ ∈ lw_gd := wmP (i := 9) (by decide +kernel) rfl
theorem wm_10 : Cond.selects "WeekBoats$Parser" ⟨"WeekBoats$Parser", "fail", "(I)V"⟩ ⟨"WeekBoats$Parser", "fail", "(I)V"⟩ ∈ lw_gd := wmP (i := 10) (by decide +kernel) rfl
theorem wm_11 : Cond.selects "WeekBoats$Parser" ⟨"WeekBoats$Parser", "goOn", "()V"⟩ ⟨"WeekBoats$Parser", "goOn", "()V"⟩ ∈ lw_gd := wmP (i := 11) (by decide +kernel) rfl
theorem wm_12 : Cond.selects "WeekBoats$Parser" ⟨"WeekBoats$Parser", "readTunnel", "()V"⟩ ⟨"WeekBoats$Parser", "readTunnel", "()V"⟩ ∈ lw_gd := wmP (i := 12) (by decide +kernel) rfl
theorem wm_13 : Cond.selects "WeekBoats$Parser" ⟨"WeekBoats$Parser", "numberUpTo", "(I)I"⟩ ⟨"WeekBoats$Parser", "numberUpTo", "(I)I"⟩ ∈ lw_gd := wmP (i := 13) (by decide +kernel) rfl
theorem wm_14 : Cond.selects "WeekBoats$Parser" ⟨"WeekBoats$Parser", "is", "(I)Z"⟩ ⟨"WeekBoats$Parser", "is", "(I)Z"⟩ ∈ lw_gd := wmP (i := 14) (by decide +kernel) rfl
theorem wm_15 : Cond.selects "WeekBoats$Parser" ⟨"WeekBoats$Parser", "readSum", "()V"⟩ ⟨"WeekBoats$Parser", "readSum", "()V"⟩ ∈ lw_gd := wmP (i := 15) (by decide +kernel) rfl
theorem wm_16 : Cond.selects "WeekBoats$Parser" ⟨"WeekBoats$Parser", "readProduct", "()V"⟩ ⟨"WeekBoats$Parser", "readProduct", "()V"⟩ ∈ lw_gd := wmP (i := 16) (by decide +kernel) rfl
theorem wm_17 : Cond.selects "WeekBoats$Parser" ⟨"WeekBoats$Parser", "readUnit", "()V"⟩ ⟨"WeekBoats$Parser", "readUnit", "()V"⟩ ∈ lw_gd := wmP (i := 17) (by decide +kernel) rfl
theorem wm_18 : Cond.selects "WeekBoats$Parser" ⟨"WeekBoats$Parser", "readPart", "()V"⟩ ⟨"WeekBoats$Parser", "readPart", "()V"⟩ ∈ lw_gd := wmP (i := 18) (by decide +kernel) rfl
theorem wm_19 : Cond.selects "WeekBoats$Parser" ⟨"WeekBoats$Parser", "readEither", "(I)V"⟩ ⟨"WeekBoats$Parser", "readEither", "(I)V"⟩ ∈ lw_gd := wmP (i := 19) (by decide +kernel) rfl
theorem wm_20 : Cond.selects "WeekBoats$Parser" ⟨"WeekBoats$Parser", "readAll", "(I)V"⟩ ⟨"WeekBoats$Parser", "readAll", "(I)V"⟩ ∈ lw_gd := wmP (i := 20) (by decide +kernel) rfl
theorem wm_21 : Cond.selects "WeekBoats$Parser" ⟨"WeekBoats$Parser", "readOne", "(I)V"⟩ ⟨"WeekBoats$Parser", "readOne", "(I)V"⟩ ∈ lw_gd := wmP (i := 21) (by decide +kernel) rfl
theorem wm_22 : Cond.selects "WeekBoats$Parser" ⟨"WeekBoats$Parser", "openOneMore", "(I)V"⟩ ⟨"WeekBoats$Parser", "openOneMore", "(I)V"⟩ ∈ lw_gd := wmP (i := 22) (by decide +kernel) rfl
theorem wm_23 : Cond.selects "WeekBoats$Parser" ⟨"WeekBoats$Parser", "demand", "(I)V"⟩ ⟨"WeekBoats$Parser", "demand", "(I)V"⟩ ∈ lw_gd := wmP (i := 23) (by decide +kernel) rfl
theorem wm_24 : Cond.selects "WeekBoats$Parser" ⟨"WeekBoats$Parser", "demandComparing", "()V"⟩ ⟨"WeekBoats$Parser", "demandComparing", "()V"⟩ ∈ lw_gd := wmP (i := 24) (by decide +kernel) rfl
theorem wm_25 : Cond.selects "WeekBoats" ⟨"WeekBoats", "isWay", "(IIII)Z"⟩ ⟨"WeekBoats", "isWay", "(IIII)Z"⟩ ∈ lw_gd := wmP (i := 25) (by decide +kernel) rfl
theorem wm_26 : Cond.selects "WeekBoats" ⟨"WeekBoats", "isBoat", "(I)Z"⟩ ⟨"WeekBoats", "isBoat", "(I)Z"⟩ ∈ lw_gd := wmP (i := 26) (by decide +kernel) rfl
theorem wm_27 : Cond.selects "WeekBoats$Voyage" ⟨"WeekBoats$Voyage", "setOut", "(IZ)V"⟩ ⟨"WeekBoats$Voyage", "setOut", "(IZ)V"⟩ ∈ lw_gd := wmP (i := 27) (by decide +kernel) rfl
theorem wm_28 : Cond.selects "WeekBoats$Voyage" ⟨"WeekBoats$Voyage", "pass", "(IZI)I"⟩ ⟨"WeekBoats$Voyage", "pass", "(IZI)I"⟩ ∈ lw_gd := wmP (i := 28) (by decide +kernel) rfl
theorem wm_29 : Cond.selects "WeekBoats$Voyage" ⟨"WeekBoats$Voyage", "step", "(IIII)I"⟩ ⟨"WeekBoats$Voyage", "step", "(IIII)I"⟩ ∈ lw_gd := wmP (i := 29) (by decide +kernel) rfl
theorem wm_30 : Cond.selects "WeekBoats$Voyage" ⟨"WeekBoats$Voyage", "begins", "(III)I"⟩ ⟨"WeekBoats$Voyage", "begins", "(III)I"⟩ ∈ lw_gd := wmP (i := 30) (by decide +kernel) rfl
theorem wm_31 : Cond.selects "WeekBoats$Voyage" ⟨"WeekBoats$Voyage", "firstHour", "(III)I"⟩ ⟨"WeekBoats$Voyage", "firstHour", "(III)I"⟩ ∈ lw_gd := wmP (i := 31) (by decide +kernel) rfl
theorem wm_32 : Cond.selects "WeekBoats$Voyage" ⟨"WeekBoats$Voyage", "hourBehind", "(III)I"⟩ ⟨"WeekBoats$Voyage", "hourBehind", "(III)I"⟩ ∈ lw_gd := wmP (i := 32) (by decide +kernel) rfl
theorem wm_33 : Cond.selects "WeekBoats$Voyage" ⟨"WeekBoats$Voyage", "isStopped", "(II)Z"⟩ ⟨"WeekBoats$Voyage", "isStopped", "(II)Z"⟩ ∈ lw_gd := wmP (i := 33) (by decide +kernel) rfl
theorem wm_34 : Cond.selects "WeekBoats$Boats" ⟨"WeekBoats$Boats", "harmOfLock", "(II)I"⟩ ⟨"WeekBoats$Boats", "harmOfLock", "(II)I"⟩ ∈ lw_gd := wmP (i := 34) (by decide +kernel) rfl
theorem wm_35 : Cond.selects "WeekBoats$Trips" ⟨"WeekBoats$Trips", "isBackInTime", "(II)Z"⟩ ⟨"WeekBoats$Trips", "isBackInTime", "(II)Z"⟩ ∈ lw_gd := wmP (i := 35) (by decide +kernel) rfl
theorem wm_36 : Cond.selects "WeekBoats$Boats" ⟨"WeekBoats$Boats", "canBetween", "(IIIII)Z"⟩ ⟨"WeekBoats$Boats", "canBetween", "(IIIII)Z"⟩ ∈ lw_gd := wmP (i := 36) (by decide +kernel) rfl
theorem wm_37 : Cond.selects "WeekBoats$Boats" ⟨"WeekBoats$Boats", "placeOf", "(II)I"⟩ ⟨"WeekBoats$Boats", "placeOf", "(II)I"⟩ ∈ lw_gd := wmP (i := 37) (by decide +kernel) rfl
theorem wm_38 : Cond.selects "WeekBoats$Boats" ⟨"WeekBoats$Boats", "timeOf", "(II)I"⟩ ⟨"WeekBoats$Boats", "timeOf", "(II)I"⟩ ∈ lw_gd := wmP (i := 38) (by decide +kernel) rfl
theorem wm_39 : Cond.selects "WeekBoats$Boats" ⟨"WeekBoats$Boats", "lastLog", "(II)I"⟩ ⟨"WeekBoats$Boats", "lastLog", "(II)I"⟩ ∈ lw_gd := wmP (i := 39) (by decide +kernel) rfl
theorem wm_40 : Cond.selects "WeekBoats$LockQueue" ⟨"WeekBoats$LockQueue", "findBest", "()V"⟩ ⟨"WeekBoats$LockQueue", "findBest", "()V"⟩ ∈ lw_gd := wmP (i := 40) (by decide +kernel) rfl
theorem wm_41 : Cond.selects "WeekBoats$LockQueue" ⟨"WeekBoats$LockQueue", "waitOf", "([I)I"⟩ ⟨"WeekBoats$LockQueue", "waitOf", "([I)I"⟩ ∈ lw_gd := wmP (i := 41) (by decide +kernel) rfl
theorem wm_42 : Cond.selects "WeekBoats$LockQueue" ⟨"WeekBoats$LockQueue", "minutesOf", "([II)I"⟩ ⟨"WeekBoats$LockQueue", "minutesOf", "([II)I"⟩ ∈ lw_gd := wmP (i := 42) (by decide +kernel) rfl
theorem wm_43 : Cond.selects "WeekBoats$Bookings" ⟨"WeekBoats$Bookings", "putInOrder", "()V"⟩ ⟨"WeekBoats$Bookings", "putInOrder", "()V"⟩ ∈ lw_gd := wmP (i := 43) (by decide +kernel) rfl
theorem wm_44 : Cond.selects "WeekBoats" ⟨"WeekBoats", "hireFirst", "(I)V"⟩ ⟨"WeekBoats", "hireFirst", "(I)V"⟩ ∈ lw_gd := wmP (i := 44) (by decide +kernel) rfl
theorem wm_45 : Cond.selects "WeekBoats$Bookings" ⟨"WeekBoats$Bookings", "canEverBeGiven", "(I)Z"⟩ ⟨"WeekBoats$Bookings", "canEverBeGiven", "(I)Z"⟩ ∈ lw_gd := wmP (i := 45) (by decide +kernel) rfl
theorem wm_46 : Cond.selects "WeekBoats$Bookings" ⟨"WeekBoats$Bookings", "canCome", "(II)Z"⟩ ⟨"WeekBoats$Bookings", "canCome", "(II)Z"⟩ ∈ lw_gd := wmP (i := 46) (by decide +kernel) rfl
theorem wm_47 : Cond.selects "WeekBoats$Bookings" ⟨"WeekBoats$Bookings", "compare", "(I)V"⟩ ⟨"WeekBoats$Bookings", "compare", "(I)V"⟩ ∈ lw_gd := wmP (i := 47) (by decide +kernel) rfl
theorem wm_48 : Cond.selects "WeekBoats$Bookings" ⟨"WeekBoats$Bookings", "canHave", "(II)Z"⟩ ⟨"WeekBoats$Bookings", "canHave", "(II)Z"⟩ ∈ lw_gd := wmP (i := 48) (by decide +kernel) rfl
theorem wm_49 : Cond.selects "WeekBoats$Yard" ⟨"WeekBoats$Yard", "othersInDock", "(I)I"⟩ ⟨"WeekBoats$Yard", "othersInDock", "(I)I"⟩ ∈ lw_gd := wmP (i := 49) (by decide +kernel) rfl
theorem wm_50 : Cond.selects "WeekBoats$Yard" ⟨"WeekBoats$Yard", "chooseNext", "(I)V"⟩ ⟨"WeekBoats$Yard", "chooseNext", "(I)V"⟩ ∈ lw_gd := wmP (i := 50) (by decide +kernel) rfl
theorem wm_51 : Cond.selects "WeekBoats$Yard" ⟨"WeekBoats$Yard", "isBetter", "(III)Z"⟩ ⟨"WeekBoats$Yard", "isBetter", "(III)Z"⟩ ∈ lw_gd := wmP (i := 51) (by decide +kernel) rfl
theorem wm_52 : Cond.selects "WeekBoats$Vans" ⟨"WeekBoats$Vans", "minutes", "(II)I"⟩ ⟨"WeekBoats$Vans", "minutes", "(II)I"⟩ ∈ lw_gd := wmP (i := 52) (by decide +kernel) rfl
theorem wm_53 : Cond.selects "WeekBoats$Vans" ⟨"WeekBoats$Vans", "comesAt", "(II)I"⟩ ⟨"WeekBoats$Vans", "comesAt", "(II)I"⟩ ∈ lw_gd := wmP (i := 53) (by decide +kernel) rfl
theorem wm_54 : Cond.selects "WeekBoatsModel" ⟨"WeekBoatsModel", "next0", "()V"⟩ ⟨"WeekBoatsModel", "next0", "()V"⟩ ∈ lw_gd := wmP (i := 54) (by decide +kernel) rfl
theorem wm_55 : Cond.selects "WeekBoatsModel" ⟨"WeekBoatsModel", "see", "(I)I"⟩ ⟨"WeekBoatsModel", "see", "(I)I"⟩ ∈ lw_gd := wmP (i := 55) (by decide +kernel) rfl
theorem wm_56 : Cond.selects "WeekBoatsModel" ⟨"WeekBoatsModel", "word", "()I"⟩ ⟨"WeekBoatsModel", "word", "()I"⟩ ∈ lw_gd := wmP (i := 56) (by decide +kernel) rfl
theorem wm_57 : Cond.selects "WeekBoatsModel" ⟨"WeekBoatsModel", "is", "(Ljava/lang/String;)Z"⟩ ⟨"WeekBoatsModel", "is", "(Ljava/lang/String;)Z"⟩ ∈ lw_gd := wmP (i := 57) (by decide +kernel) rfl
theorem wm_58 : Cond.selects "WeekBoatsModel" ⟨"WeekBoatsModel", "aLine", "()Z"⟩ ⟨"WeekBoatsModel", "aLine", "()Z"⟩ ∈ lw_gd := wmP (i := 58) (by decide +kernel) rfl
theorem wm_59 : Cond.selects "WeekBoatsModel" ⟨"WeekBoatsModel", "bad", "(I)Z"⟩ ⟨"WeekBoatsModel", "bad", "(I)Z"⟩ ∈ lw_gd := wmP (i := 59) (by decide +kernel) rfl
theorem wm_60 : Cond.selects "WeekBoatsModel" ⟨"WeekBoatsModel", "aTunnel", "()Z"⟩ ⟨"WeekBoatsModel", "aTunnel", "()Z"⟩ ∈ lw_gd := wmP (i := 60) (by decide +kernel) rfl
theorem wm_61 : Cond.selects "WeekBoatsModel" ⟨"WeekBoatsModel", "number", "(II)Z"⟩ ⟨"WeekBoatsModel", "number", "(II)Z"⟩ ∈ lw_gd := wmP (i := 61) (by decide +kernel) rfl
theorem wm_62 : Cond.selects "WeekBoatsModel" ⟨"WeekBoatsModel", "hours", "([II[II)Z"⟩ ⟨"WeekBoatsModel", "hours", "([II[II)Z"⟩ ∈ lw_gd := wmP (i := 62) (by decide +kernel) rfl
theorem wm_63 : Cond.selects "WeekBoatsModel" ⟨"WeekBoatsModel", "need", "(I)Z"⟩ ⟨"WeekBoatsModel", "need", "(I)Z"⟩ ∈ lw_gd := wmP (i := 63) (by decide +kernel) rfl
theorem wm_64 : Cond.selects "WeekBoatsModel" ⟨"WeekBoatsModel", "sumUp", "()Z"⟩ ⟨"WeekBoatsModel", "sumUp", "()Z"⟩ ∈ lw_gd := wmP (i := 64) (by decide +kernel) rfl
theorem wm_65 : Cond.selects "WeekBoatsModel" ⟨"WeekBoatsModel", "product", "()Z"⟩ ⟨"WeekBoatsModel", "product", "()Z"⟩ ∈ lw_gd := wmP (i := 65) (by decide +kernel) rfl
theorem wm_66 : Cond.selects "WeekBoatsModel" ⟨"WeekBoatsModel", "unit", "()Z"⟩ ⟨"WeekBoatsModel", "unit", "()Z"⟩ ∈ lw_gd := wmP (i := 66) (by decide +kernel) rfl
theorem wm_67 : Cond.selects "WeekBoatsModel" ⟨"WeekBoatsModel", "lay", "(II)V"⟩ ⟨"WeekBoatsModel", "lay", "(II)V"⟩ ∈ lw_gd := wmP (i := 67) (by decide +kernel) rfl
theorem wm_68 : Cond.selects "WeekBoatsModel" ⟨"WeekBoatsModel", "any", "()Z"⟩ ⟨"WeekBoatsModel", "any", "()Z"⟩ ∈ lw_gd := wmP (i := 68) (by decide +kernel) rfl
theorem wm_69 : Cond.selects "WeekBoatsModel" ⟨"WeekBoatsModel", "every", "()Z"⟩ ⟨"WeekBoatsModel", "every", "()Z"⟩ ∈ lw_gd := wmP (i := 69) (by decide +kernel) rfl
theorem wm_70 : Cond.selects "WeekBoatsModel" ⟨"WeekBoatsModel", "one", "()Z"⟩ ⟨"WeekBoatsModel", "one", "()Z"⟩ ∈ lw_gd := wmP (i := 70) (by decide +kernel) rfl
theorem wm_71 : Cond.selects "WeekBoatsModel" ⟨"WeekBoatsModel", "opens", "()Z"⟩ ⟨"WeekBoatsModel", "opens", "()Z"⟩ ∈ lw_gd := wmP (i := 71) (by decide +kernel) rfl
theorem wm_72 : Cond.selects "WeekBoatsModel" ⟨"WeekBoatsModel", "keeps", "()V"⟩ ⟨"WeekBoatsModel", "keeps", "()V"⟩ ∈ lw_gd := wmP (i := 72) (by decide +kernel) rfl
theorem wm_73 : Cond.selects "WeekBoatsModel" ⟨"WeekBoatsModel", "locksLine", "(I)I"⟩ ⟨"WeekBoatsModel", "locksLine", "(I)I"⟩ ∈ lw_gd := wmP (i := 73) (by decide +kernel) rfl
theorem wm_74 : Cond.selects "WeekBoatsModel" ⟨"WeekBoatsModel", "forgets", "()V"⟩ ⟨"WeekBoatsModel", "forgets", "()V"⟩ ∈ lw_gd := wmP (i := 74) (by decide +kernel) rfl
theorem wm_75 : Cond.selects "WeekBoatsModel" ⟨"WeekBoatsModel", "serves", "(I)I"⟩ ⟨"WeekBoatsModel", "serves", "(I)I"⟩ ∈ lw_gd := wmP (i := 75) (by decide +kernel) rfl
theorem wm_76 : Cond.selects "WeekBoatsModel" ⟨"WeekBoatsModel", "comesTo", "(II)I"⟩ ⟨"WeekBoatsModel", "comesTo", "(II)I"⟩ ∈ lw_gd := wmP (i := 76) (by decide +kernel) rfl
theorem wm_77 : Cond.selects "WeekBoatsModel" ⟨"WeekBoatsModel", "isBoat", "(I)Z"⟩ ⟨"WeekBoatsModel", "isBoat", "(I)Z"⟩ ∈ lw_gd := wmP (i := 77) (by decide +kernel) rfl
theorem wm_78 : Cond.selects "WeekBoatsModel" ⟨"WeekBoatsModel", "led", "(IIII)I"⟩ ⟨"WeekBoatsModel", "led", "(IIII)I"⟩ ∈ lw_gd := wmP (i := 78) (by decide +kernel) rfl
theorem wm_79 : Cond.selects "WeekBoatsModel" ⟨"WeekBoatsModel", "through", "(IIZI)I"⟩ ⟨"WeekBoatsModel", "through", "(IIZI)I"⟩ ∈ lw_gd := wmP (i := 79) (by decide +kernel) rfl
theorem wm_80 : Cond.selects "WeekBoatsModel" ⟨"WeekBoatsModel", "endOf", "(IIII)I"⟩ ⟨"WeekBoatsModel", "endOf", "(IIII)I"⟩ ∈ lw_gd := wmP (i := 80) (by decide +kernel) rfl
theorem wm_81 : Cond.selects "WeekBoatsModel" ⟨"WeekBoatsModel", "mayBegin", "(IIII)Z"⟩ ⟨"WeekBoatsModel", "mayBegin", "(IIII)Z"⟩ ∈ lw_gd := wmP (i := 81) (by decide +kernel) rfl
theorem wm_82 : Cond.selects "WeekBoatsModel" ⟨"WeekBoatsModel", "isStopped", "(II)Z"⟩ ⟨"WeekBoatsModel", "isStopped", "(II)Z"⟩ ∈ lw_gd := wmP (i := 82) (by decide +kernel) rfl
theorem wm_83 : Cond.selects "WeekBoatsModel" ⟨"WeekBoatsModel", "harmOf", "(II)I"⟩ ⟨"WeekBoatsModel", "harmOf", "(II)I"⟩ ∈ lw_gd := wmP (i := 83) (by decide +kernel) rfl
theorem wm_84 : Cond.selects "WeekBoatsModel" ⟨"WeekBoatsModel", "lateOf", "(I)I"⟩ ⟨"WeekBoatsModel", "lateOf", "(I)I"⟩ ∈ lw_gd := wmP (i := 84) (by decide +kernel) rfl
theorem wm_85 : Cond.selects "WeekBoatsModel" ⟨"WeekBoatsModel", "turningBack", "(I)I"⟩ ⟨"WeekBoatsModel", "turningBack", "(I)I"⟩ ∈ lw_gd := wmP (i := 85) (by decide +kernel) rfl
theorem wm_86 : Cond.selects "WeekBoatsModel" ⟨"WeekBoatsModel", "refund", "(I)I"⟩ ⟨"WeekBoatsModel", "refund", "(I)I"⟩ ∈ lw_gd := wmP (i := 86) (by decide +kernel) rfl
theorem wm_87 : Cond.selects "WeekBoatsModel" ⟨"WeekBoatsModel", "canHaveBeen", "(IIII)Z"⟩ ⟨"WeekBoatsModel", "canHaveBeen", "(IIII)Z"⟩ ∈ lw_gd := wmP (i := 87) (by decide +kernel) rfl
theorem wm_88 : Cond.selects "WeekBoatsModel" ⟨"WeekBoatsModel", "between", "(IIIII)Z"⟩ ⟨"WeekBoatsModel", "between", "(IIIII)Z"⟩ ∈ lw_gd := wmP (i := 88) (by decide +kernel) rfl
theorem wm_89 : Cond.selects "WeekBoatsModel" ⟨"WeekBoatsModel", "orders", "(II)V"⟩ ⟨"WeekBoatsModel", "orders", "(II)V"⟩ ∈ lw_gd := wmP (i := 89) (by decide +kernel) rfl
theorem wm_90 : Cond.selects "WeekBoatsModel" ⟨"WeekBoatsModel", "waits", "()I"⟩ ⟨"WeekBoatsModel", "waits", "()I"⟩ ∈ lw_gd := wmP (i := 90) (by decide +kernel) rfl
theorem wm_91 : Cond.selects "WeekBoatsModel" ⟨"WeekBoatsModel", "asTheyCome", "()V"⟩ ⟨"WeekBoatsModel", "asTheyCome", "()V"⟩ ∈ lw_gd := wmP (i := 91) (by decide +kernel) rfl
theorem wm_92 : Cond.selects "WeekBoatsModel" ⟨"WeekBoatsModel", "lockfuls", "()I"⟩ ⟨"WeekBoatsModel", "lockfuls", "()I"⟩ ∈ lw_gd := wmP (i := 92) (by decide +kernel) rfl
theorem wm_93 : Cond.selects "WeekBoatsModel" ⟨"WeekBoatsModel", "asks", "(I)V"⟩ ⟨"WeekBoatsModel", "asks", "(I)V"⟩ ∈ lw_gd := wmP (i := 93) (by decide +kernel) rfl
theorem wm_94 : Cond.selects "WeekBoatsModel" ⟨"WeekBoatsModel", "givesBest", "(I)V"⟩ ⟨"WeekBoatsModel", "givesBest", "(I)V"⟩ ∈ lw_gd := wmP (i := 94) (by decide +kernel) rfl
theorem wm_95 : Cond.selects "WeekBoatsModel" ⟨"WeekBoatsModel", "sorts", "()V"⟩ ⟨"WeekBoatsModel", "sorts", "()V"⟩ ∈ lw_gd := wmP (i := 95) (by decide +kernel) rfl
theorem wm_96 : Cond.selects "WeekBoatsModel" ⟨"WeekBoatsModel", "gives", "(III)V"⟩ ⟨"WeekBoatsModel", "gives", "(III)V"⟩ ∈ lw_gd := wmP (i := 96) (by decide +kernel) rfl
theorem wm_97 : Cond.selects "WeekBoatsModel" ⟨"WeekBoatsModel", "docksOn", "(IIIII)V"⟩ ⟨"WeekBoatsModel", "docksOn", "(IIIII)V"⟩ ∈ lw_gd := wmP (i := 97) (by decide +kernel) rfl
theorem wm_98 : Cond.selects "WeekBoatsModel" ⟨"WeekBoatsModel", "worked", "(I)I"⟩ ⟨"WeekBoatsModel", "worked", "(I)I"⟩ ∈ lw_gd := wmP (i := 98) (by decide +kernel) rfl
theorem wm_99 : Cond.selects "WeekBoatsModel" ⟨"WeekBoatsModel", "lastEnd", "(I)I"⟩ ⟨"WeekBoatsModel", "lastEnd", "(I)I"⟩ ∈ lw_gd := wmP (i := 99) (by decide +kernel) rfl
theorem wm_100 : Cond.selects "WeekBoatsModel" ⟨"WeekBoatsModel", "handOf", "(III)I"⟩ ⟨"WeekBoatsModel", "handOf", "(III)I"⟩ ∈ lw_gd := wmP (i := 100) (by decide +kernel) rfl
theorem wm_101 : Cond.selects "WeekBoatsModel" ⟨"WeekBoatsModel", "sumOf", "(I)I"⟩ ⟨"WeekBoatsModel", "sumOf", "(I)I"⟩ ∈ lw_gd := wmP (i := 101) (by decide +kernel) rfl
theorem wm_102 : Cond.selects "WeekBoatsModel" ⟨"WeekBoatsModel", "drive", "(II)I"⟩ ⟨"WeekBoatsModel", "drive", "(II)I"⟩ ∈ lw_gd := wmP (i := 102) (by decide +kernel) rfl
theorem wm_103 : Cond.selects "WeekBoatsModel" ⟨"WeekBoatsModel", "worstOf", "(I)I"⟩ ⟨"WeekBoatsModel", "worstOf", "(I)I"⟩ ∈ lw_gd := wmP (i := 103) (by decide +kernel) rfl
theorem wm_104 : Cond.selects "WeekBoatsModel" ⟨"WeekBoatsModel", "nearer", "(III)I"⟩ ⟨"WeekBoatsModel", "nearer", "(III)I"⟩ ∈ lw_gd := wmP (i := 104) (by decide +kernel) rfl
theorem wm_105 : Cond.selects "WeekBoatsModel" ⟨"WeekBoatsModel", "arrives", "(II)I"⟩ ⟨"WeekBoatsModel", "arrives", "(II)I"⟩ ∈ lw_gd := wmP (i := 105) (by decide +kernel) rfl
theorem wm_106 : Cond.selects "WeekBoatsModel" ⟨"WeekBoatsModel", "starts", "()V"⟩ ⟨"WeekBoatsModel", "starts", "()V"⟩ ∈ lw_gd := wmP (i := 106) (by decide +kernel) rfl
theorem wm_107 : Cond.selects "WeekBoatsModel" ⟨"WeekBoatsModel", "aDay", "(IIII)V"⟩ ⟨"WeekBoatsModel", "aDay", "(IIII)V"⟩ ∈ lw_gd := wmP (i := 107) (by decide +kernel) rfl
theorem wm_108 : Cond.selects "WeekBoatsModel" ⟨"WeekBoatsModel", "falls", "(III)V"⟩ ⟨"WeekBoatsModel", "falls", "(III)V"⟩ ∈ lw_gd := wmP (i := 108) (by decide +kernel) rfl
theorem wm_109 : Cond.selects "WeekBoatsModel" ⟨"WeekBoatsModel", "kept", "()I"⟩ ⟨"WeekBoatsModel", "kept", "()I"⟩ ∈ lw_gd := wmP (i := 109) (by decide +kernel) rfl
theorem wm_110 : Cond.initialized "WeekBoatsLaw" ∈ lw_gd := wk_1 (i := 0) (by decide +kernel) rfl
theorem wm_111 : Cond.initialized "WeekBoats" ∈ lw_gd := wk_1 (i := 1) (by decide +kernel) rfl
theorem wm_112 : Cond.initialized "WeekBoats$Canal" ∈ lw_gd := wk_1 (i := 2) (by decide +kernel) rfl
theorem wm_113 : Cond.initialized "java/util/Arrays" ∈ lw_gd := wk_1 (i := 3) (by decide +kernel) rfl
theorem wm_114 : Cond.initialized "WeekBoats$Rules" ∈ lw_gd := wk_1 (i := 4) (by decide +kernel) rfl
theorem wm_115 : Cond.initialized "WeekBoats$Parser" ∈ lw_gd := wk_1 (i := 5) (by decide +kernel) rfl
theorem wm_116 : Cond.initialized "WeekBoats$Voyage" ∈ lw_gd := wk_1 (i := 6) (by decide +kernel) rfl
theorem wm_117 : Cond.initialized "WeekBoats$Boats" ∈ lw_gd := wk_1 (i := 7) (by decide +kernel) rfl
theorem wm_118 : Cond.initialized "WeekBoats$Trips" ∈ lw_gd := wk_1 (i := 8) (by decide +kernel) rfl
theorem wm_119 : Cond.initialized "WeekBoats$LockQueue" ∈ lw_gd := wk_1 (i := 9) (by decide +kernel) rfl
theorem wm_120 : Cond.initialized "WeekBoats$Bookings" ∈ lw_gd := wk_1 (i := 10) (by decide +kernel) rfl
theorem wm_121 : Cond.initialized "WeekBoats$Yard" ∈ lw_gd := wk_1 (i := 11) (by decide +kernel) rfl
theorem wm_122 : Cond.initialized "WeekBoats$Vans" ∈ lw_gd := wk_1 (i := 12) (by decide +kernel) rfl
theorem wm_123 : Cond.initialized "WeekBoats$Rain" ∈ lw_gd := wk_1 (i := 13) (by decide +kernel) rfl
theorem wm_124 : Cond.initialized "WeekBoatsModel" ∈ lw_gd := wk_1 (i := 14) (by decide +kernel) rfl
theorem wm_125 : Cond.initialized "java/lang/String" ∈ lw_gd := wk_1 (i := 15) (by decide +kernel) rfl
theorem wm_126 : Cond.initialized "java/lang/StringLatin1" ∈ lw_gd := wk_1 (i := 16) (by decide +kernel) rfl
theorem wm_127 : Cond.initialized "jdk/internal/util/Preconditions" ∈ lw_gd := wk_1 (i := 17) (by decide +kernel) rfl
theorem wm_128 : Cond.initialized "java/lang/StringUTF16" ∈ lw_gd := wk_1 (i := 18) (by decide +kernel) rfl
theorem wm_129 : Cond.initialized "java/lang/Math" ∈ lw_gd := wk_1 (i := 19) (by decide +kernel) rfl
theorem wm_130 : Cond.initialized "java/lang/Character" ∈ lw_gd := wk_1 (i := 20) (by decide +kernel) rfl
theorem wm_131 : Cond.initialized "java/lang/System" ∈ lw_gd := wk_1 (i := 21) (by decide +kernel) rfl
theorem wm_132 : Cond.initialized "java/lang/Integer" ∈ lw_gd := wk_1 (i := 22) (by decide +kernel) rfl
theorem wm_135 : Cond.methodLink "WeekBoatsLaw" 9 ⟨"WeekBoats", "<init>", "()V"⟩ ∈ lw_gd := wk_1 (i := 25) (by decide +kernel) rfl
theorem wm_136 : Cond.instanceMethod ⟨"WeekBoats", "<init>", "()V"⟩ ∈ lw_gd := wk_1 (i := 26) (by decide +kernel) rfl
set_option maxRecDepth 100000 in
theorem wm_137 : Cond.code ⟨"WeekBoats", "<init>", "()V"⟩ prog_1_method_1_code 1 none ∈ lw_gd := wk_1 (i := 27) rfl rfl
theorem wm_138 : Cond.methodLink "WeekBoats" 3 ⟨"java/lang/Object", "<init>", "()V"⟩ ∈ lw_gd := wk_1 (i := 28) (by decide +kernel) rfl
theorem wm_139 : Cond.instanceMethod ⟨"java/lang/Object", "<init>", "()V"⟩ ∈ lw_gd := wk_1 (i := 29) (by decide +kernel) rfl
set_option maxRecDepth 100000 in
theorem wm_140 : Cond.code ⟨"java/lang/Object", "<init>", "()V"⟩ object_method_1_code 1 none ∈ lw_gd := wk_1 (i := 30) rfl rfl
theorem wm_143 : Cond.methodLink "WeekBoats" 11 ⟨"WeekBoats$Canal", "<init>", "()V"⟩ ∈ lw_gd := wk_1 (i := 33) (by decide +kernel) rfl
theorem wm_144 : Cond.instanceMethod ⟨"WeekBoats$Canal", "<init>", "()V"⟩ ∈ lw_gd := wk_1 (i := 34) (by decide +kernel) rfl
set_option maxRecDepth 100000 in
theorem wm_145 : Cond.code ⟨"WeekBoats$Canal", "<init>", "()V"⟩ prog_4_method_1_code 1 none ∈ lw_gd := wk_1 (i := 35) rfl rfl
theorem wm_146 : Cond.methodLink "WeekBoats$Canal" 3 ⟨"java/lang/Object", "<init>", "()V"⟩ ∈ lw_gd := wk_1 (i := 36) (by decide +kernel) rfl
theorem wm_147 : Cond.methodLink "WeekBoats$Canal" 28 ⟨"java/util/Arrays", "fill", "([II)V"⟩ ∈ lw_gd := wk_1 (i := 37) (by decide +kernel) rfl
theorem wm_148 : Cond.static ⟨"java/util/Arrays", "fill", "([II)V"⟩ ∈ lw_gd := wk_1 (i := 38) (by decide +kernel) rfl
set_option maxRecDepth 100000 in
theorem wm_149 : Cond.code ⟨"java/util/Arrays", "fill", "([II)V"⟩ prog_22_method_103_code 4 none ∈ lw_gd := wk_1 (i := 39) rfl rfl
theorem wm_150 : Cond.fieldLink "WeekBoats$Canal" 9 "WeekBoats$Canal" "miles" "[I" ∈ lw_gd := wk_1 (i := 40) (by decide +kernel) rfl
theorem wm_151 : Cond.fieldLink "WeekBoats$Voyage" 78 "WeekBoats$Canal" "miles" "[I" ∈ lw_gd := wk_1 (i := 41) (by decide +kernel) rfl
theorem wm_152 : Cond.fieldLink "WeekBoats" 117 "WeekBoats$Canal" "miles" "[I" ∈ lw_gd := wk_1 (i := 42) (by decide +kernel) rfl
theorem wm_153 : Cond.fieldLink "WeekBoats$Canal" 15 "WeekBoats$Canal" "locks" "[I" ∈ lw_gd := wk_1 (i := 43) (by decide +kernel) rfl
theorem wm_154 : Cond.fieldLink "WeekBoats$Voyage" 89 "WeekBoats$Canal" "locks" "[I" ∈ lw_gd := wk_1 (i := 44) (by decide +kernel) rfl
theorem wm_155 : Cond.fieldLink "WeekBoats" 121 "WeekBoats$Canal" "locks" "[I" ∈ lw_gd := wk_1 (i := 45) (by decide +kernel) rfl
theorem wm_156 : Cond.fieldLink "WeekBoats$Canal" 18 "WeekBoats$Canal" "road" "[I" ∈ lw_gd := wk_1 (i := 46) (by decide +kernel) rfl
theorem wm_157 : Cond.fieldLink "WeekBoats$Vans" 40 "WeekBoats$Canal" "road" "[I" ∈ lw_gd := wk_1 (i := 47) (by decide +kernel) rfl
theorem wm_158 : Cond.fieldLink "WeekBoats" 124 "WeekBoats$Canal" "road" "[I" ∈ lw_gd := wk_1 (i := 48) (by decide +kernel) rfl
theorem wm_159 : Cond.fieldLink "WeekBoats$Canal" 21 "WeekBoats$Canal" "stopped" "[I" ∈ lw_gd := wk_1 (i := 49) (by decide +kernel) rfl
theorem wm_160 : Cond.fieldLink "WeekBoats$Voyage" 115 "WeekBoats$Canal" "stopped" "[I" ∈ lw_gd := wk_1 (i := 50) (by decide +kernel) rfl
theorem wm_161 : Cond.fieldLink "WeekBoats$Canal" 34 "WeekBoats$Canal" "stoppages" "I" ∈ lw_gd := wk_1 (i := 51) (by decide +kernel) rfl
theorem wm_162 : Cond.fieldLink "WeekBoats" 136 "WeekBoats$Canal" "stoppages" "I" ∈ lw_gd := wk_1 (i := 52) (by decide +kernel) rfl
theorem wm_163 : Cond.fieldLink "WeekBoats$Canal" 24 "WeekBoats$Canal" "water" "I" ∈ lw_gd := wk_1 (i := 53) (by decide +kernel) rfl
theorem wm_164 : Cond.fieldLink "WeekBoats$Voyage" 38 "WeekBoats$Canal" "water" "I" ∈ lw_gd := wk_1 (i := 54) (by decide +kernel) rfl
theorem wm_165 : Cond.fieldLink "WeekBoats" 127 "WeekBoats$Canal" "water" "I" ∈ lw_gd := wk_1 (i := 55) (by decide +kernel) rfl
theorem wm_166 : Cond.fieldLink "WeekBoats$Boats" 104 "WeekBoats$Canal" "water" "I" ∈ lw_gd := wk_1 (i := 56) (by decide +kernel) rfl
theorem wm_167 : Cond.fieldLink "WeekBoats$Canal" 37 "WeekBoats$Canal" "pumps" "I" ∈ lw_gd := wk_1 (i := 57) (by decide +kernel) rfl
theorem wm_168 : Cond.fieldLink "WeekBoats$Voyage" 75 "WeekBoats$Canal" "pumps" "I" ∈ lw_gd := wk_1 (i := 58) (by decide +kernel) rfl
theorem wm_188 : Cond.instanceMethod ⟨"WeekBoats$Rules", "<init>", "()V"⟩ ∈ lw_gd := wk_1 (i := 78) (by decide +kernel) rfl
set_option maxRecDepth 100000 in
theorem wm_189 : Cond.code ⟨"WeekBoats$Rules", "<init>", "()V"⟩ prog_8_method_1_code 1 none ∈ lw_gd := wk_1 (i := 79) rfl rfl
theorem wm_190 : Cond.methodLink "WeekBoats$Rules" 3 ⟨"java/lang/Object", "<init>", "()V"⟩ ∈ lw_gd := wk_1 (i := 80) (by decide +kernel) rfl
theorem wm_191 : Cond.fieldLink "WeekBoats$Rules" 9 "WeekBoats$Rules" "step" "[I" ∈ lw_gd := wk_1 (i := 81) (by decide +kernel) rfl
theorem wm_192 : Cond.fieldLink "WeekBoats$Rules" 15 "WeekBoats$Rules" "with" "[I" ∈ lw_gd := wk_1 (i := 82) (by decide +kernel) rfl
theorem wm_193 : Cond.fieldLink "WeekBoats$Rules" 48 "WeekBoats$Rules" "steps" "I" ∈ lw_gd := wk_1 (i := 83) (by decide +kernel) rfl
theorem wm_194 : Cond.fieldLink "WeekBoats$Parser" 116 "WeekBoats$Rules" "steps" "I" ∈ lw_gd := wk_1 (i := 84) (by decide +kernel) rfl
theorem wm_195 : Cond.fieldLink "WeekBoats$Rules" 52 "WeekBoats$Rules" "lines" "I" ∈ lw_gd := wk_1 (i := 85) (by decide +kernel) rfl
theorem wm_196 : Cond.fieldLink "WeekBoats$Parser" 49 "WeekBoats$Rules" "lines" "I" ∈ lw_gd := wk_1 (i := 86) (by decide +kernel) rfl
theorem wm_197 : Cond.fieldLink "WeekBoats$Rules" 18 "WeekBoats$Rules" "kind" "[I" ∈ lw_gd := wk_1 (i := 87) (by decide +kernel) rfl
theorem wm_198 : Cond.fieldLink "WeekBoats$Parser" 110 "WeekBoats$Rules" "kind" "[I" ∈ lw_gd := wk_1 (i := 88) (by decide +kernel) rfl
theorem wm_199 : Cond.fieldLink "WeekBoats$Rules" 21 "WeekBoats$Rules" "first" "[I" ∈ lw_gd := wk_1 (i := 89) (by decide +kernel) rfl
theorem wm_200 : Cond.fieldLink "WeekBoats$Parser" 113 "WeekBoats$Rules" "first" "[I" ∈ lw_gd := wk_1 (i := 90) (by decide +kernel) rfl
theorem wm_201 : Cond.fieldLink "WeekBoats$Rules" 24 "WeekBoats$Rules" "when" "[I" ∈ lw_gd := wk_1 (i := 91) (by decide +kernel) rfl
theorem wm_202 : Cond.fieldLink "WeekBoats$Parser" 134 "WeekBoats$Rules" "when" "[I" ∈ lw_gd := wk_1 (i := 92) (by decide +kernel) rfl
theorem wm_203 : Cond.fieldLink "WeekBoats$Rules" 27 "WeekBoats$Rules" "end" "[I" ∈ lw_gd := wk_1 (i := 93) (by decide +kernel) rfl
theorem wm_204 : Cond.fieldLink "WeekBoats$Parser" 143 "WeekBoats$Rules" "end" "[I" ∈ lw_gd := wk_1 (i := 94) (by decide +kernel) rfl
theorem wm_205 : Cond.fieldLink "WeekBoats$Rules" 30 "WeekBoats$Rules" "hourFrom" "[I" ∈ lw_gd := wk_1 (i := 95) (by decide +kernel) rfl
theorem wm_206 : Cond.fieldLink "WeekBoats$Voyage" 54 "WeekBoats$Rules" "hourFrom" "[I" ∈ lw_gd := wk_1 (i := 96) (by decide +kernel) rfl
theorem wm_207 : Cond.fieldLink "WeekBoats$Parser" 122 "WeekBoats$Rules" "hourFrom" "[I" ∈ lw_gd := wk_1 (i := 97) (by decide +kernel) rfl
theorem wm_208 : Cond.fieldLink "WeekBoats$Rules" 33 "WeekBoats$Rules" "hourTo" "[I" ∈ lw_gd := wk_1 (i := 98) (by decide +kernel) rfl
theorem wm_209 : Cond.fieldLink "WeekBoats$Voyage" 57 "WeekBoats$Rules" "hourTo" "[I" ∈ lw_gd := wk_1 (i := 99) (by decide +kernel) rfl
theorem wm_210 : Cond.fieldLink "WeekBoats$Parser" 128 "WeekBoats$Rules" "hourTo" "[I" ∈ lw_gd := wk_1 (i := 100) (by decide +kernel) rfl
theorem wm_211 : Cond.fieldLink "WeekBoats$Rules" 55 "WeekBoats$Rules" "tunnels" "I" ∈ lw_gd := wk_1 (i := 101) (by decide +kernel) rfl
theorem wm_212 : Cond.fieldLink "WeekBoats$Parser" 152 "WeekBoats$Rules" "tunnels" "I" ∈ lw_gd := wk_1 (i := 102) (by decide +kernel) rfl
theorem wm_213 : Cond.fieldLink "WeekBoats$Rules" 36 "WeekBoats$Rules" "tunnelFrom" "[I" ∈ lw_gd := wk_1 (i := 103) (by decide +kernel) rfl
theorem wm_214 : Cond.fieldLink "WeekBoats$Voyage" 118 "WeekBoats$Rules" "tunnelFrom" "[I" ∈ lw_gd := wk_1 (i := 104) (by decide +kernel) rfl
theorem wm_215 : Cond.fieldLink "WeekBoats$Parser" 155 "WeekBoats$Rules" "tunnelFrom" "[I" ∈ lw_gd := wk_1 (i := 105) (by decide +kernel) rfl
theorem wm_216 : Cond.fieldLink "WeekBoats$Rules" 39 "WeekBoats$Rules" "tunnelTo" "[I" ∈ lw_gd := wk_1 (i := 106) (by decide +kernel) rfl
theorem wm_217 : Cond.fieldLink "WeekBoats$Voyage" 121 "WeekBoats$Rules" "tunnelTo" "[I" ∈ lw_gd := wk_1 (i := 107) (by decide +kernel) rfl
theorem wm_218 : Cond.fieldLink "WeekBoats$Parser" 158 "WeekBoats$Rules" "tunnelTo" "[I" ∈ lw_gd := wk_1 (i := 108) (by decide +kernel) rfl
theorem wm_219 : Cond.fieldLink "WeekBoats$Rules" 42 "WeekBoats$Rules" "asked" "[I" ∈ lw_gd := wk_1 (i := 109) (by decide +kernel) rfl
theorem wm_220 : Cond.fieldLink "WeekBoats$Boats" 115 "WeekBoats$Rules" "asked" "[I" ∈ lw_gd := wk_1 (i := 110) (by decide +kernel) rfl
theorem wm_221 : Cond.fieldLink "WeekBoats$Rules" 45 "WeekBoats$Rules" "stack" "[I" ∈ lw_gd := wk_1 (i := 111) (by decide +kernel) rfl
theorem wm_255 : Cond.methodLink "WeekBoats" 28 ⟨"WeekBoats$Parser", "<init>", "(LWeekBoats$Rules;)V"⟩ ∈ lw_gd := wk_1 (i := 145) (by decide +kernel) rfl
theorem wm_256 : Cond.instanceMethod ⟨"WeekBoats$Parser", "<init>", "(LWeekBoats$Rules;)V"⟩ ∈ lw_gd := wk_1 (i := 146) (by decide +kernel) rfl
set_option maxRecDepth 100000 in
theorem wm_257 : Cond.code ⟨"WeekBoats$Parser", "<init>", "(LWeekBoats$Rules;)V"⟩ prog_6_method_1_code 2 none ∈ lw_gd := wk_1 (i := 147) rfl rfl
theorem wm_258 : Cond.methodLink "WeekBoats$Parser" 3 ⟨"java/lang/Object", "<init>", "()V"⟩ ∈ lw_gd := wk_1 (i := 148) (by decide +kernel) rfl
theorem wm_259 : Cond.fieldLink "WeekBoats$Parser" 25 "WeekBoats$Parser" "draft" "LWeekBoats$Rules;" ∈ lw_gd := wk_1 (i := 149) (by decide +kernel) rfl
theorem wm_260 : Cond.fieldLink "WeekBoats$Parser" 9 "WeekBoats$Parser" "tape" "[I" ∈ lw_gd := wk_1 (i := 150) (by decide +kernel) rfl
theorem wm_261 : Cond.fieldLink "WeekBoats$Parser" 29 "WeekBoats$Parser" "length" "I" ∈ lw_gd := wk_1 (i := 151) (by decide +kernel) rfl
theorem wm_262 : Cond.fieldLink "WeekBoats" 150 "WeekBoats$Parser" "length" "I" ∈ lw_gd := wk_1 (i := 152) (by decide +kernel) rfl
theorem wm_263 : Cond.fieldLink "WeekBoats$Parser" 15 "WeekBoats$Parser" "token" "[I" ∈ lw_gd := wk_1 (i := 153) (by decide +kernel) rfl
theorem wm_264 : Cond.fieldLink "WeekBoats$Parser" 18 "WeekBoats$Parser" "place" "[I" ∈ lw_gd := wk_1 (i := 154) (by decide +kernel) rfl
theorem wm_265 : Cond.fieldLink "WeekBoats$Parser" 52 "WeekBoats$Parser" "tokens" "I" ∈ lw_gd := wk_1 (i := 155) (by decide +kernel) rfl
theorem wm_266 : Cond.fieldLink "WeekBoats$Parser" 35 "WeekBoats$Parser" "at" "I" ∈ lw_gd := wk_1 (i := 156) (by decide +kernel) rfl
theorem wm_267 : Cond.fieldLink "WeekBoats$Parser" 32 "WeekBoats$Parser" "fault" "I" ∈ lw_gd := wk_1 (i := 157) (by decide +kernel) rfl
theorem wm_268 : Cond.fieldLink "WeekBoats" 164 "WeekBoats$Parser" "fault" "I" ∈ lw_gd := wk_1 (i := 158) (by decide +kernel) rfl
theorem wm_269 : Cond.fieldLink "WeekBoats$Parser" 21 "WeekBoats$Parser" "faultPlace" "I" ∈ lw_gd := wk_1 (i := 159) (by decide +kernel) rfl
theorem wm_270 : Cond.fieldLink "WeekBoats" 167 "WeekBoats$Parser" "faultPlace" "I" ∈ lw_gd := wk_1 (i := 160) (by decide +kernel) rfl
theorem wm_292 : Cond.methodLink "WeekBoats" 37 ⟨"WeekBoats$Voyage", "<init>", "(LWeekBoats$Canal;LWeekBoats$Rules;)V"⟩ ∈ lw_gd := wk_1 (i := 182) (by decide +kernel) rfl
theorem wm_293 : Cond.instanceMethod ⟨"WeekBoats$Voyage", "<init>", "(LWeekBoats$Canal;LWeekBoats$Rules;)V"⟩ ∈ lw_gd := wk_1 (i := 183) (by decide +kernel) rfl
set_option maxRecDepth 100000 in
theorem wm_294 : Cond.code ⟨"WeekBoats$Voyage", "<init>", "(LWeekBoats$Canal;LWeekBoats$Rules;)V"⟩ prog_11_method_1_code 3 none ∈ lw_gd := wk_1 (i := 184) rfl rfl
theorem wm_295 : Cond.methodLink "WeekBoats$Voyage" 3 ⟨"java/lang/Object", "<init>", "()V"⟩ ∈ lw_gd := wk_1 (i := 185) (by decide +kernel) rfl
theorem wm_296 : Cond.methodLink "WeekBoats$Voyage" 32 ⟨"java/util/Arrays", "fill", "([II)V"⟩ ∈ lw_gd := wk_1 (i := 186) (by decide +kernel) rfl
theorem wm_297 : Cond.fieldLink "WeekBoats$Voyage" 24 "WeekBoats$Voyage" "canal" "LWeekBoats$Canal;" ∈ lw_gd := wk_1 (i := 187) (by decide +kernel) rfl
theorem wm_298 : Cond.fieldLink "WeekBoats$Voyage" 28 "WeekBoats$Voyage" "rules" "LWeekBoats$Rules;" ∈ lw_gd := wk_1 (i := 188) (by decide +kernel) rfl
theorem wm_299 : Cond.fieldLink "WeekBoats$Voyage" 9 "WeekBoats$Voyage" "openFrom" "[I" ∈ lw_gd := wk_1 (i := 189) (by decide +kernel) rfl
theorem wm_300 : Cond.fieldLink "WeekBoats" 170 "WeekBoats$Voyage" "openFrom" "[I" ∈ lw_gd := wk_1 (i := 190) (by decide +kernel) rfl
theorem wm_301 : Cond.fieldLink "WeekBoats$Voyage" 15 "WeekBoats$Voyage" "openTo" "[I" ∈ lw_gd := wk_1 (i := 191) (by decide +kernel) rfl
theorem wm_302 : Cond.fieldLink "WeekBoats" 173 "WeekBoats$Voyage" "openTo" "[I" ∈ lw_gd := wk_1 (i := 192) (by decide +kernel) rfl
theorem wm_303 : Cond.fieldLink "WeekBoats$Voyage" 18 "WeekBoats$Voyage" "arrival" "[I" ∈ lw_gd := wk_1 (i := 193) (by decide +kernel) rfl
theorem wm_304 : Cond.fieldLink "WeekBoats" 216 "WeekBoats$Voyage" "arrival" "[I" ∈ lw_gd := wk_1 (i := 194) (by decide +kernel) rfl
theorem wm_305 : Cond.fieldLink "WeekBoats$Voyage" 21 "WeekBoats$Voyage" "locksBegun" "[I" ∈ lw_gd := wk_1 (i := 195) (by decide +kernel) rfl
theorem wm_306 : Cond.fieldLink "WeekBoats$Boats" 98 "WeekBoats$Voyage" "locksBegun" "[I" ∈ lw_gd := wk_1 (i := 196) (by decide +kernel) rfl
theorem wm_307 : Cond.fieldLink "WeekBoats$Voyage" 60 "WeekBoats$Voyage" "lockMinutes" "I" ∈ lw_gd := wk_1 (i := 197) (by decide +kernel) rfl
theorem wm_308 : Cond.fieldLink "WeekBoats$Voyage" 63 "WeekBoats$Voyage" "heedsStoppages" "Z" ∈ lw_gd := wk_1 (i := 198) (by decide +kernel) rfl
theorem wm_328 : Cond.methodLink "WeekBoats" 46 ⟨"WeekBoats$Boats", "<init>", "(LWeekBoats$Canal;LWeekBoats$Rules;LWeekBoats$Voyage;)V"⟩ ∈ lw_gd := wk_1 (i := 218) (by decide +kernel) rfl
theorem wm_329 : Cond.instanceMethod ⟨"WeekBoats$Boats", "<init>", "(LWeekBoats$Canal;LWeekBoats$Rules;LWeekBoats$Voyage;)V"⟩ ∈ lw_gd := wk_1 (i := 219) (by decide +kernel) rfl
set_option maxRecDepth 100000 in
theorem wm_330 : Cond.code ⟨"WeekBoats$Boats", "<init>", "(LWeekBoats$Canal;LWeekBoats$Rules;LWeekBoats$Voyage;)V"⟩ prog_2_method_1_code 4 none ∈ lw_gd := wk_1 (i := 220) rfl rfl
theorem wm_331 : Cond.methodLink "WeekBoats$Boats" 3 ⟨"java/lang/Object", "<init>", "()V"⟩ ∈ lw_gd := wk_1 (i := 221) (by decide +kernel) rfl
theorem wm_334 : Cond.fieldLink "WeekBoats$Boats" 38 "WeekBoats$Boats" "canal" "LWeekBoats$Canal;" ∈ lw_gd := wk_1 (i := 224) (by decide +kernel) rfl
theorem wm_335 : Cond.fieldLink "WeekBoats$Boats" 42 "WeekBoats$Boats" "rules" "LWeekBoats$Rules;" ∈ lw_gd := wk_1 (i := 225) (by decide +kernel) rfl
theorem wm_336 : Cond.fieldLink "WeekBoats$Boats" 46 "WeekBoats$Boats" "voyage" "LWeekBoats$Voyage;" ∈ lw_gd := wk_1 (i := 226) (by decide +kernel) rfl
theorem wm_337 : Cond.fieldLink "WeekBoats$Boats" 9 "WeekBoats$Boats" "berths" "[I" ∈ lw_gd := wk_1 (i := 227) (by decide +kernel) rfl
theorem wm_338 : Cond.fieldLink "WeekBoats" 287 "WeekBoats$Boats" "berths" "[I" ∈ lw_gd := wk_1 (i := 228) (by decide +kernel) rfl
theorem wm_339 : Cond.fieldLink "WeekBoats$Boats" 15 "WeekBoats$Boats" "age" "[I" ∈ lw_gd := wk_1 (i := 229) (by decide +kernel) rfl
theorem wm_340 : Cond.fieldLink "WeekBoats$Boats" 18 "WeekBoats$Boats" "home" "[I" ∈ lw_gd := wk_1 (i := 230) (by decide +kernel) rfl
theorem wm_341 : Cond.fieldLink "WeekBoats" 290 "WeekBoats$Boats" "home" "[I" ∈ lw_gd := wk_1 (i := 231) (by decide +kernel) rfl
theorem wm_342 : Cond.fieldLink "WeekBoats$Boats" 21 "WeekBoats$Boats" "taught" "[I" ∈ lw_gd := wk_1 (i := 232) (by decide +kernel) rfl
theorem wm_343 : Cond.fieldLink "WeekBoats$Trips" 43 "WeekBoats$Boats" "taught" "[I" ∈ lw_gd := wk_1 (i := 233) (by decide +kernel) rfl
theorem wm_344 : Cond.fieldLink "WeekBoats" 180 "WeekBoats$Boats" "taught" "[I" ∈ lw_gd := wk_1 (i := 234) (by decide +kernel) rfl
theorem wm_345 : Cond.fieldLink "WeekBoats$Boats" 50 "WeekBoats$Boats" "count" "I" ∈ lw_gd := wk_1 (i := 235) (by decide +kernel) rfl
theorem wm_346 : Cond.fieldLink "WeekBoats" 103 "WeekBoats$Boats" "count" "I" ∈ lw_gd := wk_1 (i := 236) (by decide +kernel) rfl
theorem wm_347 : Cond.fieldLink "WeekBoats$Boats" 26 "WeekBoats$Boats" "logPoint" "[[I" ∈ lw_gd := wk_1 (i := 237) (by decide +kernel) rfl
theorem wm_348 : Cond.fieldLink "WeekBoats$Boats" 29 "WeekBoats$Boats" "logTime" "[[I" ∈ lw_gd := wk_1 (i := 238) (by decide +kernel) rfl
theorem wm_349 : Cond.fieldLink "WeekBoats$Boats" 32 "WeekBoats$Boats" "logs" "[I" ∈ lw_gd := wk_1 (i := 239) (by decide +kernel) rfl
theorem wm_350 : Cond.fieldLink "WeekBoats$Boats" 35 "WeekBoats$Boats" "tonightAt" "[I" ∈ lw_gd := wk_2 (i := 0) (by decide +kernel) rfl
theorem wm_351 : Cond.fieldLink "WeekBoats" 240 "WeekBoats$Boats" "tonightAt" "[I" ∈ lw_gd := wk_2 (i := 1) (by decide +kernel) rfl
theorem wm_379 : Cond.methodLink "WeekBoats" 55 ⟨"WeekBoats$Trips", "<init>", "(LWeekBoats$Boats;LWeekBoats$Rules;LWeekBoats$Voyage;)V"⟩ ∈ lw_gd := wk_2 (i := 29) (by decide +kernel) rfl
theorem wm_380 : Cond.instanceMethod ⟨"WeekBoats$Trips", "<init>", "(LWeekBoats$Boats;LWeekBoats$Rules;LWeekBoats$Voyage;)V"⟩ ∈ lw_gd := wk_2 (i := 30) (by decide +kernel) rfl
set_option maxRecDepth 100000 in
theorem wm_381 : Cond.code ⟨"WeekBoats$Trips", "<init>", "(LWeekBoats$Boats;LWeekBoats$Rules;LWeekBoats$Voyage;)V"⟩ prog_9_method_1_code 4 none ∈ lw_gd := wk_2 (i := 31) rfl rfl
theorem wm_382 : Cond.methodLink "WeekBoats$Trips" 3 ⟨"java/lang/Object", "<init>", "()V"⟩ ∈ lw_gd := wk_2 (i := 32) (by decide +kernel) rfl
theorem wm_383 : Cond.fieldLink "WeekBoats$Trips" 27 "WeekBoats$Trips" "boats" "LWeekBoats$Boats;" ∈ lw_gd := wk_2 (i := 33) (by decide +kernel) rfl
theorem wm_384 : Cond.fieldLink "WeekBoats$Trips" 31 "WeekBoats$Trips" "rules" "LWeekBoats$Rules;" ∈ lw_gd := wk_2 (i := 34) (by decide +kernel) rfl
theorem wm_385 : Cond.fieldLink "WeekBoats$Trips" 35 "WeekBoats$Trips" "voyage" "LWeekBoats$Voyage;" ∈ lw_gd := wk_2 (i := 35) (by decide +kernel) rfl
theorem wm_386 : Cond.fieldLink "WeekBoats$Trips" 9 "WeekBoats$Trips" "boat" "[I" ∈ lw_gd := wk_2 (i := 36) (by decide +kernel) rfl
theorem wm_387 : Cond.fieldLink "WeekBoats$Trips" 15 "WeekBoats$Trips" "from" "[I" ∈ lw_gd := wk_2 (i := 37) (by decide +kernel) rfl
theorem wm_388 : Cond.fieldLink "WeekBoats$Trips" 18 "WeekBoats$Trips" "to" "[I" ∈ lw_gd := wk_2 (i := 38) (by decide +kernel) rfl
theorem wm_389 : Cond.fieldLink "WeekBoats$Trips" 21 "WeekBoats$Trips" "time" "[I" ∈ lw_gd := wk_2 (i := 39) (by decide +kernel) rfl
theorem wm_390 : Cond.fieldLink "WeekBoats$Trips" 24 "WeekBoats$Trips" "due" "[I" ∈ lw_gd := wk_2 (i := 40) (by decide +kernel) rfl
theorem wm_391 : Cond.fieldLink "WeekBoats$Trips" 39 "WeekBoats$Trips" "count" "I" ∈ lw_gd := wk_2 (i := 41) (by decide +kernel) rfl
theorem wm_392 : Cond.fieldLink "WeekBoats" 197 "WeekBoats$Trips" "count" "I" ∈ lw_gd := wk_2 (i := 42) (by decide +kernel) rfl
theorem wm_415 : Cond.instanceMethod ⟨"WeekBoats$LockQueue", "<init>", "()V"⟩ ∈ lw_gd := wk_2 (i := 65) (by decide +kernel) rfl
set_option maxRecDepth 100000 in
theorem wm_416 : Cond.code ⟨"WeekBoats$LockQueue", "<init>", "()V"⟩ prog_5_method_1_code 1 none ∈ lw_gd := wk_2 (i := 66) rfl rfl
theorem wm_417 : Cond.methodLink "WeekBoats$LockQueue" 3 ⟨"java/lang/Object", "<init>", "()V"⟩ ∈ lw_gd := wk_2 (i := 67) (by decide +kernel) rfl
theorem wm_418 : Cond.fieldLink "WeekBoats$LockQueue" 9 "WeekBoats$LockQueue" "minute" "[I" ∈ lw_gd := wk_2 (i := 68) (by decide +kernel) rfl
theorem wm_419 : Cond.fieldLink "WeekBoats$LockQueue" 15 "WeekBoats$LockQueue" "way" "[I" ∈ lw_gd := wk_2 (i := 69) (by decide +kernel) rfl
theorem wm_420 : Cond.fieldLink "WeekBoats$LockQueue" 24 "WeekBoats$LockQueue" "count" "I" ∈ lw_gd := wk_2 (i := 70) (by decide +kernel) rfl
theorem wm_421 : Cond.fieldLink "WeekBoats" 408 "WeekBoats$LockQueue" "count" "I" ∈ lw_gd := wk_2 (i := 71) (by decide +kernel) rfl
theorem wm_422 : Cond.fieldLink "WeekBoats$LockQueue" 28 "WeekBoats$LockQueue" "waitAsCome" "I" ∈ lw_gd := wk_2 (i := 72) (by decide +kernel) rfl
theorem wm_423 : Cond.fieldLink "WeekBoats" 252 "WeekBoats$LockQueue" "waitAsCome" "I" ∈ lw_gd := wk_2 (i := 73) (by decide +kernel) rfl
theorem wm_424 : Cond.fieldLink "WeekBoats$LockQueue" 31 "WeekBoats$LockQueue" "bestWait" "I" ∈ lw_gd := wk_2 (i := 74) (by decide +kernel) rfl
theorem wm_425 : Cond.fieldLink "WeekBoats" 255 "WeekBoats$LockQueue" "bestWait" "I" ∈ lw_gd := wk_2 (i := 75) (by decide +kernel) rfl
theorem wm_426 : Cond.fieldLink "WeekBoats$LockQueue" 18 "WeekBoats$LockQueue" "order" "[I" ∈ lw_gd := wk_2 (i := 76) (by decide +kernel) rfl
theorem wm_427 : Cond.fieldLink "WeekBoats$LockQueue" 21 "WeekBoats$LockQueue" "best" "[I" ∈ lw_gd := wk_2 (i := 77) (by decide +kernel) rfl
theorem wm_446 : Cond.instanceMethod ⟨"WeekBoats$Bookings", "<init>", "()V"⟩ ∈ lw_gd := wk_2 (i := 96) (by decide +kernel) rfl
set_option maxRecDepth 100000 in
theorem wm_447 : Cond.code ⟨"WeekBoats$Bookings", "<init>", "()V"⟩ prog_3_method_1_code 1 none ∈ lw_gd := wk_2 (i := 97) rfl rfl
theorem wm_448 : Cond.methodLink "WeekBoats$Bookings" 3 ⟨"java/lang/Object", "<init>", "()V"⟩ ∈ lw_gd := wk_2 (i := 98) (by decide +kernel) rfl
theorem wm_449 : Cond.fieldLink "WeekBoats$Bookings" 9 "WeekBoats$Bookings" "from" "[I" ∈ lw_gd := wk_2 (i := 99) (by decide +kernel) rfl
theorem wm_450 : Cond.fieldLink "WeekBoats$Bookings" 15 "WeekBoats$Bookings" "to" "[I" ∈ lw_gd := wk_2 (i := 100) (by decide +kernel) rfl
theorem wm_451 : Cond.fieldLink "WeekBoats$Bookings" 18 "WeekBoats$Bookings" "week" "[I" ∈ lw_gd := wk_2 (i := 101) (by decide +kernel) rfl
theorem wm_452 : Cond.fieldLink "WeekBoats$Bookings" 21 "WeekBoats$Bookings" "berths" "[I" ∈ lw_gd := wk_2 (i := 102) (by decide +kernel) rfl
theorem wm_453 : Cond.fieldLink "WeekBoats$Bookings" 48 "WeekBoats$Bookings" "count" "I" ∈ lw_gd := wk_2 (i := 103) (by decide +kernel) rfl
theorem wm_454 : Cond.fieldLink "WeekBoats" 283 "WeekBoats$Bookings" "count" "I" ∈ lw_gd := wk_2 (i := 104) (by decide +kernel) rfl
theorem wm_455 : Cond.fieldLink "WeekBoats$Bookings" 24 "WeekBoats$Bookings" "inOrder" "[I" ∈ lw_gd := wk_2 (i := 105) (by decide +kernel) rfl
theorem wm_456 : Cond.fieldLink "WeekBoats$Bookings" 27 "WeekBoats$Bookings" "boatBerths" "[I" ∈ lw_gd := wk_2 (i := 106) (by decide +kernel) rfl
theorem wm_457 : Cond.fieldLink "WeekBoats$Bookings" 30 "WeekBoats$Bookings" "boatHome" "[I" ∈ lw_gd := wk_2 (i := 107) (by decide +kernel) rfl
theorem wm_458 : Cond.fieldLink "WeekBoats$Bookings" 33 "WeekBoats$Bookings" "boatAt" "[I" ∈ lw_gd := wk_2 (i := 108) (by decide +kernel) rfl
theorem wm_459 : Cond.fieldLink "WeekBoats$Bookings" 36 "WeekBoats$Bookings" "boatWeek" "[I" ∈ lw_gd := wk_2 (i := 109) (by decide +kernel) rfl
theorem wm_460 : Cond.fieldLink "WeekBoats$Bookings" 64 "WeekBoats$Bookings" "asked" "I" ∈ lw_gd := wk_2 (i := 110) (by decide +kernel) rfl
theorem wm_461 : Cond.fieldLink "WeekBoats$Bookings" 52 "WeekBoats$Bookings" "settled" "I" ∈ lw_gd := wk_2 (i := 111) (by decide +kernel) rfl
theorem wm_462 : Cond.fieldLink "WeekBoats$Bookings" 39 "WeekBoats$Bookings" "hope" "[I" ∈ lw_gd := wk_2 (i := 112) (by decide +kernel) rfl
theorem wm_463 : Cond.fieldLink "WeekBoats$Bookings" 42 "WeekBoats$Bookings" "boatOf" "[I" ∈ lw_gd := wk_2 (i := 113) (by decide +kernel) rfl
theorem wm_464 : Cond.fieldLink "WeekBoats$Bookings" 45 "WeekBoats$Bookings" "bestBoat" "[I" ∈ lw_gd := wk_2 (i := 114) (by decide +kernel) rfl
theorem wm_465 : Cond.fieldLink "WeekBoats" 284 "WeekBoats$Bookings" "bestBoat" "[I" ∈ lw_gd := wk_2 (i := 115) (by decide +kernel) rfl
theorem wm_466 : Cond.fieldLink "WeekBoats$Bookings" 67 "WeekBoats$Bookings" "bestServed" "I" ∈ lw_gd := wk_2 (i := 116) (by decide +kernel) rfl
theorem wm_467 : Cond.fieldLink "WeekBoats" 277 "WeekBoats$Bookings" "bestServed" "I" ∈ lw_gd := wk_2 (i := 117) (by decide +kernel) rfl
theorem wm_468 : Cond.fieldLink "WeekBoats$Bookings" 70 "WeekBoats$Bookings" "bestHome" "I" ∈ lw_gd := wk_2 (i := 118) (by decide +kernel) rfl
theorem wm_469 : Cond.fieldLink "WeekBoats" 280 "WeekBoats$Bookings" "bestHome" "I" ∈ lw_gd := wk_2 (i := 119) (by decide +kernel) rfl
theorem wm_508 : Cond.instanceMethod ⟨"WeekBoats$Yard", "<init>", "()V"⟩ ∈ lw_gd := wk_2 (i := 158) (by decide +kernel) rfl
set_option maxRecDepth 100000 in
theorem wm_509 : Cond.code ⟨"WeekBoats$Yard", "<init>", "()V"⟩ prog_12_method_1_code 1 none ∈ lw_gd := wk_2 (i := 159) rfl rfl
theorem wm_510 : Cond.methodLink "WeekBoats$Yard" 3 ⟨"java/lang/Object", "<init>", "()V"⟩ ∈ lw_gd := wk_2 (i := 160) (by decide +kernel) rfl
theorem wm_511 : Cond.fieldLink "WeekBoats$Yard" 9 "WeekBoats$Yard" "date" "[I" ∈ lw_gd := wk_2 (i := 161) (by decide +kernel) rfl
theorem wm_512 : Cond.fieldLink "WeekBoats$Yard" 15 "WeekBoats$Yard" "days" "[I" ∈ lw_gd := wk_2 (i := 162) (by decide +kernel) rfl
theorem wm_513 : Cond.fieldLink "WeekBoats$Yard" 46 "WeekBoats$Yard" "docked" "I" ∈ lw_gd := wk_2 (i := 163) (by decide +kernel) rfl
theorem wm_514 : Cond.fieldLink "WeekBoats" 308 "WeekBoats$Yard" "docked" "I" ∈ lw_gd := wk_2 (i := 164) (by decide +kernel) rfl
theorem wm_515 : Cond.fieldLink "WeekBoats$Yard" 18 "WeekBoats$Yard" "dockBoat" "[I" ∈ lw_gd := wk_2 (i := 165) (by decide +kernel) rfl
theorem wm_516 : Cond.fieldLink "WeekBoats$Yard" 21 "WeekBoats$Yard" "dockLate" "[I" ∈ lw_gd := wk_2 (i := 166) (by decide +kernel) rfl
theorem wm_517 : Cond.fieldLink "WeekBoats" 302 "WeekBoats$Yard" "dockLate" "[I" ∈ lw_gd := wk_2 (i := 167) (by decide +kernel) rfl
theorem wm_518 : Cond.fieldLink "WeekBoats$Yard" 24 "WeekBoats$Yard" "dockSum" "[I" ∈ lw_gd := wk_2 (i := 168) (by decide +kernel) rfl
theorem wm_519 : Cond.fieldLink "WeekBoats" 305 "WeekBoats$Yard" "dockSum" "[I" ∈ lw_gd := wk_2 (i := 169) (by decide +kernel) rfl
theorem wm_520 : Cond.fieldLink "WeekBoats$Yard" 27 "WeekBoats$Yard" "dockNext" "[I" ∈ lw_gd := wk_2 (i := 170) (by decide +kernel) rfl
theorem wm_521 : Cond.fieldLink "WeekBoats$Yard" 61 "WeekBoats$Yard" "jobs" "I" ∈ lw_gd := wk_2 (i := 171) (by decide +kernel) rfl
theorem wm_522 : Cond.fieldLink "WeekBoats" 314 "WeekBoats$Yard" "jobs" "I" ∈ lw_gd := wk_2 (i := 172) (by decide +kernel) rfl
theorem wm_523 : Cond.fieldLink "WeekBoats$Yard" 30 "WeekBoats$Yard" "minutes" "[I" ∈ lw_gd := wk_2 (i := 173) (by decide +kernel) rfl
theorem wm_524 : Cond.fieldLink "WeekBoats$Yard" 33 "WeekBoats$Yard" "handEnd" "[I" ∈ lw_gd := wk_2 (i := 174) (by decide +kernel) rfl
theorem wm_525 : Cond.fieldLink "WeekBoats$Yard" 36 "WeekBoats$Yard" "hand" "[I" ∈ lw_gd := wk_2 (i := 175) (by decide +kernel) rfl
theorem wm_526 : Cond.fieldLink "WeekBoats$Yard" 39 "WeekBoats$Yard" "bestHand" "[I" ∈ lw_gd := wk_2 (i := 176) (by decide +kernel) rfl
theorem wm_527 : Cond.fieldLink "WeekBoats" 335 "WeekBoats$Yard" "bestHand" "[I" ∈ lw_gd := wk_2 (i := 177) (by decide +kernel) rfl
theorem wm_528 : Cond.fieldLink "WeekBoats$Yard" 82 "WeekBoats$Yard" "bestEnd" "I" ∈ lw_gd := wk_2 (i := 178) (by decide +kernel) rfl
theorem wm_529 : Cond.fieldLink "WeekBoats" 332 "WeekBoats$Yard" "bestEnd" "I" ∈ lw_gd := wk_2 (i := 179) (by decide +kernel) rfl
theorem wm_530 : Cond.fieldLink "WeekBoats$Yard" 70 "WeekBoats$Yard" "workedEnd" "I" ∈ lw_gd := wk_2 (i := 180) (by decide +kernel) rfl
theorem wm_531 : Cond.fieldLink "WeekBoats" 323 "WeekBoats$Yard" "workedEnd" "I" ∈ lw_gd := wk_2 (i := 181) (by decide +kernel) rfl
theorem wm_532 : Cond.fieldLink "WeekBoats$Yard" 73 "WeekBoats$Yard" "over" "I" ∈ lw_gd := wk_2 (i := 182) (by decide +kernel) rfl
theorem wm_533 : Cond.fieldLink "WeekBoats" 326 "WeekBoats$Yard" "over" "I" ∈ lw_gd := wk_2 (i := 183) (by decide +kernel) rfl
theorem wm_567 : Cond.methodLink "WeekBoats" 85 ⟨"WeekBoats$Vans", "<init>", "(LWeekBoats$Canal;)V"⟩ ∈ lw_gd := wk_2 (i := 217) (by decide +kernel) rfl
theorem wm_568 : Cond.instanceMethod ⟨"WeekBoats$Vans", "<init>", "(LWeekBoats$Canal;)V"⟩ ∈ lw_gd := wk_2 (i := 218) (by decide +kernel) rfl
set_option maxRecDepth 100000 in
theorem wm_569 : Cond.code ⟨"WeekBoats$Vans", "<init>", "(LWeekBoats$Canal;)V"⟩ prog_10_method_1_code 2 none ∈ lw_gd := wk_2 (i := 219) rfl rfl
theorem wm_570 : Cond.methodLink "WeekBoats$Vans" 3 ⟨"java/lang/Object", "<init>", "()V"⟩ ∈ lw_gd := wk_2 (i := 220) (by decide +kernel) rfl
theorem wm_571 : Cond.fieldLink "WeekBoats$Vans" 36 "WeekBoats$Vans" "canal" "LWeekBoats$Canal;" ∈ lw_gd := wk_2 (i := 221) (by decide +kernel) rfl
theorem wm_572 : Cond.fieldLink "WeekBoats$Vans" 9 "WeekBoats$Vans" "weight" "[I" ∈ lw_gd := wk_2 (i := 222) (by decide +kernel) rfl
theorem wm_573 : Cond.fieldLink "WeekBoats" 338 "WeekBoats$Vans" "weight" "[I" ∈ lw_gd := wk_2 (i := 223) (by decide +kernel) rfl
theorem wm_574 : Cond.fieldLink "WeekBoats$Vans" 15 "WeekBoats$Vans" "along" "[I" ∈ lw_gd := wk_2 (i := 224) (by decide +kernel) rfl
theorem wm_575 : Cond.fieldLink "WeekBoats$Vans" 64 "WeekBoats$Vans" "couple" "I" ∈ lw_gd := wk_2 (i := 225) (by decide +kernel) rfl
theorem wm_576 : Cond.fieldLink "WeekBoats" 356 "WeekBoats$Vans" "couple" "I" ∈ lw_gd := wk_2 (i := 226) (by decide +kernel) rfl
theorem wm_577 : Cond.fieldLink "WeekBoats$Vans" 68 "WeekBoats$Vans" "coupleSum" "I" ∈ lw_gd := wk_2 (i := 227) (by decide +kernel) rfl
theorem wm_578 : Cond.fieldLink "WeekBoats" 359 "WeekBoats$Vans" "coupleSum" "I" ∈ lw_gd := wk_2 (i := 228) (by decide +kernel) rfl
theorem wm_579 : Cond.fieldLink "WeekBoats$Vans" 71 "WeekBoats$Vans" "calls" "I" ∈ lw_gd := wk_2 (i := 229) (by decide +kernel) rfl
theorem wm_580 : Cond.fieldLink "WeekBoats" 362 "WeekBoats$Vans" "calls" "I" ∈ lw_gd := wk_2 (i := 230) (by decide +kernel) rfl
theorem wm_581 : Cond.fieldLink "WeekBoats$Vans" 18 "WeekBoats$Vans" "callMinute" "[I" ∈ lw_gd := wk_2 (i := 231) (by decide +kernel) rfl
theorem wm_582 : Cond.fieldLink "WeekBoats$Vans" 21 "WeekBoats$Vans" "callPoint" "[I" ∈ lw_gd := wk_2 (i := 232) (by decide +kernel) rfl
theorem wm_583 : Cond.fieldLink "WeekBoats$Vans" 24 "WeekBoats$Vans" "callWork" "[I" ∈ lw_gd := wk_2 (i := 233) (by decide +kernel) rfl
theorem wm_584 : Cond.fieldLink "WeekBoats$Vans" 27 "WeekBoats$Vans" "taker" "[I" ∈ lw_gd := wk_2 (i := 234) (by decide +kernel) rfl
theorem wm_585 : Cond.fieldLink "WeekBoats$Vans" 30 "WeekBoats$Vans" "vanAt" "[I" ∈ lw_gd := wk_2 (i := 235) (by decide +kernel) rfl
theorem wm_586 : Cond.fieldLink "WeekBoats$Vans" 33 "WeekBoats$Vans" "vanFree" "[I" ∈ lw_gd := wk_2 (i := 236) (by decide +kernel) rfl
theorem wm_587 : Cond.fieldLink "WeekBoats$Vans" 80 "WeekBoats$Vans" "waitSum" "I" ∈ lw_gd := wk_2 (i := 237) (by decide +kernel) rfl
theorem wm_588 : Cond.fieldLink "WeekBoats" 372 "WeekBoats$Vans" "waitSum" "I" ∈ lw_gd := wk_2 (i := 238) (by decide +kernel) rfl
theorem wm_589 : Cond.fieldLink "WeekBoats$Vans" 83 "WeekBoats$Vans" "waitLongest" "I" ∈ lw_gd := wk_2 (i := 239) (by decide +kernel) rfl
theorem wm_590 : Cond.fieldLink "WeekBoats" 375 "WeekBoats$Vans" "waitLongest" "I" ∈ lw_gd := wk_3 (i := 0) (by decide +kernel) rfl
theorem wm_591 : Cond.fieldLink "WeekBoats$Vans" 86 "WeekBoats$Vans" "lastDone" "I" ∈ lw_gd := wk_3 (i := 1) (by decide +kernel) rfl
theorem wm_592 : Cond.fieldLink "WeekBoats" 378 "WeekBoats$Vans" "lastDone" "I" ∈ lw_gd := wk_3 (i := 2) (by decide +kernel) rfl
theorem wm_627 : Cond.instanceMethod ⟨"WeekBoats$Rain", "<init>", "()V"⟩ ∈ lw_gd := wk_3 (i := 37) (by decide +kernel) rfl
set_option maxRecDepth 100000 in
theorem wm_628 : Cond.code ⟨"WeekBoats$Rain", "<init>", "()V"⟩ prog_7_method_1_code 1 none ∈ lw_gd := wk_3 (i := 38) rfl rfl
theorem wm_629 : Cond.methodLink "WeekBoats$Rain" 3 ⟨"java/lang/Object", "<init>", "()V"⟩ ∈ lw_gd := wk_3 (i := 39) (by decide +kernel) rfl
theorem wm_630 : Cond.fieldLink "WeekBoats$Rain" 9 "WeekBoats$Rain" "now" "[I" ∈ lw_gd := wk_3 (i := 40) (by decide +kernel) rfl
theorem wm_631 : Cond.fieldLink "WeekBoats$Rain" 15 "WeekBoats$Rain" "then" "[I" ∈ lw_gd := wk_3 (i := 41) (by decide +kernel) rfl
theorem wm_632 : Cond.fieldLink "WeekBoats$Rain" 25 "WeekBoats$Rain" "kept" "I" ∈ lw_gd := wk_3 (i := 42) (by decide +kernel) rfl
theorem wm_633 : Cond.fieldLink "WeekBoats" 394 "WeekBoats$Rain" "kept" "I" ∈ lw_gd := wk_3 (i := 43) (by decide +kernel) rfl
theorem wm_641 : Cond.fieldLink "WeekBoats" 12 "WeekBoats" "canal" "LWeekBoats$Canal;" ∈ lw_gd := wk_3 (i := 51) (by decide +kernel) rfl
theorem wm_642 : Cond.fieldLink "WeekBoats" 19 "WeekBoats" "ruling" "LWeekBoats$Rules;" ∈ lw_gd := wk_3 (i := 52) (by decide +kernel) rfl
theorem wm_643 : Cond.fieldLink "WeekBoats" 23 "WeekBoats" "draft" "LWeekBoats$Rules;" ∈ lw_gd := wk_3 (i := 53) (by decide +kernel) rfl
theorem wm_644 : Cond.fieldLink "WeekBoats" 31 "WeekBoats" "parser" "LWeekBoats$Parser;" ∈ lw_gd := wk_3 (i := 54) (by decide +kernel) rfl
theorem wm_645 : Cond.fieldLink "WeekBoats" 40 "WeekBoats" "voyage" "LWeekBoats$Voyage;" ∈ lw_gd := wk_3 (i := 55) (by decide +kernel) rfl
theorem wm_646 : Cond.fieldLink "WeekBoats" 49 "WeekBoats" "boats" "LWeekBoats$Boats;" ∈ lw_gd := wk_3 (i := 56) (by decide +kernel) rfl
theorem wm_647 : Cond.fieldLink "WeekBoats" 58 "WeekBoats" "trips" "LWeekBoats$Trips;" ∈ lw_gd := wk_3 (i := 57) (by decide +kernel) rfl
theorem wm_648 : Cond.fieldLink "WeekBoats" 65 "WeekBoats" "waiting" "LWeekBoats$LockQueue;" ∈ lw_gd := wk_3 (i := 58) (by decide +kernel) rfl
theorem wm_649 : Cond.fieldLink "WeekBoats" 72 "WeekBoats" "bookings" "LWeekBoats$Bookings;" ∈ lw_gd := wk_3 (i := 59) (by decide +kernel) rfl
theorem wm_650 : Cond.fieldLink "WeekBoats" 79 "WeekBoats" "yard" "LWeekBoats$Yard;" ∈ lw_gd := wk_3 (i := 60) (by decide +kernel) rfl
theorem wm_651 : Cond.fieldLink "WeekBoats" 88 "WeekBoats" "roads" "LWeekBoats$Vans;" ∈ lw_gd := wk_3 (i := 61) (by decide +kernel) rfl
theorem wm_652 : Cond.fieldLink "WeekBoats" 95 "WeekBoats" "rains" "LWeekBoats$Rain;" ∈ lw_gd := wk_3 (i := 62) (by decide +kernel) rfl
theorem wm_678 : Cond.methodLink "WeekBoatsLaw" 13 ⟨"WeekBoats", "stretch", "(IIII)Z"⟩ ∈ lw_gd := wk_3 (i := 88) (by decide +kernel) rfl
theorem wm_679 : Cond.instanceMethod ⟨"WeekBoats", "stretch", "(IIII)Z"⟩ ∈ lw_gd := wk_3 (i := 89) (by decide +kernel) rfl
theorem wm_680 : Cond.selects "WeekBoats" ⟨"WeekBoats", "stretch", "(IIII)Z"⟩ ⟨"WeekBoats", "stretch", "(IIII)Z"⟩ ∈ lw_gd := wk_3 (i := 90) (by decide +kernel) rfl
set_option maxRecDepth 100000 in
theorem wm_681 : Cond.code ⟨"WeekBoats", "stretch", "(IIII)Z"⟩ prog_1_method_9_code 5 (some .boolean) ∈ lw_gd := wk_3 (i := 91) rfl rfl
theorem wm_682 : Cond.methodLink "WeekBoats" 99 ⟨"WeekBoats", "within", "(III)Z"⟩ ∈ lw_gd := wk_3 (i := 92) (by decide +kernel) rfl
theorem wm_683 : Cond.static ⟨"WeekBoats", "within", "(III)Z"⟩ ∈ lw_gd := wk_3 (i := 93) (by decide +kernel) rfl
set_option maxRecDepth 100000 in
theorem wm_684 : Cond.code ⟨"WeekBoats", "within", "(III)Z"⟩ prog_1_method_2_code 3 (some .boolean) ∈ lw_gd := wk_3 (i := 94) rfl rfl
theorem wm_685 : Cond.methodLink "WeekBoatsLaw" 18 ⟨"WeekBoats", "water", "(I)Z"⟩ ∈ lw_gd := wk_3 (i := 95) (by decide +kernel) rfl
theorem wm_686 : Cond.instanceMethod ⟨"WeekBoats", "water", "(I)Z"⟩ ∈ lw_gd := wk_3 (i := 96) (by decide +kernel) rfl
theorem wm_687 : Cond.selects "WeekBoats" ⟨"WeekBoats", "water", "(I)Z"⟩ ⟨"WeekBoats", "water", "(I)Z"⟩ ∈ lw_gd := wk_3 (i := 97) (by decide +kernel) rfl
set_option maxRecDepth 100000 in
theorem wm_688 : Cond.code ⟨"WeekBoats", "water", "(I)Z"⟩ prog_1_method_10_code 2 (some .boolean) ∈ lw_gd := wk_3 (i := 98) rfl rfl
theorem wm_689 : Cond.methodLink "WeekBoats" 130 ⟨"WeekBoats$Voyage", "learnHours", "()V"⟩ ∈ lw_gd := wk_3 (i := 99) (by decide +kernel) rfl
theorem wm_690 : Cond.instanceMethod ⟨"WeekBoats$Voyage", "learnHours", "()V"⟩ ∈ lw_gd := wk_3 (i := 100) (by decide +kernel) rfl
theorem wm_691 : Cond.selects "WeekBoats$Voyage" ⟨"WeekBoats$Voyage", "learnHours", "()V"⟩ ⟨"WeekBoats$Voyage", "learnHours", "()V"⟩ ∈ lw_gd := wk_3 (i := 101) (by decide +kernel) rfl
set_option maxRecDepth 100000 in
theorem wm_692 : Cond.code ⟨"WeekBoats$Voyage", "learnHours", "()V"⟩ prog_11_method_2_code 3 none ∈ lw_gd := wk_3 (i := 102) rfl rfl
theorem wm_693 : Cond.methodLink "WeekBoats$Voyage" 44 ⟨"WeekBoats$Rules", "askDay", "(II)V"⟩ ∈ lw_gd := wk_3 (i := 103) (by decide +kernel) rfl
theorem wm_694 : Cond.instanceMethod ⟨"WeekBoats$Rules", "askDay", "(II)V"⟩ ∈ lw_gd := wk_3 (i := 104) (by decide +kernel) rfl
theorem wm_695 : Cond.selects "WeekBoats$Rules" ⟨"WeekBoats$Rules", "askDay", "(II)V"⟩ ⟨"WeekBoats$Rules", "askDay", "(II)V"⟩ ∈ lw_gd := wk_3 (i := 105) (by decide +kernel) rfl
set_option maxRecDepth 100000 in
theorem wm_696 : Cond.code ⟨"WeekBoats$Rules", "askDay", "(II)V"⟩ prog_8_method_7_code 3 none ∈ lw_gd := wk_3 (i := 106) rfl rfl
theorem wm_697 : Cond.methodLink "WeekBoats$Rules" 58 ⟨"java/util/Arrays", "fill", "([II)V"⟩ ∈ lw_gd := wk_3 (i := 107) (by decide +kernel) rfl
theorem wm_698 : Cond.methodLink "WeekBoats$Voyage" 50 ⟨"WeekBoats$Rules", "serving", "(I)I"⟩ ∈ lw_gd := wk_3 (i := 108) (by decide +kernel) rfl
theorem wm_699 : Cond.instanceMethod ⟨"WeekBoats$Rules", "serving", "(I)I"⟩ ∈ lw_gd := wk_3 (i := 109) (by decide +kernel) rfl
theorem wm_700 : Cond.selects "WeekBoats$Rules" ⟨"WeekBoats$Rules", "serving", "(I)I"⟩ ⟨"WeekBoats$Rules", "serving", "(I)I"⟩ ∈ lw_gd := wk_3 (i := 110) (by decide +kernel) rfl
end
section
set_option maxRecDepth 100000 in
theorem wm_701 : Cond.code ⟨"WeekBoats$Rules", "serving", "(I)I"⟩ prog_8_method_9_code 3 (some .int) ∈ lw_gd := wk_3 (i := 111) rfl rfl
theorem wm_702 : Cond.methodLink "WeekBoats$Rules" 74 ⟨"WeekBoats$Rules", "run", "(II)I"⟩ ∈ lw_gd := wk_3 (i := 112) (by decide +kernel) rfl
theorem wm_704 : Cond.instanceMethod ⟨"WeekBoats$Rules", "run", "(II)I"⟩ ∈ lw_gd := wk_3 (i := 114) (by decide +kernel) rfl
set_option maxRecDepth 100000 in
theorem wm_705 : Cond.code ⟨"WeekBoats$Rules", "run", "(II)I"⟩ prog_8_method_11_code 6 (some .int) ∈ lw_gd := wk_3 (i := 115) rfl rfl
theorem wm_706 : Cond.methodLink "WeekBoats$Rules" 82 ⟨"WeekBoats$Rules", "askedOf", "(I)I"⟩ ∈ lw_gd := wk_3 (i := 116) (by decide +kernel) rfl
theorem wm_708 : Cond.instanceMethod ⟨"WeekBoats$Rules", "askedOf", "(I)I"⟩ ∈ lw_gd := wk_3 (i := 118) (by decide +kernel) rfl
set_option maxRecDepth 100000 in
theorem wm_709 : Cond.code ⟨"WeekBoats$Rules", "askedOf", "(I)I"⟩ prog_8_method_12_code 2 (some .int) ∈ lw_gd := wk_3 (i := 119) rfl rfl
theorem wm_711 : Cond.methodLink "WeekBoats$Rules" 86 ⟨"WeekBoats$Rules", "alone", "(III)I"⟩ ∈ lw_gd := wk_3 (i := 121) (by decide +kernel) rfl
theorem wm_712 : Cond.static ⟨"WeekBoats$Rules", "alone", "(III)I"⟩ ∈ lw_gd := wk_3 (i := 122) (by decide +kernel) rfl
set_option maxRecDepth 100000 in
theorem wm_713 : Cond.code ⟨"WeekBoats$Rules", "alone", "(III)I"⟩ prog_8_method_13_code 3 (some .int) ∈ lw_gd := wk_3 (i := 123) rfl rfl
theorem wm_714 : Cond.methodLink "WeekBoats$Rules" 90 ⟨"WeekBoats$Rules", "both", "(III)I"⟩ ∈ lw_gd := wk_3 (i := 124) (by decide +kernel) rfl
theorem wm_715 : Cond.static ⟨"WeekBoats$Rules", "both", "(III)I"⟩ ∈ lw_gd := wk_3 (i := 125) (by decide +kernel) rfl
set_option maxRecDepth 100000 in
theorem wm_716 : Cond.code ⟨"WeekBoats$Rules", "both", "(III)I"⟩ prog_8_method_14_code 3 (some .int) ∈ lw_gd := wk_3 (i := 126) rfl rfl
theorem wm_717 : Cond.methodLink "WeekBoatsLaw" 23 ⟨"WeekBoats", "stoppage", "(III)I"⟩ ∈ lw_gd := wk_3 (i := 127) (by decide +kernel) rfl
theorem wm_718 : Cond.instanceMethod ⟨"WeekBoats", "stoppage", "(III)I"⟩ ∈ lw_gd := wk_3 (i := 128) (by decide +kernel) rfl
theorem wm_719 : Cond.selects "WeekBoats" ⟨"WeekBoats", "stoppage", "(III)I"⟩ ⟨"WeekBoats", "stoppage", "(III)I"⟩ ∈ lw_gd := wk_3 (i := 129) (by decide +kernel) rfl
set_option maxRecDepth 100000 in
theorem wm_720 : Cond.code ⟨"WeekBoats", "stoppage", "(III)I"⟩ prog_1_method_11_code 4 (some .int) ∈ lw_gd := wk_3 (i := 130) rfl rfl
theorem wm_721 : Cond.methodLink "WeekBoats" 133 ⟨"WeekBoats$Canal", "reopen", "()V"⟩ ∈ lw_gd := wk_3 (i := 131) (by decide +kernel) rfl
theorem wm_722 : Cond.instanceMethod ⟨"WeekBoats$Canal", "reopen", "()V"⟩ ∈ lw_gd := wk_3 (i := 132) (by decide +kernel) rfl
theorem wm_723 : Cond.selects "WeekBoats$Canal" ⟨"WeekBoats$Canal", "reopen", "()V"⟩ ⟨"WeekBoats$Canal", "reopen", "()V"⟩ ∈ lw_gd := wk_3 (i := 133) (by decide +kernel) rfl
set_option maxRecDepth 100000 in
theorem wm_724 : Cond.code ⟨"WeekBoats$Canal", "reopen", "()V"⟩ prog_4_method_3_code 1 none ∈ lw_gd := wk_3 (i := 134) rfl rfl
theorem wm_725 : Cond.methodLink "WeekBoats" 139 ⟨"WeekBoats$Canal", "stop", "(III)V"⟩ ∈ lw_gd := wk_3 (i := 135) (by decide +kernel) rfl
theorem wm_726 : Cond.instanceMethod ⟨"WeekBoats$Canal", "stop", "(III)V"⟩ ∈ lw_gd := wk_3 (i := 136) (by decide +kernel) rfl
theorem wm_727 : Cond.selects "WeekBoats$Canal" ⟨"WeekBoats$Canal", "stop", "(III)V"⟩ ⟨"WeekBoats$Canal", "stop", "(III)V"⟩ ∈ lw_gd := wk_3 (i := 137) (by decide +kernel) rfl
set_option maxRecDepth 100000 in
theorem wm_728 : Cond.code ⟨"WeekBoats$Canal", "stop", "(III)V"⟩ prog_4_method_2_code 5 none ∈ lw_gd := wk_3 (i := 138) rfl rfl
theorem wm_729 : Cond.methodLink "WeekBoatsLaw" 28 ⟨"WeekBoats", "boat", "(IIII)I"⟩ ∈ lw_gd := wk_3 (i := 139) (by decide +kernel) rfl
theorem wm_730 : Cond.instanceMethod ⟨"WeekBoats", "boat", "(IIII)I"⟩ ∈ lw_gd := wk_3 (i := 140) (by decide +kernel) rfl
theorem wm_731 : Cond.selects "WeekBoats" ⟨"WeekBoats", "boat", "(IIII)I"⟩ ⟨"WeekBoats", "boat", "(IIII)I"⟩ ∈ lw_gd := wk_3 (i := 141) (by decide +kernel) rfl
set_option maxRecDepth 100000 in
theorem wm_732 : Cond.code ⟨"WeekBoats", "boat", "(IIII)I"⟩ prog_1_method_12_code 5 (some .int) ∈ lw_gd := wk_3 (i := 142) rfl rfl
theorem wm_733 : Cond.methodLink "WeekBoats" 143 ⟨"WeekBoats", "isBerths", "(I)Z"⟩ ∈ lw_gd := wk_3 (i := 143) (by decide +kernel) rfl
theorem wm_734 : Cond.static ⟨"WeekBoats", "isBerths", "(I)Z"⟩ ∈ lw_gd := wk_3 (i := 144) (by decide +kernel) rfl
set_option maxRecDepth 100000 in
theorem wm_735 : Cond.code ⟨"WeekBoats", "isBerths", "(I)Z"⟩ prog_1_method_6_code 1 (some .boolean) ∈ lw_gd := wk_3 (i := 145) rfl rfl
theorem wm_736 : Cond.methodLink "WeekBoats" 111 ⟨"WeekBoats", "isPoint", "(I)Z"⟩ ∈ lw_gd := wk_3 (i := 146) (by decide +kernel) rfl
theorem wm_737 : Cond.static ⟨"WeekBoats", "isPoint", "(I)Z"⟩ ∈ lw_gd := wk_3 (i := 147) (by decide +kernel) rfl
set_option maxRecDepth 100000 in
theorem wm_738 : Cond.code ⟨"WeekBoats", "isPoint", "(I)Z"⟩ prog_1_method_3_code 1 (some .boolean) ∈ lw_gd := wk_3 (i := 148) rfl rfl
theorem wm_739 : Cond.methodLink "WeekBoats" 146 ⟨"WeekBoats$Boats", "add", "(IIII)I"⟩ ∈ lw_gd := wk_3 (i := 149) (by decide +kernel) rfl
theorem wm_740 : Cond.instanceMethod ⟨"WeekBoats$Boats", "add", "(IIII)I"⟩ ∈ lw_gd := wk_3 (i := 150) (by decide +kernel) rfl
theorem wm_741 : Cond.selects "WeekBoats$Boats" ⟨"WeekBoats$Boats", "add", "(IIII)I"⟩ ⟨"WeekBoats$Boats", "add", "(IIII)I"⟩ ∈ lw_gd := wk_3 (i := 151) (by decide +kernel) rfl
set_option maxRecDepth 100000 in
theorem wm_742 : Cond.code ⟨"WeekBoats$Boats", "add", "(IIII)I"⟩ prog_2_method_2_code 5 (some .int) ∈ lw_gd := wk_3 (i := 152) rfl rfl
theorem wm_743 : Cond.methodLink "WeekBoatsLaw" 33 ⟨"WeekBoats", "feed", "(IIIII)I"⟩ ∈ lw_gd := wk_3 (i := 153) (by decide +kernel) rfl
theorem wm_744 : Cond.instanceMethod ⟨"WeekBoats", "feed", "(IIIII)I"⟩ ∈ lw_gd := wk_3 (i := 154) (by decide +kernel) rfl
theorem wm_745 : Cond.selects "WeekBoats" ⟨"WeekBoats", "feed", "(IIIII)I"⟩ ⟨"WeekBoats", "feed", "(IIIII)I"⟩ ∈ lw_gd := wk_3 (i := 155) (by decide +kernel) rfl
set_option maxRecDepth 100000 in
theorem wm_746 : Cond.code ⟨"WeekBoats", "feed", "(IIIII)I"⟩ prog_1_method_13_code 6 (some .int) ∈ lw_gd := wk_3 (i := 156) rfl rfl
theorem wm_747 : Cond.methodLink "WeekBoats" 153 ⟨"WeekBoats$Parser", "put", "(I)V"⟩ ∈ lw_gd := wk_3 (i := 157) (by decide +kernel) rfl
theorem wm_748 : Cond.instanceMethod ⟨"WeekBoats$Parser", "put", "(I)V"⟩ ∈ lw_gd := wk_3 (i := 158) (by decide +kernel) rfl
theorem wm_749 : Cond.selects "WeekBoats$Parser" ⟨"WeekBoats$Parser", "put", "(I)V"⟩ ⟨"WeekBoats$Parser", "put", "(I)V"⟩ ∈ lw_gd := wk_3 (i := 159) (by decide +kernel) rfl
set_option maxRecDepth 100000 in
theorem wm_750 : Cond.code ⟨"WeekBoats$Parser", "put", "(I)V"⟩ prog_6_method_2_code 3 none ∈ lw_gd := wk_3 (i := 160) rfl rfl
theorem wm_751 : Cond.methodLink "WeekBoatsLaw" 38 ⟨"WeekBoats", "end", "(I)Z"⟩ ∈ lw_gd := wk_3 (i := 161) (by decide +kernel) rfl
theorem wm_752 : Cond.instanceMethod ⟨"WeekBoats", "end", "(I)Z"⟩ ∈ lw_gd := wk_3 (i := 162) (by decide +kernel) rfl
theorem wm_753 : Cond.selects "WeekBoats" ⟨"WeekBoats", "end", "(I)Z"⟩ ⟨"WeekBoats", "end", "(I)Z"⟩ ∈ lw_gd := wk_3 (i := 163) (by decide +kernel) rfl
set_option maxRecDepth 100000 in
theorem wm_754 : Cond.code ⟨"WeekBoats", "end", "(I)Z"⟩ prog_1_method_14_code 2 (some .boolean) ∈ lw_gd := wk_3 (i := 164) rfl rfl
theorem wm_755 : Cond.methodLink "WeekBoatsLaw" 42 ⟨"WeekBoats", "rules", "()I"⟩ ∈ lw_gd := wk_3 (i := 165) (by decide +kernel) rfl
theorem wm_756 : Cond.instanceMethod ⟨"WeekBoats", "rules", "()I"⟩ ∈ lw_gd := wk_3 (i := 166) (by decide +kernel) rfl
theorem wm_757 : Cond.selects "WeekBoats" ⟨"WeekBoats", "rules", "()I"⟩ ⟨"WeekBoats", "rules", "()I"⟩ ∈ lw_gd := wk_3 (i := 167) (by decide +kernel) rfl
set_option maxRecDepth 100000 in
theorem wm_758 : Cond.code ⟨"WeekBoats", "rules", "()I"⟩ prog_1_method_15_code 2 (some .int) ∈ lw_gd := wk_3 (i := 168) rfl rfl
theorem wm_759 : Cond.methodLink "WeekBoats" 157 ⟨"WeekBoats$Parser", "read", "()I"⟩ ∈ lw_gd := wk_3 (i := 169) (by decide +kernel) rfl
theorem wm_760 : Cond.instanceMethod ⟨"WeekBoats$Parser", "read", "()I"⟩ ∈ lw_gd := wk_3 (i := 170) (by decide +kernel) rfl
theorem wm_761 : Cond.selects "WeekBoats$Parser" ⟨"WeekBoats$Parser", "read", "()I"⟩ ⟨"WeekBoats$Parser", "read", "()I"⟩ ∈ lw_gd := wk_3 (i := 171) (by decide +kernel) rfl
set_option maxRecDepth 100000 in
theorem wm_762 : Cond.code ⟨"WeekBoats$Parser", "read", "()I"⟩ prog_6_method_3_code 2 (some .int) ∈ lw_gd := wk_3 (i := 172) rfl rfl
theorem wm_763 : Cond.methodLink "WeekBoats$Parser" 38 ⟨"WeekBoats$Rules", "clear", "()V"⟩ ∈ lw_gd := wk_3 (i := 173) (by decide +kernel) rfl
theorem wm_764 : Cond.instanceMethod ⟨"WeekBoats$Rules", "clear", "()V"⟩ ∈ lw_gd := wk_3 (i := 174) (by decide +kernel) rfl
theorem wm_765 : Cond.selects "WeekBoats$Rules" ⟨"WeekBoats$Rules", "clear", "()V"⟩ ⟨"WeekBoats$Rules", "clear", "()V"⟩ ∈ lw_gd := wk_3 (i := 175) (by decide +kernel) rfl
set_option maxRecDepth 100000 in
theorem wm_766 : Cond.code ⟨"WeekBoats$Rules", "clear", "()V"⟩ prog_8_method_2_code 1 none ∈ lw_gd := wk_3 (i := 176) rfl rfl
theorem wm_767 : Cond.methodLink "WeekBoats$Parser" 43 ⟨"WeekBoats$Parser", "scan", "()V"⟩ ∈ lw_gd := wk_3 (i := 177) (by decide +kernel) rfl
theorem wm_769 : Cond.instanceMethod ⟨"WeekBoats$Parser", "scan", "()V"⟩ ∈ lw_gd := wk_3 (i := 179) (by decide +kernel) rfl
set_option maxRecDepth 100000 in
theorem wm_770 : Cond.code ⟨"WeekBoats$Parser", "scan", "()V"⟩ prog_6_method_4_code 5 none ∈ lw_gd := wk_3 (i := 180) rfl rfl
theorem wm_771 : Cond.methodLink "WeekBoats$Parser" 55 ⟨"WeekBoats$Parser", "isLetter", "(I)Z"⟩ ∈ lw_gd := wk_3 (i := 181) (by decide +kernel) rfl
theorem wm_772 : Cond.static ⟨"WeekBoats$Parser", "isLetter", "(I)Z"⟩ ∈ lw_gd := wk_3 (i := 182) (by decide +kernel) rfl
set_option maxRecDepth 100000 in
theorem wm_773 : Cond.code ⟨"WeekBoats$Parser", "isLetter", "(I)Z"⟩ prog_6_method_6_code 1 (some .boolean) ∈ lw_gd := wk_3 (i := 183) rfl rfl
theorem wm_775 : Cond.methodLink "WeekBoats$Parser" 59 ⟨"WeekBoats$Parser", "endOfWord", "(I)I"⟩ ∈ lw_gd := wk_3 (i := 185) (by decide +kernel) rfl
theorem wm_777 : Cond.instanceMethod ⟨"WeekBoats$Parser", "endOfWord", "(I)I"⟩ ∈ lw_gd := wk_3 (i := 187) (by decide +kernel) rfl
set_option maxRecDepth 100000 in
theorem wm_778 : Cond.code ⟨"WeekBoats$Parser", "endOfWord", "(I)I"⟩ prog_6_method_8_code 4 (some .int) ∈ lw_gd := wk_3 (i := 188) rfl rfl
theorem wm_779 : Cond.methodLink "WeekBoats$Parser" 63 ⟨"WeekBoats$Parser", "wordOf", "(II)I"⟩ ∈ lw_gd := wk_3 (i := 189) (by decide +kernel) rfl
theorem wm_781 : Cond.instanceMethod ⟨"WeekBoats$Parser", "wordOf", "(II)I"⟩ ∈ lw_gd := wk_3 (i := 191) (by decide +kernel) rfl
set_option maxRecDepth 100000 in
theorem wm_782 : Cond.code ⟨"WeekBoats$Parser", "wordOf", "(II)I"⟩ prog_6_method_11_code 6 (some .int) ∈ lw_gd := wk_3 (i := 192) rfl rfl
theorem wm_784 : Cond.methodLink "WeekBoats$Parser" 93 ⟨"java/lang/String", "length", "()I"⟩ ∈ lw_gd := wk_3 (i := 194) (by decide +kernel) rfl
theorem wm_785 : Cond.instanceMethod ⟨"java/lang/String", "length", "()I"⟩ ∈ lw_gd := wk_3 (i := 195) (by decide +kernel) rfl
theorem wm_786 : Cond.selects "java/lang/String" ⟨"java/lang/String", "length", "()I"⟩ ⟨"java/lang/String", "length", "()I"⟩ ∈ lw_gd := wk_3 (i := 196) (by decide +kernel) rfl
set_option maxRecDepth 100000 in
theorem wm_787 : Cond.code ⟨"java/lang/String", "length", "()I"⟩ prog_18_method_54_code 1 (some .int) ∈ lw_gd := wk_3 (i := 197) rfl rfl
theorem wm_788 : Cond.methodLink "java/lang/String" 335 ⟨"java/lang/String", "coder", "()B"⟩ ∈ lw_gd := wk_3 (i := 198) (by decide +kernel) rfl
theorem wm_789 : Cond.instanceMethod ⟨"java/lang/String", "coder", "()B"⟩ ∈ lw_gd := wk_3 (i := 199) (by decide +kernel) rfl
theorem wm_790 : Cond.selects "java/lang/String" ⟨"java/lang/String", "coder", "()B"⟩ ⟨"java/lang/String", "coder", "()B"⟩ ∈ lw_gd := wk_3 (i := 200) (by decide +kernel) rfl
set_option maxRecDepth 100000 in
theorem wm_791 : Cond.code ⟨"java/lang/String", "coder", "()B"⟩ prog_18_method_152_code 1 (some .byte) ∈ lw_gd := wk_3 (i := 201) rfl rfl
theorem wm_792 : Cond.fieldLink "java/lang/String" 38 "java/lang/String" "COMPACT_STRINGS" "Z" ∈ lw_gd := wk_3 (i := 202) (by decide +kernel) rfl
theorem wm_794 : Cond.methodLink "WeekBoats$Parser" 96 ⟨"java/lang/String", "charAt", "(I)C"⟩ ∈ lw_gd := wk_3 (i := 204) (by decide +kernel) rfl
theorem wm_795 : Cond.instanceMethod ⟨"java/lang/String", "charAt", "(I)C"⟩ ∈ lw_gd := wk_3 (i := 205) (by decide +kernel) rfl
theorem wm_796 : Cond.selects "java/lang/String" ⟨"java/lang/String", "charAt", "(I)C"⟩ ⟨"java/lang/String", "charAt", "(I)C"⟩ ∈ lw_gd := wk_3 (i := 206) (by decide +kernel) rfl
set_option maxRecDepth 100000 in
theorem wm_797 : Cond.code ⟨"java/lang/String", "charAt", "(I)C"⟩ prog_18_method_56_code 2 (some .char) ∈ lw_gd := wk_3 (i := 207) rfl rfl
theorem wm_798 : Cond.methodLink "java/lang/String" 492 ⟨"java/lang/String", "isLatin1", "()Z"⟩ ∈ lw_gd := wk_3 (i := 208) (by decide +kernel) rfl
theorem wm_799 : Cond.instanceMethod ⟨"java/lang/String", "isLatin1", "()Z"⟩ ∈ lw_gd := wk_3 (i := 209) (by decide +kernel) rfl
theorem wm_800 : Cond.selects "java/lang/String" ⟨"java/lang/String", "isLatin1", "()Z"⟩ ⟨"java/lang/String", "isLatin1", "()Z"⟩ ∈ lw_gd := wk_3 (i := 210) (by decide +kernel) rfl
set_option maxRecDepth 100000 in
theorem wm_801 : Cond.code ⟨"java/lang/String", "isLatin1", "()Z"⟩ prog_18_method_154_code 1 (some .boolean) ∈ lw_gd := wk_3 (i := 211) rfl rfl
theorem wm_802 : Cond.methodLink "java/lang/String" 495 ⟨"java/lang/StringLatin1", "charAt", "([BI)C"⟩ ∈ lw_gd := wk_3 (i := 212) (by decide +kernel) rfl
theorem wm_803 : Cond.static ⟨"java/lang/StringLatin1", "charAt", "([BI)C"⟩ ∈ lw_gd := wk_3 (i := 213) (by decide +kernel) rfl
set_option maxRecDepth 100000 in
theorem wm_804 : Cond.code ⟨"java/lang/StringLatin1", "charAt", "([BI)C"⟩ prog_19_method_2_code 2 (some .char) ∈ lw_gd := wk_3 (i := 214) rfl rfl
theorem wm_805 : Cond.methodLink "java/lang/StringLatin1" 9 ⟨"java/lang/String", "checkIndex", "(II)V"⟩ ∈ lw_gd := wk_3 (i := 215) (by decide +kernel) rfl
theorem wm_806 : Cond.static ⟨"java/lang/String", "checkIndex", "(II)V"⟩ ∈ lw_gd := wk_3 (i := 216) (by decide +kernel) rfl
set_option maxRecDepth 100000 in
theorem wm_807 : Cond.code ⟨"java/lang/String", "checkIndex", "(II)V"⟩ prog_18_method_155_code 2 none ∈ lw_gd := wk_3 (i := 217) rfl rfl
theorem wm_808 : Cond.fieldLink "java/lang/String" 1053 "jdk/internal/util/Preconditions" "SIOOBE_FORMATTER" "Ljava/util/function/BiFunction;" ∈ lw_gd := wk_3 (i := 218) (by decide +kernel) rfl
theorem wm_810 : Cond.methodLink "java/lang/String" 1059 ⟨"jdk/internal/util/Preconditions", "checkIndex", "(IILjava/util/function/BiFunction;)I"⟩ ∈ lw_gd := wk_3 (i := 220) (by decide +kernel) rfl
theorem wm_811 : Cond.static ⟨"jdk/internal/util/Preconditions", "checkIndex", "(IILjava/util/function/BiFunction;)I"⟩ ∈ lw_gd := wk_3 (i := 221) (by decide +kernel) rfl
set_option maxRecDepth 100000 in
theorem wm_812 : Cond.code ⟨"jdk/internal/util/Preconditions", "checkIndex", "(IILjava/util/function/BiFunction;)I"⟩ prog_23_method_11_code 3 (some .int) ∈ lw_gd := wk_3 (i := 222) rfl rfl
theorem wm_813 : Cond.methodLink "java/lang/String" 498 ⟨"java/lang/StringUTF16", "charAt", "([BI)C"⟩ ∈ lw_gd := wk_3 (i := 223) (by decide +kernel) rfl
theorem wm_814 : Cond.static ⟨"java/lang/StringUTF16", "charAt", "([BI)C"⟩ ∈ lw_gd := wk_3 (i := 224) (by decide +kernel) rfl
set_option maxRecDepth 100000 in
theorem wm_815 : Cond.code ⟨"java/lang/StringUTF16", "charAt", "([BI)C"⟩ prog_20_method_83_code 2 (some .char) ∈ lw_gd := wk_3 (i := 225) rfl rfl
theorem wm_816 : Cond.methodLink "java/lang/StringUTF16" 67 ⟨"java/lang/StringUTF16", "checkIndex", "(I[B)V"⟩ ∈ lw_gd := wk_3 (i := 226) (by decide +kernel) rfl
theorem wm_817 : Cond.static ⟨"java/lang/StringUTF16", "checkIndex", "(I[B)V"⟩ ∈ lw_gd := wk_3 (i := 227) (by decide +kernel) rfl
set_option maxRecDepth 100000 in
theorem wm_818 : Cond.code ⟨"java/lang/StringUTF16", "checkIndex", "(I[B)V"⟩ prog_20_method_91_code 2 none ∈ lw_gd := wk_3 (i := 228) rfl rfl
theorem wm_819 : Cond.methodLink "java/lang/StringUTF16" 48 ⟨"java/lang/StringUTF16", "length", "([B)I"⟩ ∈ lw_gd := wk_3 (i := 229) (by decide +kernel) rfl
theorem wm_820 : Cond.static ⟨"java/lang/StringUTF16", "length", "([B)I"⟩ ∈ lw_gd := wk_3 (i := 230) (by decide +kernel) rfl
set_option maxRecDepth 100000 in
theorem wm_821 : Cond.code ⟨"java/lang/StringUTF16", "length", "([B)I"⟩ prog_20_method_6_code 1 (some .int) ∈ lw_gd := wk_3 (i := 231) rfl rfl
theorem wm_822 : Cond.methodLink "java/lang/StringUTF16" 414 ⟨"java/lang/String", "checkIndex", "(II)V"⟩ ∈ lw_gd := wk_3 (i := 232) (by decide +kernel) rfl
theorem wm_823 : Cond.methodLink "java/lang/StringUTF16" 71 ⟨"java/lang/StringUTF16", "getChar", "([BI)C"⟩ ∈ lw_gd := wk_3 (i := 233) (by decide +kernel) rfl
theorem wm_824 : Cond.static ⟨"java/lang/StringUTF16", "getChar", "([BI)C"⟩ ∈ lw_gd := wk_3 (i := 234) (by decide +kernel) rfl
set_option maxRecDepth 100000 in
theorem wm_825 : Cond.code ⟨"java/lang/StringUTF16", "getChar", "([BI)C"⟩ prog_20_method_5_code 2 (some .char) ∈ lw_gd := wk_3 (i := 235) rfl rfl
theorem wm_826 : Cond.fieldLink "java/lang/StringUTF16" 44 "java/lang/StringUTF16" "$assertionsDisabled" "Z" ∈ lw_gd := wk_3 (i := 236) (by decide +kernel) rfl
theorem wm_828 : Cond.fieldLink "java/lang/StringUTF16" 59 "java/lang/StringUTF16" "HI_BYTE_SHIFT" "I" ∈ lw_gd := wk_3 (i := 238) (by decide +kernel) rfl
theorem wm_830 : Cond.fieldLink "java/lang/StringUTF16" 63 "java/lang/StringUTF16" "LO_BYTE_SHIFT" "I" ∈ lw_gd := wk_4 (i := 0) (by decide +kernel) rfl
theorem wm_832 : Cond.methodLink "WeekBoats$Parser" 100 ⟨"WeekBoats$Parser", "isSame", "(III)Z"⟩ ∈ lw_gd := wk_4 (i := 2) (by decide +kernel) rfl
theorem wm_834 : Cond.instanceMethod ⟨"WeekBoats$Parser", "isSame", "(III)Z"⟩ ∈ lw_gd := wk_4 (i := 4) (by decide +kernel) rfl
set_option maxRecDepth 100000 in
theorem wm_835 : Cond.code ⟨"WeekBoats$Parser", "isSame", "(III)Z"⟩ prog_6_method_12_code 5 (some .boolean) ∈ lw_gd := wk_4 (i := 5) rfl rfl
theorem wm_836 : Cond.methodLink "WeekBoats$Parser" 67 ⟨"WeekBoats$Parser", "add", "(II)V"⟩ ∈ lw_gd := wk_4 (i := 6) (by decide +kernel) rfl
theorem wm_838 : Cond.instanceMethod ⟨"WeekBoats$Parser", "add", "(II)V"⟩ ∈ lw_gd := wk_4 (i := 8) (by decide +kernel) rfl
set_option maxRecDepth 100000 in
theorem wm_839 : Cond.code ⟨"WeekBoats$Parser", "add", "(II)V"⟩ prog_6_method_5_code 3 none ∈ lw_gd := wk_4 (i := 9) rfl rfl
theorem wm_840 : Cond.methodLink "WeekBoats$Parser" 71 ⟨"WeekBoats$Parser", "isDigit", "(I)Z"⟩ ∈ lw_gd := wk_4 (i := 10) (by decide +kernel) rfl
theorem wm_841 : Cond.static ⟨"WeekBoats$Parser", "isDigit", "(I)Z"⟩ ∈ lw_gd := wk_4 (i := 11) (by decide +kernel) rfl
set_option maxRecDepth 100000 in
theorem wm_842 : Cond.code ⟨"WeekBoats$Parser", "isDigit", "(I)Z"⟩ prog_6_method_7_code 1 (some .boolean) ∈ lw_gd := wk_4 (i := 12) rfl rfl
theorem wm_843 : Cond.methodLink "WeekBoats$Parser" 74 ⟨"WeekBoats$Parser", "endOfDigits", "(I)I"⟩ ∈ lw_gd := wk_4 (i := 13) (by decide +kernel) rfl
theorem wm_845 : Cond.instanceMethod ⟨"WeekBoats$Parser", "endOfDigits", "(I)I"⟩ ∈ lw_gd := wk_4 (i := 15) (by decide +kernel) rfl
set_option maxRecDepth 100000 in
theorem wm_846 : Cond.code ⟨"WeekBoats$Parser", "endOfDigits", "(I)I"⟩ prog_6_method_9_code 4 (some .int) ∈ lw_gd := wk_4 (i := 16) rfl rfl
theorem wm_847 : Cond.methodLink "WeekBoats$Parser" 77 ⟨"WeekBoats$Parser", "numberOf", "(II)I"⟩ ∈ lw_gd := wk_4 (i := 17) (by decide +kernel) rfl
theorem wm_849 : Cond.instanceMethod ⟨"WeekBoats$Parser", "numberOf", "(II)I"⟩ ∈ lw_gd := wk_4 (i := 19) (by decide +kernel) rfl
set_option maxRecDepth 100000 in
theorem wm_850 : Cond.code ⟨"WeekBoats$Parser", "numberOf", "(II)I"⟩ prog_6_method_10_code 5 (some .int) ∈ lw_gd := wk_4 (i := 20) rfl rfl
theorem wm_852 : Cond.methodLink "WeekBoats$Parser" 82 ⟨"java/lang/String", "indexOf", "(I)I"⟩ ∈ lw_gd := wk_4 (i := 22) (by decide +kernel) rfl
theorem wm_853 : Cond.instanceMethod ⟨"java/lang/String", "indexOf", "(I)I"⟩ ∈ lw_gd := wk_4 (i := 23) (by decide +kernel) rfl
theorem wm_854 : Cond.selects "java/lang/String" ⟨"java/lang/String", "indexOf", "(I)I"⟩ ⟨"java/lang/String", "indexOf", "(I)I"⟩ ∈ lw_gd := wk_4 (i := 24) (by decide +kernel) rfl
set_option maxRecDepth 100000 in
theorem wm_855 : Cond.code ⟨"java/lang/String", "indexOf", "(I)I"⟩ prog_18_method_79_code 2 (some .int) ∈ lw_gd := wk_4 (i := 25) rfl rfl
theorem wm_856 : Cond.methodLink "java/lang/String" 633 ⟨"java/lang/String", "indexOf", "(II)I"⟩ ∈ lw_gd := wk_4 (i := 26) (by decide +kernel) rfl
theorem wm_857 : Cond.instanceMethod ⟨"java/lang/String", "indexOf", "(II)I"⟩ ∈ lw_gd := wk_4 (i := 27) (by decide +kernel) rfl
theorem wm_858 : Cond.selects "java/lang/String" ⟨"java/lang/String", "indexOf", "(II)I"⟩ ⟨"java/lang/String", "indexOf", "(II)I"⟩ ∈ lw_gd := wk_4 (i := 28) (by decide +kernel) rfl
set_option maxRecDepth 100000 in
theorem wm_859 : Cond.code ⟨"java/lang/String", "indexOf", "(II)I"⟩ prog_18_method_80_code 3 (some .int) ∈ lw_gd := wk_4 (i := 29) rfl rfl
theorem wm_860 : Cond.methodLink "java/lang/String" 505 ⟨"java/lang/String", "length", "()I"⟩ ∈ lw_gd := wk_4 (i := 30) (by decide +kernel) rfl
theorem wm_861 : Cond.methodLink "java/lang/String" 637 ⟨"java/lang/StringLatin1", "indexOf", "([BIII)I"⟩ ∈ lw_gd := wk_4 (i := 31) (by decide +kernel) rfl
theorem wm_862 : Cond.static ⟨"java/lang/StringLatin1", "indexOf", "([BIII)I"⟩ ∈ lw_gd := wk_4 (i := 32) (by decide +kernel) rfl
set_option maxRecDepth 100000 in
theorem wm_863 : Cond.code ⟨"java/lang/StringLatin1", "indexOf", "([BIII)I"⟩ prog_19_method_22_code 4 (some .int) ∈ lw_gd := wk_4 (i := 33) rfl rfl
theorem wm_864 : Cond.methodLink "java/lang/StringLatin1" 88 ⟨"java/lang/StringLatin1", "canEncode", "(I)Z"⟩ ∈ lw_gd := wk_4 (i := 34) (by decide +kernel) rfl
theorem wm_865 : Cond.static ⟨"java/lang/StringLatin1", "canEncode", "(I)Z"⟩ ∈ lw_gd := wk_4 (i := 35) (by decide +kernel) rfl
set_option maxRecDepth 100000 in
theorem wm_866 : Cond.code ⟨"java/lang/StringLatin1", "canEncode", "(I)Z"⟩ prog_19_method_4_code 1 (some .boolean) ∈ lw_gd := wk_4 (i := 36) rfl rfl
theorem wm_867 : Cond.methodLink "java/lang/StringLatin1" 92 ⟨"java/lang/Math", "max", "(II)I"⟩ ∈ lw_gd := wk_4 (i := 37) (by decide +kernel) rfl
theorem wm_868 : Cond.static ⟨"java/lang/Math", "max", "(II)I"⟩ ∈ lw_gd := wk_4 (i := 38) (by decide +kernel) rfl
set_option maxRecDepth 100000 in
theorem wm_869 : Cond.code ⟨"java/lang/Math", "max", "(II)I"⟩ prog_17_method_65_code 2 (some .int) ∈ lw_gd := wk_4 (i := 39) rfl rfl
theorem wm_870 : Cond.methodLink "java/lang/StringLatin1" 38 ⟨"java/lang/Math", "min", "(II)I"⟩ ∈ lw_gd := wk_4 (i := 40) (by decide +kernel) rfl
theorem wm_871 : Cond.static ⟨"java/lang/Math", "min", "(II)I"⟩ ∈ lw_gd := wk_4 (i := 41) (by decide +kernel) rfl
set_option maxRecDepth 100000 in
theorem wm_872 : Cond.code ⟨"java/lang/Math", "min", "(II)I"⟩ prog_17_method_69_code 2 (some .int) ∈ lw_gd := wk_4 (i := 42) rfl rfl
theorem wm_873 : Cond.methodLink "java/lang/StringLatin1" 95 ⟨"java/lang/StringLatin1", "indexOfChar", "([BIII)I"⟩ ∈ lw_gd := wk_4 (i := 43) (by decide +kernel) rfl
theorem wm_874 : Cond.static ⟨"java/lang/StringLatin1", "indexOfChar", "([BIII)I"⟩ ∈ lw_gd := wk_4 (i := 44) (by decide +kernel) rfl
set_option maxRecDepth 100000 in
theorem wm_875 : Cond.code ⟨"java/lang/StringLatin1", "indexOfChar", "([BIII)I"⟩ prog_19_method_23_code 6 (some .int) ∈ lw_gd := wk_4 (i := 45) rfl rfl
theorem wm_876 : Cond.methodLink "java/lang/String" 640 ⟨"java/lang/StringUTF16", "indexOf", "([BIII)I"⟩ ∈ lw_gd := wk_4 (i := 46) (by decide +kernel) rfl
theorem wm_877 : Cond.static ⟨"java/lang/StringUTF16", "indexOf", "([BIII)I"⟩ ∈ lw_gd := wk_4 (i := 47) (by decide +kernel) rfl
set_option maxRecDepth 100000 in
theorem wm_878 : Cond.code ⟨"java/lang/StringUTF16", "indexOf", "([BIII)I"⟩ prog_20_method_40_code 4 (some .int) ∈ lw_gd := wk_4 (i := 48) rfl rfl
theorem wm_879 : Cond.methodLink "java/lang/StringUTF16" 224 ⟨"java/lang/Math", "max", "(II)I"⟩ ∈ lw_gd := wk_4 (i := 49) (by decide +kernel) rfl
theorem wm_880 : Cond.methodLink "java/lang/StringUTF16" 183 ⟨"java/lang/Math", "min", "(II)I"⟩ ∈ lw_gd := wk_4 (i := 50) (by decide +kernel) rfl
theorem wm_881 : Cond.constant "java/lang/StringUTF16" 227 65536 ∈ lw_gd := wk_4 (i := 51) (by decide +kernel) rfl
theorem wm_882 : Cond.methodLink "java/lang/StringUTF16" 228 ⟨"java/lang/StringUTF16", "indexOfChar", "([BIII)I"⟩ ∈ lw_gd := wk_4 (i := 52) (by decide +kernel) rfl
theorem wm_883 : Cond.static ⟨"java/lang/StringUTF16", "indexOfChar", "([BIII)I"⟩ ∈ lw_gd := wk_4 (i := 53) (by decide +kernel) rfl
set_option maxRecDepth 100000 in
theorem wm_884 : Cond.code ⟨"java/lang/StringUTF16", "indexOfChar", "([BIII)I"⟩ prog_20_method_47_code 4 (some .int) ∈ lw_gd := wk_4 (i := 54) rfl rfl
theorem wm_885 : Cond.methodLink "java/lang/StringUTF16" 96 ⟨"java/lang/StringUTF16", "checkBoundsBeginEnd", "(II[B)V"⟩ ∈ lw_gd := wk_4 (i := 55) (by decide +kernel) rfl
theorem wm_886 : Cond.static ⟨"java/lang/StringUTF16", "checkBoundsBeginEnd", "(II[B)V"⟩ ∈ lw_gd := wk_4 (i := 56) (by decide +kernel) rfl
set_option maxRecDepth 100000 in
theorem wm_887 : Cond.code ⟨"java/lang/StringUTF16", "checkBoundsBeginEnd", "(II[B)V"⟩ prog_20_method_93_code 3 none ∈ lw_gd := wk_4 (i := 57) rfl rfl
theorem wm_888 : Cond.methodLink "java/lang/StringUTF16" 241 ⟨"java/lang/String", "checkBoundsBeginEnd", "(III)V"⟩ ∈ lw_gd := wk_4 (i := 58) (by decide +kernel) rfl
theorem wm_889 : Cond.static ⟨"java/lang/String", "checkBoundsBeginEnd", "(III)V"⟩ ∈ lw_gd := wk_4 (i := 59) (by decide +kernel) rfl
set_option maxRecDepth 100000 in
theorem wm_890 : Cond.code ⟨"java/lang/String", "checkBoundsBeginEnd", "(III)V"⟩ prog_18_method_158_code 3 none ∈ lw_gd := wk_4 (i := 60) rfl rfl
theorem wm_891 : Cond.methodLink "java/lang/String" 1062 ⟨"jdk/internal/util/Preconditions", "checkFromToIndex", "(IIILjava/util/function/BiFunction;)I"⟩ ∈ lw_gd := wk_4 (i := 61) (by decide +kernel) rfl
theorem wm_892 : Cond.static ⟨"jdk/internal/util/Preconditions", "checkFromToIndex", "(IIILjava/util/function/BiFunction;)I"⟩ ∈ lw_gd := wk_4 (i := 62) (by decide +kernel) rfl
set_option maxRecDepth 100000 in
theorem wm_893 : Cond.code ⟨"jdk/internal/util/Preconditions", "checkFromToIndex", "(IIILjava/util/function/BiFunction;)I"⟩ prog_23_method_12_code 4 (some .int) ∈ lw_gd := wk_4 (i := 63) rfl rfl
theorem wm_894 : Cond.methodLink "java/lang/StringUTF16" 244 ⟨"java/lang/StringUTF16", "indexOfCharUnsafe", "([BIII)I"⟩ ∈ lw_gd := wk_4 (i := 64) (by decide +kernel) rfl
theorem wm_895 : Cond.static ⟨"java/lang/StringUTF16", "indexOfCharUnsafe", "([BIII)I"⟩ ∈ lw_gd := wk_4 (i := 65) (by decide +kernel) rfl
set_option maxRecDepth 100000 in
theorem wm_896 : Cond.code ⟨"java/lang/StringUTF16", "indexOfCharUnsafe", "([BIII)I"⟩ prog_20_method_48_code 5 (some .int) ∈ lw_gd := wk_4 (i := 66) rfl rfl
theorem wm_897 : Cond.methodLink "java/lang/StringUTF16" 232 ⟨"java/lang/StringUTF16", "indexOfSupplementary", "([BIII)I"⟩ ∈ lw_gd := wk_4 (i := 67) (by decide +kernel) rfl
theorem wm_898 : Cond.static ⟨"java/lang/StringUTF16", "indexOfSupplementary", "([BIII)I"⟩ ∈ lw_gd := wk_4 (i := 68) (by decide +kernel) rfl
set_option maxRecDepth 100000 in
theorem wm_899 : Cond.code ⟨"java/lang/StringUTF16", "indexOfSupplementary", "([BIII)I"⟩ prog_20_method_49_code 7 (some .int) ∈ lw_gd := wk_4 (i := 69) rfl rfl
theorem wm_900 : Cond.methodLink "java/lang/StringUTF16" 164 ⟨"java/lang/Character", "isValidCodePoint", "(I)Z"⟩ ∈ lw_gd := wk_4 (i := 70) (by decide +kernel) rfl
theorem wm_901 : Cond.static ⟨"java/lang/Character", "isValidCodePoint", "(I)Z"⟩ ∈ lw_gd := wk_4 (i := 71) (by decide +kernel) rfl
set_option maxRecDepth 100000 in
theorem wm_902 : Cond.code ⟨"java/lang/Character", "isValidCodePoint", "(I)Z"⟩ prog_15_method_11_code 2 (some .boolean) ∈ lw_gd := wk_4 (i := 72) rfl rfl
theorem wm_903 : Cond.methodLink "java/lang/StringUTF16" 157 ⟨"java/lang/Character", "highSurrogate", "(I)C"⟩ ∈ lw_gd := wk_4 (i := 73) (by decide +kernel) rfl
theorem wm_904 : Cond.static ⟨"java/lang/Character", "highSurrogate", "(I)C"⟩ ∈ lw_gd := wk_4 (i := 74) (by decide +kernel) rfl
set_option maxRecDepth 100000 in
theorem wm_905 : Cond.code ⟨"java/lang/Character", "highSurrogate", "(I)C"⟩ prog_15_method_28_code 1 (some .char) ∈ lw_gd := wk_4 (i := 75) rfl rfl
theorem wm_906 : Cond.constant "java/lang/Character" 110 55232 ∈ lw_gd := wk_4 (i := 76) (by decide +kernel) rfl
theorem wm_907 : Cond.methodLink "java/lang/StringUTF16" 161 ⟨"java/lang/Character", "lowSurrogate", "(I)C"⟩ ∈ lw_gd := wk_4 (i := 77) (by decide +kernel) rfl
theorem wm_908 : Cond.static ⟨"java/lang/Character", "lowSurrogate", "(I)C"⟩ ∈ lw_gd := wk_4 (i := 78) (by decide +kernel) rfl
set_option maxRecDepth 100000 in
theorem wm_909 : Cond.code ⟨"java/lang/Character", "lowSurrogate", "(I)C"⟩ prog_15_method_29_code 1 (some .char) ∈ lw_gd := wk_4 (i := 79) rfl rfl
theorem wm_910 : Cond.constant "java/lang/Character" 76 56320 ∈ lw_gd := wk_4 (i := 80) (by decide +kernel) rfl
theorem wm_911 : Cond.methodLink "WeekBoats$Parser" 46 ⟨"WeekBoats$Parser", "readLine", "()V"⟩ ∈ lw_gd := wk_4 (i := 81) (by decide +kernel) rfl
theorem wm_913 : Cond.instanceMethod ⟨"WeekBoats$Parser", "readLine", "()V"⟩ ∈ lw_gd := wk_4 (i := 83) (by decide +kernel) rfl
set_option maxRecDepth 100000 in
theorem wm_914 : Cond.code ⟨"WeekBoats$Parser", "readLine", "()V"⟩ prog_6_method_16_code 3 none ∈ lw_gd := wk_4 (i := 84) rfl rfl
theorem wm_915 : Cond.methodLink "WeekBoats$Parser" 103 ⟨"WeekBoats$Parser", "fail", "(I)V"⟩ ∈ lw_gd := wk_4 (i := 85) (by decide +kernel) rfl
theorem wm_917 : Cond.instanceMethod ⟨"WeekBoats$Parser", "fail", "(I)V"⟩ ∈ lw_gd := wk_4 (i := 87) (by decide +kernel) rfl
set_option maxRecDepth 100000 in
theorem wm_918 : Cond.code ⟨"WeekBoats$Parser", "fail", "(I)V"⟩ prog_6_method_13_code 2 none ∈ lw_gd := wk_4 (i := 88) rfl rfl
theorem wm_919 : Cond.methodLink "WeekBoats$Parser" 107 ⟨"WeekBoats$Parser", "goOn", "()V"⟩ ∈ lw_gd := wk_4 (i := 89) (by decide +kernel) rfl
theorem wm_921 : Cond.instanceMethod ⟨"WeekBoats$Parser", "goOn", "()V"⟩ ∈ lw_gd := wk_4 (i := 91) (by decide +kernel) rfl
set_option maxRecDepth 100000 in
theorem wm_922 : Cond.code ⟨"WeekBoats$Parser", "goOn", "()V"⟩ prog_6_method_15_code 1 none ∈ lw_gd := wk_4 (i := 92) rfl rfl
theorem wm_923 : Cond.methodLink "WeekBoats$Parser" 119 ⟨"WeekBoats$Parser", "readTunnel", "()V"⟩ ∈ lw_gd := wk_4 (i := 93) (by decide +kernel) rfl
theorem wm_925 : Cond.instanceMethod ⟨"WeekBoats$Parser", "readTunnel", "()V"⟩ ∈ lw_gd := wk_4 (i := 95) (by decide +kernel) rfl
set_option maxRecDepth 100000 in
theorem wm_926 : Cond.code ⟨"WeekBoats$Parser", "readTunnel", "()V"⟩ prog_6_method_17_code 3 none ∈ lw_gd := wk_4 (i := 96) rfl rfl
theorem wm_927 : Cond.methodLink "WeekBoats$Parser" 125 ⟨"WeekBoats$Parser", "numberUpTo", "(I)I"⟩ ∈ lw_gd := wk_4 (i := 97) (by decide +kernel) rfl
theorem wm_929 : Cond.instanceMethod ⟨"WeekBoats$Parser", "numberUpTo", "(I)I"⟩ ∈ lw_gd := wk_4 (i := 99) (by decide +kernel) rfl
set_option maxRecDepth 100000 in
theorem wm_930 : Cond.code ⟨"WeekBoats$Parser", "numberUpTo", "(I)I"⟩ prog_6_method_18_code 3 (some .int) ∈ lw_gd := wk_4 (i := 100) rfl rfl
theorem wm_931 : Cond.methodLink "WeekBoats$Parser" 137 ⟨"WeekBoats$Parser", "is", "(I)Z"⟩ ∈ lw_gd := wk_4 (i := 101) (by decide +kernel) rfl
theorem wm_933 : Cond.instanceMethod ⟨"WeekBoats$Parser", "is", "(I)Z"⟩ ∈ lw_gd := wk_4 (i := 103) (by decide +kernel) rfl
set_option maxRecDepth 100000 in
theorem wm_934 : Cond.code ⟨"WeekBoats$Parser", "is", "(I)Z"⟩ prog_6_method_14_code 2 (some .boolean) ∈ lw_gd := wk_4 (i := 104) rfl rfl
theorem wm_935 : Cond.methodLink "WeekBoats$Parser" 149 ⟨"WeekBoats$Rules", "hasTunnel", "(I)Z"⟩ ∈ lw_gd := wk_4 (i := 105) (by decide +kernel) rfl
theorem wm_936 : Cond.instanceMethod ⟨"WeekBoats$Rules", "hasTunnel", "(I)Z"⟩ ∈ lw_gd := wk_4 (i := 106) (by decide +kernel) rfl
theorem wm_937 : Cond.selects "WeekBoats$Rules" ⟨"WeekBoats$Rules", "hasTunnel", "(I)Z"⟩ ⟨"WeekBoats$Rules", "hasTunnel", "(I)Z"⟩ ∈ lw_gd := wk_4 (i := 107) (by decide +kernel) rfl
set_option maxRecDepth 100000 in
theorem wm_938 : Cond.code ⟨"WeekBoats$Rules", "hasTunnel", "(I)Z"⟩ prog_8_method_5_code 2 (some .boolean) ∈ lw_gd := wk_4 (i := 108) rfl rfl
theorem wm_939 : Cond.methodLink "WeekBoats$Parser" 131 ⟨"WeekBoats$Parser", "readSum", "()V"⟩ ∈ lw_gd := wk_4 (i := 109) (by decide +kernel) rfl
theorem wm_941 : Cond.instanceMethod ⟨"WeekBoats$Parser", "readSum", "()V"⟩ ∈ lw_gd := wk_4 (i := 111) (by decide +kernel) rfl
set_option maxRecDepth 100000 in
theorem wm_942 : Cond.code ⟨"WeekBoats$Parser", "readSum", "()V"⟩ prog_6_method_25_code 3 none ∈ lw_gd := wk_4 (i := 112) rfl rfl
theorem wm_943 : Cond.methodLink "WeekBoats$Parser" 176 ⟨"WeekBoats$Parser", "readProduct", "()V"⟩ ∈ lw_gd := wk_4 (i := 113) (by decide +kernel) rfl
theorem wm_945 : Cond.instanceMethod ⟨"WeekBoats$Parser", "readProduct", "()V"⟩ ∈ lw_gd := wk_4 (i := 115) (by decide +kernel) rfl
set_option maxRecDepth 100000 in
theorem wm_946 : Cond.code ⟨"WeekBoats$Parser", "readProduct", "()V"⟩ prog_6_method_26_code 3 none ∈ lw_gd := wk_4 (i := 116) rfl rfl
theorem wm_947 : Cond.methodLink "WeekBoats$Parser" 179 ⟨"WeekBoats$Parser", "readUnit", "()V"⟩ ∈ lw_gd := wk_4 (i := 117) (by decide +kernel) rfl
theorem wm_949 : Cond.instanceMethod ⟨"WeekBoats$Parser", "readUnit", "()V"⟩ ∈ lw_gd := wk_4 (i := 119) (by decide +kernel) rfl
set_option maxRecDepth 100000 in
theorem wm_950 : Cond.code ⟨"WeekBoats$Parser", "readUnit", "()V"⟩ prog_6_method_27_code 2 none ∈ lw_gd := wk_4 (i := 120) rfl rfl
theorem wm_951 : Cond.methodLink "WeekBoats$Parser" 164 ⟨"WeekBoats$Rules", "put", "(II)V"⟩ ∈ lw_gd := wk_4 (i := 121) (by decide +kernel) rfl
theorem wm_952 : Cond.instanceMethod ⟨"WeekBoats$Rules", "put", "(II)V"⟩ ∈ lw_gd := wk_4 (i := 122) (by decide +kernel) rfl
theorem wm_953 : Cond.selects "WeekBoats$Rules" ⟨"WeekBoats$Rules", "put", "(II)V"⟩ ⟨"WeekBoats$Rules", "put", "(II)V"⟩ ∈ lw_gd := wk_4 (i := 123) (by decide +kernel) rfl
set_option maxRecDepth 100000 in
theorem wm_954 : Cond.code ⟨"WeekBoats$Rules", "put", "(II)V"⟩ prog_8_method_4_code 3 none ∈ lw_gd := wk_4 (i := 124) rfl rfl
theorem wm_955 : Cond.methodLink "WeekBoats$Parser" 182 ⟨"WeekBoats$Parser", "readPart", "()V"⟩ ∈ lw_gd := wk_4 (i := 125) (by decide +kernel) rfl
theorem wm_957 : Cond.instanceMethod ⟨"WeekBoats$Parser", "readPart", "()V"⟩ ∈ lw_gd := wk_4 (i := 127) (by decide +kernel) rfl
set_option maxRecDepth 100000 in
theorem wm_958 : Cond.code ⟨"WeekBoats$Parser", "readPart", "()V"⟩ prog_6_method_28_code 2 none ∈ lw_gd := wk_4 (i := 128) rfl rfl
theorem wm_959 : Cond.methodLink "WeekBoats$Parser" 140 ⟨"WeekBoats$Parser", "readEither", "(I)V"⟩ ∈ lw_gd := wk_4 (i := 129) (by decide +kernel) rfl
theorem wm_961 : Cond.instanceMethod ⟨"WeekBoats$Parser", "readEither", "(I)V"⟩ ∈ lw_gd := wk_4 (i := 131) (by decide +kernel) rfl
set_option maxRecDepth 100000 in
theorem wm_962 : Cond.code ⟨"WeekBoats$Parser", "readEither", "(I)V"⟩ prog_6_method_20_code 3 none ∈ lw_gd := wk_4 (i := 132) rfl rfl
theorem wm_963 : Cond.methodLink "WeekBoats$Parser" 161 ⟨"WeekBoats$Parser", "readAll", "(I)V"⟩ ∈ lw_gd := wk_4 (i := 133) (by decide +kernel) rfl
theorem wm_965 : Cond.instanceMethod ⟨"WeekBoats$Parser", "readAll", "(I)V"⟩ ∈ lw_gd := wk_4 (i := 135) (by decide +kernel) rfl
set_option maxRecDepth 100000 in
theorem wm_966 : Cond.code ⟨"WeekBoats$Parser", "readAll", "(I)V"⟩ prog_6_method_21_code 3 none ∈ lw_gd := wk_4 (i := 136) rfl rfl
theorem wm_967 : Cond.methodLink "WeekBoats$Parser" 167 ⟨"WeekBoats$Parser", "readOne", "(I)V"⟩ ∈ lw_gd := wk_4 (i := 137) (by decide +kernel) rfl
theorem wm_969 : Cond.instanceMethod ⟨"WeekBoats$Parser", "readOne", "(I)V"⟩ ∈ lw_gd := wk_4 (i := 139) (by decide +kernel) rfl
set_option maxRecDepth 100000 in
theorem wm_970 : Cond.code ⟨"WeekBoats$Parser", "readOne", "(I)V"⟩ prog_6_method_22_code 4 none ∈ lw_gd := wk_4 (i := 140) rfl rfl
theorem wm_971 : Cond.methodLink "WeekBoats$Parser" 170 ⟨"WeekBoats$Parser", "openOneMore", "(I)V"⟩ ∈ lw_gd := wk_4 (i := 141) (by decide +kernel) rfl
theorem wm_973 : Cond.instanceMethod ⟨"WeekBoats$Parser", "openOneMore", "(I)V"⟩ ∈ lw_gd := wk_4 (i := 143) (by decide +kernel) rfl
set_option maxRecDepth 100000 in
theorem wm_974 : Cond.code ⟨"WeekBoats$Parser", "openOneMore", "(I)V"⟩ prog_6_method_23_code 2 none ∈ lw_gd := wk_4 (i := 144) rfl rfl
theorem wm_975 : Cond.methodLink "WeekBoats$Parser" 146 ⟨"WeekBoats$Parser", "demand", "(I)V"⟩ ∈ lw_gd := wk_4 (i := 145) (by decide +kernel) rfl
theorem wm_977 : Cond.instanceMethod ⟨"WeekBoats$Parser", "demand", "(I)V"⟩ ∈ lw_gd := wk_4 (i := 147) (by decide +kernel) rfl
set_option maxRecDepth 100000 in
theorem wm_978 : Cond.code ⟨"WeekBoats$Parser", "demand", "(I)V"⟩ prog_6_method_19_code 2 none ∈ lw_gd := wk_4 (i := 148) rfl rfl
theorem wm_979 : Cond.methodLink "WeekBoats$Parser" 173 ⟨"WeekBoats$Parser", "demandComparing", "()V"⟩ ∈ lw_gd := wk_4 (i := 149) (by decide +kernel) rfl
theorem wm_981 : Cond.instanceMethod ⟨"WeekBoats$Parser", "demandComparing", "()V"⟩ ∈ lw_gd := wk_4 (i := 151) (by decide +kernel) rfl
set_option maxRecDepth 100000 in
theorem wm_982 : Cond.code ⟨"WeekBoats$Parser", "demandComparing", "()V"⟩ prog_6_method_24_code 1 none ∈ lw_gd := wk_4 (i := 152) rfl rfl
theorem wm_983 : Cond.methodLink "WeekBoats" 161 ⟨"WeekBoats$Rules", "takeOver", "(LWeekBoats$Rules;)V"⟩ ∈ lw_gd := wk_4 (i := 153) (by decide +kernel) rfl
theorem wm_984 : Cond.instanceMethod ⟨"WeekBoats$Rules", "takeOver", "(LWeekBoats$Rules;)V"⟩ ∈ lw_gd := wk_4 (i := 154) (by decide +kernel) rfl
theorem wm_985 : Cond.selects "WeekBoats$Rules" ⟨"WeekBoats$Rules", "takeOver", "(LWeekBoats$Rules;)V"⟩ ⟨"WeekBoats$Rules", "takeOver", "(LWeekBoats$Rules;)V"⟩ ∈ lw_gd := wk_4 (i := 155) (by decide +kernel) rfl
set_option maxRecDepth 100000 in
theorem wm_986 : Cond.code ⟨"WeekBoats$Rules", "takeOver", "(LWeekBoats$Rules;)V"⟩ prog_8_method_3_code 2 none ∈ lw_gd := wk_4 (i := 156) rfl rfl
theorem wm_987 : Cond.methodLink "WeekBoats$Rules" 64 ⟨"java/lang/System", "arraycopy", "(Ljava/lang/Object;ILjava/lang/Object;II)V"⟩ ∈ lw_gd := wk_4 (i := 157) (by decide +kernel) rfl
theorem wm_988 : Cond.static ⟨"java/lang/System", "arraycopy", "(Ljava/lang/Object;ILjava/lang/Object;II)V"⟩ ∈ lw_gd := wk_4 (i := 158) (by decide +kernel) rfl
theorem wm_989 : Cond.native ⟨"java/lang/System", "arraycopy", "(Ljava/lang/Object;ILjava/lang/Object;II)V"⟩ ∈ lw_gd := wk_4 (i := 159) (by decide +kernel) rfl
theorem wm_991 : Cond.methodLink "WeekBoatsLaw" 47 ⟨"WeekBoats", "fault", "(I)I"⟩ ∈ lw_gd := wk_4 (i := 161) (by decide +kernel) rfl
theorem wm_992 : Cond.instanceMethod ⟨"WeekBoats", "fault", "(I)I"⟩ ∈ lw_gd := wk_4 (i := 162) (by decide +kernel) rfl
theorem wm_993 : Cond.selects "WeekBoats" ⟨"WeekBoats", "fault", "(I)I"⟩ ⟨"WeekBoats", "fault", "(I)I"⟩ ∈ lw_gd := wk_4 (i := 163) (by decide +kernel) rfl
set_option maxRecDepth 100000 in
theorem wm_994 : Cond.code ⟨"WeekBoats", "fault", "(I)I"⟩ prog_1_method_16_code 2 (some .int) ∈ lw_gd := wk_4 (i := 164) rfl rfl
theorem wm_995 : Cond.methodLink "WeekBoatsLaw" 52 ⟨"WeekBoats", "open", "(II)I"⟩ ∈ lw_gd := wk_4 (i := 165) (by decide +kernel) rfl
theorem wm_996 : Cond.instanceMethod ⟨"WeekBoats", "open", "(II)I"⟩ ∈ lw_gd := wk_4 (i := 166) (by decide +kernel) rfl
theorem wm_997 : Cond.selects "WeekBoats" ⟨"WeekBoats", "open", "(II)I"⟩ ⟨"WeekBoats", "open", "(II)I"⟩ ∈ lw_gd := wk_4 (i := 167) (by decide +kernel) rfl
set_option maxRecDepth 100000 in
theorem wm_998 : Cond.code ⟨"WeekBoats", "open", "(II)I"⟩ prog_1_method_17_code 3 (some .int) ∈ lw_gd := wk_4 (i := 168) rfl rfl
theorem wm_999 : Cond.methodLink "WeekBoatsLaw" 57 ⟨"WeekBoats", "comes", "(IIII)I"⟩ ∈ lw_gd := wk_4 (i := 169) (by decide +kernel) rfl
theorem wm_1000 : Cond.instanceMethod ⟨"WeekBoats", "comes", "(IIII)I"⟩ ∈ lw_gd := wk_4 (i := 170) (by decide +kernel) rfl
theorem wm_1001 : Cond.selects "WeekBoats" ⟨"WeekBoats", "comes", "(IIII)I"⟩ ⟨"WeekBoats", "comes", "(IIII)I"⟩ ∈ lw_gd := wk_4 (i := 171) (by decide +kernel) rfl
set_option maxRecDepth 100000 in
theorem wm_1002 : Cond.code ⟨"WeekBoats", "comes", "(IIII)I"⟩ prog_1_method_18_code 5 (some .int) ∈ lw_gd := wk_4 (i := 172) rfl rfl
theorem wm_1003 : Cond.methodLink "WeekBoats" 176 ⟨"WeekBoats", "isWay", "(IIII)Z"⟩ ∈ lw_gd := wk_4 (i := 173) (by decide +kernel) rfl
theorem wm_1005 : Cond.instanceMethod ⟨"WeekBoats", "isWay", "(IIII)Z"⟩ ∈ lw_gd := wk_4 (i := 175) (by decide +kernel) rfl
set_option maxRecDepth 100000 in
theorem wm_1006 : Cond.code ⟨"WeekBoats", "isWay", "(IIII)Z"⟩ prog_1_method_8_code 5 (some .boolean) ∈ lw_gd := wk_4 (i := 176) rfl rfl
theorem wm_1007 : Cond.methodLink "WeekBoats" 107 ⟨"WeekBoats", "isBoat", "(I)Z"⟩ ∈ lw_gd := wk_4 (i := 177) (by decide +kernel) rfl
theorem wm_1009 : Cond.instanceMethod ⟨"WeekBoats", "isBoat", "(I)Z"⟩ ∈ lw_gd := wk_4 (i := 179) (by decide +kernel) rfl
set_option maxRecDepth 100000 in
theorem wm_1010 : Cond.code ⟨"WeekBoats", "isBoat", "(I)Z"⟩ prog_1_method_7_code 2 (some .boolean) ∈ lw_gd := wk_4 (i := 180) rfl rfl
theorem wm_1011 : Cond.methodLink "WeekBoats" 114 ⟨"WeekBoats", "isTime", "(I)Z"⟩ ∈ lw_gd := wk_4 (i := 181) (by decide +kernel) rfl
theorem wm_1012 : Cond.static ⟨"WeekBoats", "isTime", "(I)Z"⟩ ∈ lw_gd := wk_4 (i := 182) (by decide +kernel) rfl
set_option maxRecDepth 100000 in
theorem wm_1013 : Cond.code ⟨"WeekBoats", "isTime", "(I)Z"⟩ prog_1_method_4_code 1 (some .boolean) ∈ lw_gd := wk_4 (i := 183) rfl rfl
theorem wm_1014 : Cond.methodLink "WeekBoats" 183 ⟨"WeekBoats$Voyage", "comesTo", "(IIIIZ)I"⟩ ∈ lw_gd := wk_4 (i := 184) (by decide +kernel) rfl
theorem wm_1015 : Cond.instanceMethod ⟨"WeekBoats$Voyage", "comesTo", "(IIIIZ)I"⟩ ∈ lw_gd := wk_4 (i := 185) (by decide +kernel) rfl
theorem wm_1016 : Cond.selects "WeekBoats$Voyage" ⟨"WeekBoats$Voyage", "comesTo", "(IIIIZ)I"⟩ ⟨"WeekBoats$Voyage", "comesTo", "(IIIIZ)I"⟩ ∈ lw_gd := wk_4 (i := 186) (by decide +kernel) rfl
set_option maxRecDepth 100000 in
theorem wm_1017 : Cond.code ⟨"WeekBoats$Voyage", "comesTo", "(IIIIZ)I"⟩ prog_11_method_4_code 8 (some .int) ∈ lw_gd := wk_4 (i := 187) rfl rfl
theorem wm_1018 : Cond.methodLink "WeekBoats$Voyage" 67 ⟨"WeekBoats$Voyage", "setOut", "(IZ)V"⟩ ∈ lw_gd := wk_4 (i := 188) (by decide +kernel) rfl
theorem wm_1020 : Cond.instanceMethod ⟨"WeekBoats$Voyage", "setOut", "(IZ)V"⟩ ∈ lw_gd := wk_4 (i := 190) (by decide +kernel) rfl
set_option maxRecDepth 100000 in
theorem wm_1021 : Cond.code ⟨"WeekBoats$Voyage", "setOut", "(IZ)V"⟩ prog_11_method_3_code 3 none ∈ lw_gd := wk_4 (i := 191) rfl rfl
theorem wm_1022 : Cond.methodLink "WeekBoats$Voyage" 71 ⟨"WeekBoats$Voyage", "pass", "(IZI)I"⟩ ∈ lw_gd := wk_4 (i := 192) (by decide +kernel) rfl
theorem wm_1024 : Cond.instanceMethod ⟨"WeekBoats$Voyage", "pass", "(IZI)I"⟩ ∈ lw_gd := wk_4 (i := 194) (by decide +kernel) rfl
set_option maxRecDepth 100000 in
theorem wm_1025 : Cond.code ⟨"WeekBoats$Voyage", "pass", "(IZI)I"⟩ prog_11_method_8_code 7 (some .int) ∈ lw_gd := wk_4 (i := 195) rfl rfl
theorem wm_1026 : Cond.methodLink "WeekBoats$Voyage" 81 ⟨"WeekBoats$Rules", "isTunnel", "(I)Z"⟩ ∈ lw_gd := wk_4 (i := 196) (by decide +kernel) rfl
theorem wm_1027 : Cond.instanceMethod ⟨"WeekBoats$Rules", "isTunnel", "(I)Z"⟩ ∈ lw_gd := wk_4 (i := 197) (by decide +kernel) rfl
theorem wm_1028 : Cond.selects "WeekBoats$Rules" ⟨"WeekBoats$Rules", "isTunnel", "(I)Z"⟩ ⟨"WeekBoats$Rules", "isTunnel", "(I)Z"⟩ ∈ lw_gd := wk_4 (i := 198) (by decide +kernel) rfl
set_option maxRecDepth 100000 in
theorem wm_1029 : Cond.code ⟨"WeekBoats$Rules", "isTunnel", "(I)Z"⟩ prog_8_method_6_code 2 (some .boolean) ∈ lw_gd := wk_4 (i := 199) rfl rfl
theorem wm_1030 : Cond.methodLink "WeekBoats$Rules" 70 ⟨"WeekBoats$Rules", "hasTunnel", "(I)Z"⟩ ∈ lw_gd := wk_4 (i := 200) (by decide +kernel) rfl
theorem wm_1031 : Cond.methodLink "WeekBoats$Voyage" 85 ⟨"WeekBoats$Voyage", "step", "(IIII)I"⟩ ∈ lw_gd := wk_4 (i := 201) (by decide +kernel) rfl
theorem wm_1033 : Cond.instanceMethod ⟨"WeekBoats$Voyage", "step", "(IIII)I"⟩ ∈ lw_gd := wk_4 (i := 203) (by decide +kernel) rfl
set_option maxRecDepth 100000 in
theorem wm_1034 : Cond.code ⟨"WeekBoats$Voyage", "step", "(IIII)I"⟩ prog_11_method_9_code 6 (some .int) ∈ lw_gd := wk_4 (i := 204) rfl rfl
theorem wm_1035 : Cond.methodLink "WeekBoats$Voyage" 92 ⟨"WeekBoats$Voyage", "begins", "(III)I"⟩ ∈ lw_gd := wk_4 (i := 205) (by decide +kernel) rfl
theorem wm_1037 : Cond.instanceMethod ⟨"WeekBoats$Voyage", "begins", "(III)I"⟩ ∈ lw_gd := wk_4 (i := 207) (by decide +kernel) rfl
set_option maxRecDepth 100000 in
theorem wm_1038 : Cond.code ⟨"WeekBoats$Voyage", "begins", "(III)I"⟩ prog_11_method_10_code 8 (some .int) ∈ lw_gd := wk_4 (i := 208) rfl rfl
theorem wm_1039 : Cond.methodLink "WeekBoats$Voyage" 96 ⟨"WeekBoats$Voyage", "firstHour", "(III)I"⟩ ∈ lw_gd := wk_4 (i := 209) (by decide +kernel) rfl
theorem wm_1041 : Cond.instanceMethod ⟨"WeekBoats$Voyage", "firstHour", "(III)I"⟩ ∈ lw_gd := wk_4 (i := 211) (by decide +kernel) rfl
set_option maxRecDepth 100000 in
theorem wm_1042 : Cond.code ⟨"WeekBoats$Voyage", "firstHour", "(III)I"⟩ prog_11_method_12_code 4 (some .int) ∈ lw_gd := wk_4 (i := 212) rfl rfl
theorem wm_1043 : Cond.methodLink "WeekBoats$Voyage" 99 ⟨"java/lang/Math", "max", "(II)I"⟩ ∈ lw_gd := wk_4 (i := 213) (by decide +kernel) rfl
theorem wm_1044 : Cond.methodLink "WeekBoats$Voyage" 105 ⟨"WeekBoats$Voyage", "hourBehind", "(III)I"⟩ ∈ lw_gd := wk_4 (i := 214) (by decide +kernel) rfl
theorem wm_1046 : Cond.instanceMethod ⟨"WeekBoats$Voyage", "hourBehind", "(III)I"⟩ ∈ lw_gd := wk_4 (i := 216) (by decide +kernel) rfl
set_option maxRecDepth 100000 in
theorem wm_1047 : Cond.code ⟨"WeekBoats$Voyage", "hourBehind", "(III)I"⟩ prog_11_method_13_code 4 (some .int) ∈ lw_gd := wk_4 (i := 217) rfl rfl
theorem wm_1048 : Cond.methodLink "WeekBoats$Voyage" 108 ⟨"java/lang/Math", "min", "(II)I"⟩ ∈ lw_gd := wk_4 (i := 218) (by decide +kernel) rfl
theorem wm_1049 : Cond.methodLink "WeekBoats$Voyage" 111 ⟨"WeekBoats$Voyage", "isStopped", "(II)Z"⟩ ∈ lw_gd := wk_4 (i := 219) (by decide +kernel) rfl
theorem wm_1051 : Cond.instanceMethod ⟨"WeekBoats$Voyage", "isStopped", "(II)Z"⟩ ∈ lw_gd := wk_4 (i := 221) (by decide +kernel) rfl
set_option maxRecDepth 100000 in
theorem wm_1052 : Cond.code ⟨"WeekBoats$Voyage", "isStopped", "(II)Z"⟩ prog_11_method_11_code 3 (some .boolean) ∈ lw_gd := wk_4 (i := 222) rfl rfl
theorem wm_1053 : Cond.methodLink "WeekBoatsLaw" 61 ⟨"WeekBoats", "maybe", "(IIII)I"⟩ ∈ lw_gd := wk_4 (i := 223) (by decide +kernel) rfl
theorem wm_1054 : Cond.instanceMethod ⟨"WeekBoats", "maybe", "(IIII)I"⟩ ∈ lw_gd := wk_4 (i := 224) (by decide +kernel) rfl
theorem wm_1055 : Cond.selects "WeekBoats" ⟨"WeekBoats", "maybe", "(IIII)I"⟩ ⟨"WeekBoats", "maybe", "(IIII)I"⟩ ∈ lw_gd := wk_4 (i := 225) (by decide +kernel) rfl
set_option maxRecDepth 100000 in
theorem wm_1056 : Cond.code ⟨"WeekBoats", "maybe", "(IIII)I"⟩ prog_1_method_19_code 5 (some .int) ∈ lw_gd := wk_4 (i := 226) rfl rfl
theorem wm_1057 : Cond.methodLink "WeekBoats" 187 ⟨"WeekBoats$Voyage", "reach", "(III)V"⟩ ∈ lw_gd := wk_4 (i := 227) (by decide +kernel) rfl
theorem wm_1058 : Cond.instanceMethod ⟨"WeekBoats$Voyage", "reach", "(III)V"⟩ ∈ lw_gd := wk_4 (i := 228) (by decide +kernel) rfl
theorem wm_1059 : Cond.selects "WeekBoats$Voyage" ⟨"WeekBoats$Voyage", "reach", "(III)V"⟩ ⟨"WeekBoats$Voyage", "reach", "(III)V"⟩ ∈ lw_gd := wk_4 (i := 229) (by decide +kernel) rfl
set_option maxRecDepth 100000 in
theorem wm_1060 : Cond.code ⟨"WeekBoats$Voyage", "reach", "(III)V"⟩ prog_11_method_5_code 5 none ∈ lw_gd := wk_4 (i := 230) rfl rfl
theorem wm_1061 : Cond.methodLink "WeekBoats" 190 ⟨"WeekBoats$Voyage", "reached", "(I)I"⟩ ∈ lw_gd := wk_4 (i := 231) (by decide +kernel) rfl
theorem wm_1062 : Cond.instanceMethod ⟨"WeekBoats$Voyage", "reached", "(I)I"⟩ ∈ lw_gd := wk_4 (i := 232) (by decide +kernel) rfl
theorem wm_1063 : Cond.selects "WeekBoats$Voyage" ⟨"WeekBoats$Voyage", "reached", "(I)I"⟩ ⟨"WeekBoats$Voyage", "reached", "(I)I"⟩ ∈ lw_gd := wk_4 (i := 233) (by decide +kernel) rfl
set_option maxRecDepth 100000 in
theorem wm_1064 : Cond.code ⟨"WeekBoats$Voyage", "reached", "(I)I"⟩ prog_11_method_6_code 4 (some .int) ∈ lw_gd := wk_4 (i := 234) rfl rfl
theorem wm_1065 : Cond.methodLink "WeekBoatsLaw" 65 ⟨"WeekBoats", "harm", "(IIII)I"⟩ ∈ lw_gd := wk_4 (i := 235) (by decide +kernel) rfl
theorem wm_1066 : Cond.instanceMethod ⟨"WeekBoats", "harm", "(IIII)I"⟩ ∈ lw_gd := wk_4 (i := 236) (by decide +kernel) rfl
theorem wm_1067 : Cond.selects "WeekBoats" ⟨"WeekBoats", "harm", "(IIII)I"⟩ ⟨"WeekBoats", "harm", "(IIII)I"⟩ ∈ lw_gd := wk_4 (i := 237) (by decide +kernel) rfl
set_option maxRecDepth 100000 in
theorem wm_1068 : Cond.code ⟨"WeekBoats", "harm", "(IIII)I"⟩ prog_1_method_20_code 6 (some .int) ∈ lw_gd := wk_4 (i := 238) rfl rfl
theorem wm_1069 : Cond.methodLink "WeekBoats" 194 ⟨"WeekBoats$Boats", "harmOfLatestWay", "(I)I"⟩ ∈ lw_gd := wk_4 (i := 239) (by decide +kernel) rfl
theorem wm_1070 : Cond.instanceMethod ⟨"WeekBoats$Boats", "harmOfLatestWay", "(I)I"⟩ ∈ lw_gd := wk_5 (i := 0) (by decide +kernel) rfl
theorem wm_1071 : Cond.selects "WeekBoats$Boats" ⟨"WeekBoats$Boats", "harmOfLatestWay", "(I)I"⟩ ⟨"WeekBoats$Boats", "harmOfLatestWay", "(I)I"⟩ ∈ lw_gd := wk_5 (i := 1) (by decide +kernel) rfl
set_option maxRecDepth 100000 in
theorem wm_1072 : Cond.code ⟨"WeekBoats$Boats", "harmOfLatestWay", "(I)I"⟩ prog_2_method_11_code 4 (some .int) ∈ lw_gd := wk_5 (i := 2) rfl rfl
theorem wm_1073 : Cond.methodLink "WeekBoats$Boats" 101 ⟨"WeekBoats$Boats", "harmOfLock", "(II)I"⟩ ∈ lw_gd := wk_5 (i := 3) (by decide +kernel) rfl
theorem wm_1075 : Cond.instanceMethod ⟨"WeekBoats$Boats", "harmOfLock", "(II)I"⟩ ∈ lw_gd := wk_5 (i := 5) (by decide +kernel) rfl
set_option maxRecDepth 100000 in
theorem wm_1076 : Cond.code ⟨"WeekBoats$Boats", "harmOfLock", "(II)I"⟩ prog_2_method_12_code 4 (some .int) ∈ lw_gd := wk_5 (i := 6) rfl rfl
theorem wm_1077 : Cond.methodLink "WeekBoats$Boats" 109 ⟨"WeekBoats$Rules", "askDay", "(II)V"⟩ ∈ lw_gd := wk_5 (i := 7) (by decide +kernel) rfl
theorem wm_1078 : Cond.methodLink "WeekBoats$Boats" 118 ⟨"WeekBoats$Rules", "serving", "(I)I"⟩ ∈ lw_gd := wk_5 (i := 8) (by decide +kernel) rfl
theorem wm_1079 : Cond.methodLink "WeekBoats$Boats" 121 ⟨"WeekBoats$Rules", "valueOf", "(I)I"⟩ ∈ lw_gd := wk_5 (i := 9) (by decide +kernel) rfl
theorem wm_1080 : Cond.instanceMethod ⟨"WeekBoats$Rules", "valueOf", "(I)I"⟩ ∈ lw_gd := wk_5 (i := 10) (by decide +kernel) rfl
theorem wm_1081 : Cond.selects "WeekBoats$Rules" ⟨"WeekBoats$Rules", "valueOf", "(I)I"⟩ ⟨"WeekBoats$Rules", "valueOf", "(I)I"⟩ ∈ lw_gd := wk_5 (i := 11) (by decide +kernel) rfl
set_option maxRecDepth 100000 in
theorem wm_1082 : Cond.code ⟨"WeekBoats$Rules", "valueOf", "(I)I"⟩ prog_8_method_10_code 2 (some .int) ∈ lw_gd := wk_5 (i := 12) rfl rfl
theorem wm_1083 : Cond.methodLink "WeekBoats$Boats" 124 ⟨"java/lang/Math", "min", "(II)I"⟩ ∈ lw_gd := wk_5 (i := 13) (by decide +kernel) rfl
theorem wm_1084 : Cond.methodLink "WeekBoats$Boats" 71 ⟨"java/lang/Math", "max", "(II)I"⟩ ∈ lw_gd := wk_5 (i := 14) (by decide +kernel) rfl
theorem wm_1085 : Cond.methodLink "WeekBoatsLaw" 69 ⟨"WeekBoats", "back", "(II)I"⟩ ∈ lw_gd := wk_5 (i := 15) (by decide +kernel) rfl
theorem wm_1086 : Cond.instanceMethod ⟨"WeekBoats", "back", "(II)I"⟩ ∈ lw_gd := wk_5 (i := 16) (by decide +kernel) rfl
theorem wm_1087 : Cond.selects "WeekBoats" ⟨"WeekBoats", "back", "(II)I"⟩ ⟨"WeekBoats", "back", "(II)I"⟩ ∈ lw_gd := wk_5 (i := 17) (by decide +kernel) rfl
set_option maxRecDepth 100000 in
theorem wm_1088 : Cond.code ⟨"WeekBoats", "back", "(II)I"⟩ prog_1_method_21_code 3 (some .int) ∈ lw_gd := wk_5 (i := 18) rfl rfl
theorem wm_1089 : Cond.constant "WeekBoats" 198 (-1000000) ∈ lw_gd := wk_5 (i := 19) (by decide +kernel) rfl
theorem wm_1090 : Cond.methodLink "WeekBoats" 199 ⟨"WeekBoats$Trips", "turningBack", "(I)I"⟩ ∈ lw_gd := wk_5 (i := 20) (by decide +kernel) rfl
theorem wm_1091 : Cond.instanceMethod ⟨"WeekBoats$Trips", "turningBack", "(I)I"⟩ ∈ lw_gd := wk_5 (i := 21) (by decide +kernel) rfl
theorem wm_1092 : Cond.selects "WeekBoats$Trips" ⟨"WeekBoats$Trips", "turningBack", "(I)I"⟩ ⟨"WeekBoats$Trips", "turningBack", "(I)I"⟩ ∈ lw_gd := wk_5 (i := 22) (by decide +kernel) rfl
set_option maxRecDepth 100000 in
theorem wm_1093 : Cond.code ⟨"WeekBoats$Trips", "turningBack", "(I)I"⟩ prog_9_method_5_code 7 (some .int) ∈ lw_gd := wk_5 (i := 23) rfl rfl
theorem wm_1094 : Cond.constant "WeekBoats$Trips" 64 (-1000000) ∈ lw_gd := wk_5 (i := 24) (by decide +kernel) rfl
theorem wm_1095 : Cond.methodLink "WeekBoats$Trips" 65 ⟨"java/lang/Math", "abs", "(I)I"⟩ ∈ lw_gd := wk_5 (i := 25) (by decide +kernel) rfl
theorem wm_1096 : Cond.static ⟨"java/lang/Math", "abs", "(I)I"⟩ ∈ lw_gd := wk_5 (i := 26) (by decide +kernel) rfl
set_option maxRecDepth 100000 in
theorem wm_1097 : Cond.code ⟨"java/lang/Math", "abs", "(I)I"⟩ prog_17_method_59_code 1 (some .int) ∈ lw_gd := wk_5 (i := 27) rfl rfl
theorem wm_1098 : Cond.methodLink "WeekBoats$Trips" 69 ⟨"WeekBoats$Trips", "isBackInTime", "(II)Z"⟩ ∈ lw_gd := wk_5 (i := 28) (by decide +kernel) rfl
theorem wm_1100 : Cond.instanceMethod ⟨"WeekBoats$Trips", "isBackInTime", "(II)Z"⟩ ∈ lw_gd := wk_5 (i := 30) (by decide +kernel) rfl
set_option maxRecDepth 100000 in
theorem wm_1101 : Cond.code ⟨"WeekBoats$Trips", "isBackInTime", "(II)Z"⟩ prog_9_method_6_code 6 (some .boolean) ∈ lw_gd := wk_5 (i := 31) rfl rfl
theorem wm_1102 : Cond.methodLink "WeekBoats$Trips" 48 ⟨"WeekBoats$Voyage", "comesTo", "(IIIIZ)I"⟩ ∈ lw_gd := wk_5 (i := 32) (by decide +kernel) rfl
theorem wm_1103 : Cond.methodLink "WeekBoats" 202 ⟨"WeekBoats$Trips", "refund", "(I)I"⟩ ∈ lw_gd := wk_5 (i := 33) (by decide +kernel) rfl
theorem wm_1104 : Cond.instanceMethod ⟨"WeekBoats$Trips", "refund", "(I)I"⟩ ∈ lw_gd := wk_5 (i := 34) (by decide +kernel) rfl
theorem wm_1105 : Cond.selects "WeekBoats$Trips" ⟨"WeekBoats$Trips", "refund", "(I)I"⟩ ⟨"WeekBoats$Trips", "refund", "(I)I"⟩ ∈ lw_gd := wk_5 (i := 35) (by decide +kernel) rfl
set_option maxRecDepth 100000 in
theorem wm_1106 : Cond.code ⟨"WeekBoats$Trips", "refund", "(I)I"⟩ prog_9_method_7_code 6 (some .int) ∈ lw_gd := wk_5 (i := 36) rfl rfl
theorem wm_1107 : Cond.methodLink "WeekBoats$Trips" 60 ⟨"WeekBoats$Trips", "lateBy", "(IZ)I"⟩ ∈ lw_gd := wk_5 (i := 37) (by decide +kernel) rfl
theorem wm_1108 : Cond.instanceMethod ⟨"WeekBoats$Trips", "lateBy", "(IZ)I"⟩ ∈ lw_gd := wk_5 (i := 38) (by decide +kernel) rfl
theorem wm_1109 : Cond.selects "WeekBoats$Trips" ⟨"WeekBoats$Trips", "lateBy", "(IZ)I"⟩ ⟨"WeekBoats$Trips", "lateBy", "(IZ)I"⟩ ∈ lw_gd := wk_5 (i := 39) (by decide +kernel) rfl
set_option maxRecDepth 100000 in
theorem wm_1110 : Cond.code ⟨"WeekBoats$Trips", "lateBy", "(IZ)I"⟩ prog_9_method_3_code 4 (some .int) ∈ lw_gd := wk_5 (i := 40) rfl rfl
theorem wm_1111 : Cond.methodLink "WeekBoats$Trips" 54 ⟨"java/lang/Math", "max", "(II)I"⟩ ∈ lw_gd := wk_5 (i := 41) (by decide +kernel) rfl
theorem wm_1112 : Cond.methodLink "WeekBoats$Trips" 73 ⟨"WeekBoats$Boats", "priceLine", "(IIZ)I"⟩ ∈ lw_gd := wk_5 (i := 42) (by decide +kernel) rfl
theorem wm_1113 : Cond.instanceMethod ⟨"WeekBoats$Boats", "priceLine", "(IIZ)I"⟩ ∈ lw_gd := wk_5 (i := 43) (by decide +kernel) rfl
theorem wm_1114 : Cond.selects "WeekBoats$Boats" ⟨"WeekBoats$Boats", "priceLine", "(IIZ)I"⟩ ⟨"WeekBoats$Boats", "priceLine", "(IIZ)I"⟩ ∈ lw_gd := wk_5 (i := 44) (by decide +kernel) rfl
set_option maxRecDepth 100000 in
theorem wm_1115 : Cond.code ⟨"WeekBoats$Boats", "priceLine", "(IIZ)I"⟩ prog_2_method_13_code 4 (some .int) ∈ lw_gd := wk_5 (i := 45) rfl rfl
theorem wm_1116 : Cond.methodLink "WeekBoats$Boats" 127 ⟨"WeekBoats$Rules", "askWeek", "(I)V"⟩ ∈ lw_gd := wk_5 (i := 46) (by decide +kernel) rfl
theorem wm_1117 : Cond.instanceMethod ⟨"WeekBoats$Rules", "askWeek", "(I)V"⟩ ∈ lw_gd := wk_5 (i := 47) (by decide +kernel) rfl
theorem wm_1118 : Cond.selects "WeekBoats$Rules" ⟨"WeekBoats$Rules", "askWeek", "(I)V"⟩ ⟨"WeekBoats$Rules", "askWeek", "(I)V"⟩ ∈ lw_gd := wk_5 (i := 48) (by decide +kernel) rfl
set_option maxRecDepth 100000 in
theorem wm_1119 : Cond.code ⟨"WeekBoats$Rules", "askWeek", "(I)V"⟩ prog_8_method_8_code 2 none ∈ lw_gd := wk_5 (i := 49) rfl rfl
theorem wm_1120 : Cond.methodLink "WeekBoats$Trips" 77 ⟨"java/lang/Math", "min", "(II)I"⟩ ∈ lw_gd := wk_5 (i := 50) (by decide +kernel) rfl
theorem wm_1121 : Cond.methodLink "WeekBoats$Trips" 80 ⟨"WeekBoats$Rules", "valueOf", "(I)I"⟩ ∈ lw_gd := wk_5 (i := 51) (by decide +kernel) rfl
theorem wm_1122 : Cond.constantLong "WeekBoats$Trips" 85 7 ∈ lw_gd := wk_5 (i := 52) (by decide +kernel) rfl
theorem wm_1123 : Cond.methodLink "WeekBoatsLaw" 73 ⟨"WeekBoats", "rung", "()I"⟩ ∈ lw_gd := wk_5 (i := 53) (by decide +kernel) rfl
theorem wm_1124 : Cond.instanceMethod ⟨"WeekBoats", "rung", "()I"⟩ ∈ lw_gd := wk_5 (i := 54) (by decide +kernel) rfl
theorem wm_1125 : Cond.selects "WeekBoats" ⟨"WeekBoats", "rung", "()I"⟩ ⟨"WeekBoats", "rung", "()I"⟩ ∈ lw_gd := wk_5 (i := 55) (by decide +kernel) rfl
set_option maxRecDepth 100000 in
theorem wm_1126 : Cond.code ⟨"WeekBoats", "rung", "()I"⟩ prog_1_method_22_code 3 (some .int) ∈ lw_gd := wk_5 (i := 56) rfl rfl
theorem wm_1127 : Cond.methodLink "WeekBoats" 205 ⟨"WeekBoats$Trips", "lateBy", "(IZ)I"⟩ ∈ lw_gd := wk_5 (i := 57) (by decide +kernel) rfl
theorem wm_1128 : Cond.methodLink "WeekBoatsLaw" 77 ⟨"WeekBoats", "pump", "(IZ)Z"⟩ ∈ lw_gd := wk_5 (i := 58) (by decide +kernel) rfl
theorem wm_1129 : Cond.instanceMethod ⟨"WeekBoats", "pump", "(IZ)Z"⟩ ∈ lw_gd := wk_5 (i := 59) (by decide +kernel) rfl
theorem wm_1130 : Cond.selects "WeekBoats" ⟨"WeekBoats", "pump", "(IZ)Z"⟩ ⟨"WeekBoats", "pump", "(IZ)Z"⟩ ∈ lw_gd := wk_5 (i := 60) (by decide +kernel) rfl
set_option maxRecDepth 100000 in
theorem wm_1131 : Cond.code ⟨"WeekBoats", "pump", "(IZ)Z"⟩ prog_1_method_23_code 3 (some .boolean) ∈ lw_gd := wk_5 (i := 61) rfl rfl
theorem wm_1132 : Cond.methodLink "WeekBoats" 209 ⟨"WeekBoats$Canal", "setPump", "(IZ)V"⟩ ∈ lw_gd := wk_5 (i := 62) (by decide +kernel) rfl
theorem wm_1133 : Cond.instanceMethod ⟨"WeekBoats$Canal", "setPump", "(IZ)V"⟩ ∈ lw_gd := wk_5 (i := 63) (by decide +kernel) rfl
theorem wm_1134 : Cond.selects "WeekBoats$Canal" ⟨"WeekBoats$Canal", "setPump", "(IZ)V"⟩ ⟨"WeekBoats$Canal", "setPump", "(IZ)V"⟩ ∈ lw_gd := wk_5 (i := 64) (by decide +kernel) rfl
set_option maxRecDepth 100000 in
theorem wm_1135 : Cond.code ⟨"WeekBoats$Canal", "setPump", "(IZ)V"⟩ prog_4_method_4_code 3 none ∈ lw_gd := wk_5 (i := 65) rfl rfl
theorem wm_1136 : Cond.methodLink "WeekBoatsLaw" 82 ⟨"WeekBoats", "pumped", "(IIIII)I"⟩ ∈ lw_gd := wk_5 (i := 66) (by decide +kernel) rfl
theorem wm_1137 : Cond.instanceMethod ⟨"WeekBoats", "pumped", "(IIIII)I"⟩ ∈ lw_gd := wk_5 (i := 67) (by decide +kernel) rfl
theorem wm_1138 : Cond.selects "WeekBoats" ⟨"WeekBoats", "pumped", "(IIIII)I"⟩ ⟨"WeekBoats", "pumped", "(IIIII)I"⟩ ∈ lw_gd := wk_5 (i := 68) (by decide +kernel) rfl
set_option maxRecDepth 100000 in
theorem wm_1139 : Cond.code ⟨"WeekBoats", "pumped", "(IIIII)I"⟩ prog_1_method_24_code 8 (some .int) ∈ lw_gd := wk_5 (i := 69) rfl rfl
theorem wm_1140 : Cond.methodLink "WeekBoats" 213 ⟨"WeekBoats$Voyage", "nextPump", "()I"⟩ ∈ lw_gd := wk_5 (i := 70) (by decide +kernel) rfl
theorem wm_1141 : Cond.instanceMethod ⟨"WeekBoats$Voyage", "nextPump", "()I"⟩ ∈ lw_gd := wk_5 (i := 71) (by decide +kernel) rfl
theorem wm_1142 : Cond.selects "WeekBoats$Voyage" ⟨"WeekBoats$Voyage", "nextPump", "()I"⟩ ⟨"WeekBoats$Voyage", "nextPump", "()I"⟩ ∈ lw_gd := wk_5 (i := 72) (by decide +kernel) rfl
set_option maxRecDepth 100000 in
theorem wm_1143 : Cond.code ⟨"WeekBoats$Voyage", "nextPump", "()I"⟩ prog_11_method_7_code 4 (some .int) ∈ lw_gd := wk_5 (i := 73) rfl rfl
theorem wm_1144 : Cond.methodLink "WeekBoatsLaw" 86 ⟨"WeekBoats", "enough", "(IIIII)I"⟩ ∈ lw_gd := wk_5 (i := 74) (by decide +kernel) rfl
theorem wm_1145 : Cond.instanceMethod ⟨"WeekBoats", "enough", "(IIIII)I"⟩ ∈ lw_gd := wk_5 (i := 75) (by decide +kernel) rfl
theorem wm_1146 : Cond.selects "WeekBoats" ⟨"WeekBoats", "enough", "(IIIII)I"⟩ ⟨"WeekBoats", "enough", "(IIIII)I"⟩ ∈ lw_gd := wk_5 (i := 76) (by decide +kernel) rfl
end
