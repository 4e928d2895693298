section
set_option maxRecDepth 100000 in
theorem wm_1147 : Cond.code ⟨"WeekBoats", "enough", "(IIIII)I"⟩ prog_1_method_25_code 8 (some .int) ∈ lw_gd := wk_5 (i := 77) rfl rfl
theorem wm_1148 : Cond.methodLink "WeekBoatsLaw" 90 ⟨"WeekBoats", "trip", "(IIIII)I"⟩ ∈ lw_gd := wk_5 (i := 78) (by decide +kernel) rfl
theorem wm_1149 : Cond.instanceMethod ⟨"WeekBoats", "trip", "(IIIII)I"⟩ ∈ lw_gd := wk_5 (i := 79) (by decide +kernel) rfl
theorem wm_1150 : Cond.selects "WeekBoats" ⟨"WeekBoats", "trip", "(IIIII)I"⟩ ⟨"WeekBoats", "trip", "(IIIII)I"⟩ ∈ lw_gd := wk_5 (i := 80) (by decide +kernel) rfl
set_option maxRecDepth 100000 in
theorem wm_1151 : Cond.code ⟨"WeekBoats", "trip", "(IIIII)I"⟩ prog_1_method_26_code 6 (some .int) ∈ lw_gd := wk_5 (i := 81) rfl rfl
theorem wm_1152 : Cond.methodLink "WeekBoats" 219 ⟨"WeekBoats$Trips", "add", "(IIIII)I"⟩ ∈ lw_gd := wk_5 (i := 82) (by decide +kernel) rfl
theorem wm_1153 : Cond.instanceMethod ⟨"WeekBoats$Trips", "add", "(IIIII)I"⟩ ∈ lw_gd := wk_5 (i := 83) (by decide +kernel) rfl
theorem wm_1154 : Cond.selects "WeekBoats$Trips" ⟨"WeekBoats$Trips", "add", "(IIIII)I"⟩ ⟨"WeekBoats$Trips", "add", "(IIIII)I"⟩ ∈ lw_gd := wk_5 (i := 84) (by decide +kernel) rfl
set_option maxRecDepth 100000 in
theorem wm_1155 : Cond.code ⟨"WeekBoats$Trips", "add", "(IIIII)I"⟩ prog_9_method_2_code 6 (some .int) ∈ lw_gd := wk_5 (i := 85) rfl rfl
theorem wm_1156 : Cond.methodLink "WeekBoatsLaw" 94 ⟨"WeekBoats", "late", "(I)I"⟩ ∈ lw_gd := wk_5 (i := 86) (by decide +kernel) rfl
theorem wm_1157 : Cond.instanceMethod ⟨"WeekBoats", "late", "(I)I"⟩ ∈ lw_gd := wk_5 (i := 87) (by decide +kernel) rfl
theorem wm_1158 : Cond.selects "WeekBoats" ⟨"WeekBoats", "late", "(I)I"⟩ ⟨"WeekBoats", "late", "(I)I"⟩ ∈ lw_gd := wk_5 (i := 88) (by decide +kernel) rfl
set_option maxRecDepth 100000 in
theorem wm_1159 : Cond.code ⟨"WeekBoats", "late", "(I)I"⟩ prog_1_method_27_code 2 (some .int) ∈ lw_gd := wk_5 (i := 89) rfl rfl
theorem wm_1160 : Cond.methodLink "WeekBoats" 222 ⟨"WeekBoats$Trips", "howManyLate", "()I"⟩ ∈ lw_gd := wk_5 (i := 90) (by decide +kernel) rfl
theorem wm_1161 : Cond.instanceMethod ⟨"WeekBoats$Trips", "howManyLate", "()I"⟩ ∈ lw_gd := wk_5 (i := 91) (by decide +kernel) rfl
theorem wm_1162 : Cond.selects "WeekBoats$Trips" ⟨"WeekBoats$Trips", "howManyLate", "()I"⟩ ⟨"WeekBoats$Trips", "howManyLate", "()I"⟩ ∈ lw_gd := wk_5 (i := 92) (by decide +kernel) rfl
set_option maxRecDepth 100000 in
theorem wm_1163 : Cond.code ⟨"WeekBoats$Trips", "howManyLate", "()I"⟩ prog_9_method_4_code 3 (some .int) ∈ lw_gd := wk_5 (i := 93) rfl rfl
theorem wm_1164 : Cond.methodLink "WeekBoatsLaw" 98 ⟨"WeekBoats", "log", "(III)I"⟩ ∈ lw_gd := wk_5 (i := 94) (by decide +kernel) rfl
theorem wm_1165 : Cond.instanceMethod ⟨"WeekBoats", "log", "(III)I"⟩ ∈ lw_gd := wk_5 (i := 95) (by decide +kernel) rfl
theorem wm_1166 : Cond.selects "WeekBoats" ⟨"WeekBoats", "log", "(III)I"⟩ ⟨"WeekBoats", "log", "(III)I"⟩ ∈ lw_gd := wk_5 (i := 96) (by decide +kernel) rfl
set_option maxRecDepth 100000 in
theorem wm_1167 : Cond.code ⟨"WeekBoats", "log", "(III)I"⟩ prog_1_method_28_code 4 (some .int) ∈ lw_gd := wk_5 (i := 97) rfl rfl
theorem wm_1168 : Cond.methodLink "WeekBoats" 225 ⟨"WeekBoats$Boats", "addLog", "(III)I"⟩ ∈ lw_gd := wk_5 (i := 98) (by decide +kernel) rfl
theorem wm_1169 : Cond.instanceMethod ⟨"WeekBoats$Boats", "addLog", "(III)I"⟩ ∈ lw_gd := wk_5 (i := 99) (by decide +kernel) rfl
theorem wm_1170 : Cond.selects "WeekBoats$Boats" ⟨"WeekBoats$Boats", "addLog", "(III)I"⟩ ⟨"WeekBoats$Boats", "addLog", "(III)I"⟩ ∈ lw_gd := wk_5 (i := 100) (by decide +kernel) rfl
set_option maxRecDepth 100000 in
theorem wm_1171 : Cond.code ⟨"WeekBoats$Boats", "addLog", "(III)I"⟩ prog_2_method_3_code 5 (some .int) ∈ lw_gd := wk_5 (i := 101) rfl rfl
theorem wm_1172 : Cond.methodLink "WeekBoatsLaw" 102 ⟨"WeekBoats", "could", "(IIII)I"⟩ ∈ lw_gd := wk_5 (i := 102) (by decide +kernel) rfl
theorem wm_1173 : Cond.instanceMethod ⟨"WeekBoats", "could", "(IIII)I"⟩ ∈ lw_gd := wk_5 (i := 103) (by decide +kernel) rfl
theorem wm_1174 : Cond.selects "WeekBoats" ⟨"WeekBoats", "could", "(IIII)I"⟩ ⟨"WeekBoats", "could", "(IIII)I"⟩ ∈ lw_gd := wk_5 (i := 104) (by decide +kernel) rfl
set_option maxRecDepth 100000 in
theorem wm_1175 : Cond.code ⟨"WeekBoats", "could", "(IIII)I"⟩ prog_1_method_29_code 5 (some .int) ∈ lw_gd := wk_5 (i := 105) rfl rfl
theorem wm_1176 : Cond.methodLink "WeekBoats" 229 ⟨"WeekBoats$Boats", "canHaveBeen", "(IIII)Z"⟩ ∈ lw_gd := wk_5 (i := 106) (by decide +kernel) rfl
theorem wm_1177 : Cond.instanceMethod ⟨"WeekBoats$Boats", "canHaveBeen", "(IIII)Z"⟩ ∈ lw_gd := wk_5 (i := 107) (by decide +kernel) rfl
theorem wm_1178 : Cond.selects "WeekBoats$Boats" ⟨"WeekBoats$Boats", "canHaveBeen", "(IIII)Z"⟩ ⟨"WeekBoats$Boats", "canHaveBeen", "(IIII)Z"⟩ ∈ lw_gd := wk_5 (i := 108) (by decide +kernel) rfl
set_option maxRecDepth 100000 in
theorem wm_1179 : Cond.code ⟨"WeekBoats$Boats", "canHaveBeen", "(IIII)Z"⟩ prog_2_method_6_code 6 (some .boolean) ∈ lw_gd := wk_5 (i := 109) rfl rfl
theorem wm_1180 : Cond.methodLink "WeekBoats$Boats" 54 ⟨"WeekBoats$Boats", "canBetween", "(IIIII)Z"⟩ ∈ lw_gd := wk_5 (i := 110) (by decide +kernel) rfl
theorem wm_1182 : Cond.instanceMethod ⟨"WeekBoats$Boats", "canBetween", "(IIIII)Z"⟩ ∈ lw_gd := wk_5 (i := 112) (by decide +kernel) rfl
set_option maxRecDepth 100000 in
theorem wm_1183 : Cond.code ⟨"WeekBoats$Boats", "canBetween", "(IIIII)Z"⟩ prog_2_method_7_code 12 (some .boolean) ∈ lw_gd := wk_5 (i := 113) rfl rfl
theorem wm_1184 : Cond.methodLink "WeekBoats$Boats" 58 ⟨"WeekBoats$Boats", "placeOf", "(II)I"⟩ ∈ lw_gd := wk_5 (i := 114) (by decide +kernel) rfl
theorem wm_1186 : Cond.instanceMethod ⟨"WeekBoats$Boats", "placeOf", "(II)I"⟩ ∈ lw_gd := wk_5 (i := 116) (by decide +kernel) rfl
set_option maxRecDepth 100000 in
theorem wm_1187 : Cond.code ⟨"WeekBoats$Boats", "placeOf", "(II)I"⟩ prog_2_method_4_code 3 (some .int) ∈ lw_gd := wk_5 (i := 117) rfl rfl
theorem wm_1188 : Cond.methodLink "WeekBoats$Boats" 62 ⟨"WeekBoats$Boats", "timeOf", "(II)I"⟩ ∈ lw_gd := wk_5 (i := 118) (by decide +kernel) rfl
theorem wm_1190 : Cond.instanceMethod ⟨"WeekBoats$Boats", "timeOf", "(II)I"⟩ ∈ lw_gd := wk_5 (i := 120) (by decide +kernel) rfl
set_option maxRecDepth 100000 in
theorem wm_1191 : Cond.code ⟨"WeekBoats$Boats", "timeOf", "(II)I"⟩ prog_2_method_5_code 3 (some .int) ∈ lw_gd := wk_5 (i := 121) rfl rfl
theorem wm_1192 : Cond.methodLink "WeekBoats$Boats" 65 ⟨"WeekBoats$Voyage", "comesTo", "(IIIIZ)I"⟩ ∈ lw_gd := wk_5 (i := 122) (by decide +kernel) rfl
theorem wm_1193 : Cond.methodLink "WeekBoatsLaw" 106 ⟨"WeekBoats", "whose", "(IIII)I"⟩ ∈ lw_gd := wk_5 (i := 123) (by decide +kernel) rfl
theorem wm_1194 : Cond.instanceMethod ⟨"WeekBoats", "whose", "(IIII)I"⟩ ∈ lw_gd := wk_5 (i := 124) (by decide +kernel) rfl
theorem wm_1195 : Cond.selects "WeekBoats" ⟨"WeekBoats", "whose", "(IIII)I"⟩ ⟨"WeekBoats", "whose", "(IIII)I"⟩ ∈ lw_gd := wk_5 (i := 125) (by decide +kernel) rfl
set_option maxRecDepth 100000 in
theorem wm_1196 : Cond.code ⟨"WeekBoats", "whose", "(IIII)I"⟩ prog_1_method_30_code 8 (some .int) ∈ lw_gd := wk_5 (i := 126) rfl rfl
theorem wm_1197 : Cond.methodLink "WeekBoats" 232 ⟨"java/lang/Integer", "bitCount", "(I)I"⟩ ∈ lw_gd := wk_5 (i := 127) (by decide +kernel) rfl
theorem wm_1198 : Cond.static ⟨"java/lang/Integer", "bitCount", "(I)I"⟩ ∈ lw_gd := wk_5 (i := 128) (by decide +kernel) rfl
set_option maxRecDepth 100000 in
theorem wm_1199 : Cond.code ⟨"java/lang/Integer", "bitCount", "(I)I"⟩ prog_16_method_49_code 1 (some .int) ∈ lw_gd := wk_5 (i := 129) rfl rfl
theorem wm_1200 : Cond.constant "java/lang/Integer" 265 1431655765 ∈ lw_gd := wk_5 (i := 130) (by decide +kernel) rfl
theorem wm_1201 : Cond.constant "java/lang/Integer" 266 858993459 ∈ lw_gd := wk_5 (i := 131) (by decide +kernel) rfl
theorem wm_1202 : Cond.constant "java/lang/Integer" 267 252645135 ∈ lw_gd := wk_5 (i := 132) (by decide +kernel) rfl
theorem wm_1203 : Cond.methodLink "WeekBoatsLaw" 110 ⟨"WeekBoats", "tonight", "(II)I"⟩ ∈ lw_gd := wk_5 (i := 133) (by decide +kernel) rfl
theorem wm_1204 : Cond.instanceMethod ⟨"WeekBoats", "tonight", "(II)I"⟩ ∈ lw_gd := wk_5 (i := 134) (by decide +kernel) rfl
theorem wm_1205 : Cond.selects "WeekBoats" ⟨"WeekBoats", "tonight", "(II)I"⟩ ⟨"WeekBoats", "tonight", "(II)I"⟩ ∈ lw_gd := wk_5 (i := 135) (by decide +kernel) rfl
set_option maxRecDepth 100000 in
theorem wm_1206 : Cond.code ⟨"WeekBoats", "tonight", "(II)I"⟩ prog_1_method_31_code 4 (some .int) ∈ lw_gd := wk_5 (i := 136) rfl rfl
theorem wm_1207 : Cond.methodLink "WeekBoats" 237 ⟨"WeekBoats$Boats", "settleTonight", "(I)V"⟩ ∈ lw_gd := wk_5 (i := 137) (by decide +kernel) rfl
theorem wm_1208 : Cond.instanceMethod ⟨"WeekBoats$Boats", "settleTonight", "(I)V"⟩ ∈ lw_gd := wk_5 (i := 138) (by decide +kernel) rfl
theorem wm_1209 : Cond.selects "WeekBoats$Boats" ⟨"WeekBoats$Boats", "settleTonight", "(I)V"⟩ ⟨"WeekBoats$Boats", "settleTonight", "(I)V"⟩ ∈ lw_gd := wk_5 (i := 139) (by decide +kernel) rfl
set_option maxRecDepth 100000 in
theorem wm_1210 : Cond.code ⟨"WeekBoats$Boats", "settleTonight", "(I)V"⟩ prog_2_method_8_code 6 none ∈ lw_gd := wk_5 (i := 140) rfl rfl
theorem wm_1211 : Cond.methodLink "WeekBoats$Boats" 76 ⟨"java/util/Arrays", "fill", "([II)V"⟩ ∈ lw_gd := wk_5 (i := 141) (by decide +kernel) rfl
theorem wm_1212 : Cond.methodLink "WeekBoats$Boats" 82 ⟨"WeekBoats$Boats", "lastLog", "(II)I"⟩ ∈ lw_gd := wk_5 (i := 142) (by decide +kernel) rfl
theorem wm_1214 : Cond.instanceMethod ⟨"WeekBoats$Boats", "lastLog", "(II)I"⟩ ∈ lw_gd := wk_5 (i := 144) (by decide +kernel) rfl
set_option maxRecDepth 100000 in
theorem wm_1215 : Cond.code ⟨"WeekBoats$Boats", "lastLog", "(II)I"⟩ prog_2_method_9_code 5 (some .int) ∈ lw_gd := wk_5 (i := 145) rfl rfl
theorem wm_1216 : Cond.methodLink "WeekBoats$Boats" 85 ⟨"WeekBoats$Voyage", "reach", "(III)V"⟩ ∈ lw_gd := wk_5 (i := 146) (by decide +kernel) rfl
theorem wm_1217 : Cond.methodLink "WeekBoats$Boats" 89 ⟨"WeekBoats$Voyage", "reached", "(I)I"⟩ ∈ lw_gd := wk_5 (i := 147) (by decide +kernel) rfl
theorem wm_1218 : Cond.methodLink "WeekBoats" 243 ⟨"WeekBoats$Boats", "crowd", "()I"⟩ ∈ lw_gd := wk_5 (i := 148) (by decide +kernel) rfl
theorem wm_1219 : Cond.instanceMethod ⟨"WeekBoats$Boats", "crowd", "()I"⟩ ∈ lw_gd := wk_5 (i := 149) (by decide +kernel) rfl
theorem wm_1220 : Cond.selects "WeekBoats$Boats" ⟨"WeekBoats$Boats", "crowd", "()I"⟩ ⟨"WeekBoats$Boats", "crowd", "()I"⟩ ∈ lw_gd := wk_5 (i := 150) (by decide +kernel) rfl
set_option maxRecDepth 100000 in
theorem wm_1221 : Cond.code ⟨"WeekBoats$Boats", "crowd", "()I"⟩ prog_2_method_10_code 3 (some .int) ∈ lw_gd := wk_5 (i := 151) rfl rfl
theorem wm_1222 : Cond.methodLink "WeekBoats$Boats" 93 ⟨"java/lang/Integer", "bitCount", "(I)I"⟩ ∈ lw_gd := wk_5 (i := 152) (by decide +kernel) rfl
theorem wm_1223 : Cond.methodLink "WeekBoatsLaw" 114 ⟨"WeekBoats", "queue", "(II)I"⟩ ∈ lw_gd := wk_5 (i := 153) (by decide +kernel) rfl
theorem wm_1224 : Cond.instanceMethod ⟨"WeekBoats", "queue", "(II)I"⟩ ∈ lw_gd := wk_5 (i := 154) (by decide +kernel) rfl
theorem wm_1225 : Cond.selects "WeekBoats" ⟨"WeekBoats", "queue", "(II)I"⟩ ⟨"WeekBoats", "queue", "(II)I"⟩ ∈ lw_gd := wk_5 (i := 155) (by decide +kernel) rfl
set_option maxRecDepth 100000 in
theorem wm_1226 : Cond.code ⟨"WeekBoats", "queue", "(II)I"⟩ prog_1_method_32_code 3 (some .int) ∈ lw_gd := wk_5 (i := 156) rfl rfl
theorem wm_1227 : Cond.methodLink "WeekBoats" 246 ⟨"WeekBoats$LockQueue", "clear", "()V"⟩ ∈ lw_gd := wk_5 (i := 157) (by decide +kernel) rfl
theorem wm_1228 : Cond.instanceMethod ⟨"WeekBoats$LockQueue", "clear", "()V"⟩ ∈ lw_gd := wk_5 (i := 158) (by decide +kernel) rfl
theorem wm_1229 : Cond.selects "WeekBoats$LockQueue" ⟨"WeekBoats$LockQueue", "clear", "()V"⟩ ⟨"WeekBoats$LockQueue", "clear", "()V"⟩ ∈ lw_gd := wk_5 (i := 159) (by decide +kernel) rfl
set_option maxRecDepth 100000 in
theorem wm_1230 : Cond.code ⟨"WeekBoats$LockQueue", "clear", "()V"⟩ prog_5_method_2_code 1 none ∈ lw_gd := wk_5 (i := 160) rfl rfl
theorem wm_1231 : Cond.methodLink "WeekBoats" 249 ⟨"WeekBoats$LockQueue", "add", "(II)I"⟩ ∈ lw_gd := wk_5 (i := 161) (by decide +kernel) rfl
theorem wm_1232 : Cond.instanceMethod ⟨"WeekBoats$LockQueue", "add", "(II)I"⟩ ∈ lw_gd := wk_5 (i := 162) (by decide +kernel) rfl
theorem wm_1233 : Cond.selects "WeekBoats$LockQueue" ⟨"WeekBoats$LockQueue", "add", "(II)I"⟩ ⟨"WeekBoats$LockQueue", "add", "(II)I"⟩ ∈ lw_gd := wk_5 (i := 163) (by decide +kernel) rfl
set_option maxRecDepth 100000 in
theorem wm_1234 : Cond.code ⟨"WeekBoats$LockQueue", "add", "(II)I"⟩ prog_5_method_3_code 3 (some .int) ∈ lw_gd := wk_5 (i := 164) rfl rfl
theorem wm_1235 : Cond.methodLink "WeekBoats$LockQueue" 34 ⟨"WeekBoats$LockQueue", "findBest", "()V"⟩ ∈ lw_gd := wk_5 (i := 165) (by decide +kernel) rfl
theorem wm_1237 : Cond.instanceMethod ⟨"WeekBoats$LockQueue", "findBest", "()V"⟩ ∈ lw_gd := wk_5 (i := 167) (by decide +kernel) rfl
set_option maxRecDepth 100000 in
theorem wm_1238 : Cond.code ⟨"WeekBoats$LockQueue", "findBest", "()V"⟩ prog_5_method_4_code 2 none ∈ lw_gd := wk_5 (i := 168) rfl rfl
theorem wm_1239 : Cond.methodLink "WeekBoats$LockQueue" 37 ⟨"WeekBoats$LockQueue", "waitOf", "([I)I"⟩ ∈ lw_gd := wk_5 (i := 169) (by decide +kernel) rfl
theorem wm_1241 : Cond.instanceMethod ⟨"WeekBoats$LockQueue", "waitOf", "([I)I"⟩ ∈ lw_gd := wk_5 (i := 171) (by decide +kernel) rfl
set_option maxRecDepth 100000 in
theorem wm_1242 : Cond.code ⟨"WeekBoats$LockQueue", "waitOf", "([I)I"⟩ prog_5_method_5_code 6 (some .int) ∈ lw_gd := wk_5 (i := 172) rfl rfl
theorem wm_1243 : Cond.methodLink "WeekBoats$LockQueue" 45 ⟨"java/lang/Math", "max", "(II)I"⟩ ∈ lw_gd := wk_5 (i := 173) (by decide +kernel) rfl
theorem wm_1244 : Cond.methodLink "WeekBoats$LockQueue" 51 ⟨"WeekBoats$LockQueue", "minutesOf", "([II)I"⟩ ∈ lw_gd := wk_5 (i := 174) (by decide +kernel) rfl
theorem wm_1246 : Cond.instanceMethod ⟨"WeekBoats$LockQueue", "minutesOf", "([II)I"⟩ ∈ lw_gd := wk_5 (i := 176) (by decide +kernel) rfl
set_option maxRecDepth 100000 in
theorem wm_1247 : Cond.code ⟨"WeekBoats$LockQueue", "minutesOf", "([II)I"⟩ prog_5_method_6_code 3 (some .int) ∈ lw_gd := wk_5 (i := 177) rfl rfl
theorem wm_1248 : Cond.methodLink "WeekBoats$LockQueue" 41 ⟨"WeekBoats$LockQueue", "putNext", "(LWeekBoats$LockQueue;IIII)V"⟩ ∈ lw_gd := wk_5 (i := 178) (by decide +kernel) rfl
theorem wm_1249 : Cond.static ⟨"WeekBoats$LockQueue", "putNext", "(LWeekBoats$LockQueue;IIII)V"⟩ ∈ lw_gd := wk_5 (i := 179) (by decide +kernel) rfl
set_option maxRecDepth 100000 in
theorem wm_1250 : Cond.code ⟨"WeekBoats$LockQueue", "putNext", "(LWeekBoats$LockQueue;IIII)V"⟩ prog_5_method_7_code 8 none ∈ lw_gd := wk_5 (i := 180) rfl rfl
theorem wm_1251 : Cond.methodLink "WeekBoats$LockQueue" 55 ⟨"java/lang/System", "arraycopy", "(Ljava/lang/Object;ILjava/lang/Object;II)V"⟩ ∈ lw_gd := wk_5 (i := 181) (by decide +kernel) rfl
theorem wm_1252 : Cond.methodLink "WeekBoatsLaw" 118 ⟨"WeekBoats", "lock", "(I)I"⟩ ∈ lw_gd := wk_5 (i := 182) (by decide +kernel) rfl
theorem wm_1253 : Cond.instanceMethod ⟨"WeekBoats", "lock", "(I)I"⟩ ∈ lw_gd := wk_5 (i := 183) (by decide +kernel) rfl
theorem wm_1254 : Cond.selects "WeekBoats" ⟨"WeekBoats", "lock", "(I)I"⟩ ⟨"WeekBoats", "lock", "(I)I"⟩ ∈ lw_gd := wk_5 (i := 184) (by decide +kernel) rfl
set_option maxRecDepth 100000 in
theorem wm_1255 : Cond.code ⟨"WeekBoats", "lock", "(I)I"⟩ prog_1_method_33_code 2 (some .int) ∈ lw_gd := wk_5 (i := 185) rfl rfl
theorem wm_1256 : Cond.methodLink "WeekBoats" 258 ⟨"WeekBoats$LockQueue", "lockfulsAsCome", "()I"⟩ ∈ lw_gd := wk_5 (i := 186) (by decide +kernel) rfl
theorem wm_1257 : Cond.instanceMethod ⟨"WeekBoats$LockQueue", "lockfulsAsCome", "()I"⟩ ∈ lw_gd := wk_5 (i := 187) (by decide +kernel) rfl
theorem wm_1258 : Cond.selects "WeekBoats$LockQueue" ⟨"WeekBoats$LockQueue", "lockfulsAsCome", "()I"⟩ ⟨"WeekBoats$LockQueue", "lockfulsAsCome", "()I"⟩ ∈ lw_gd := wk_5 (i := 188) (by decide +kernel) rfl
set_option maxRecDepth 100000 in
theorem wm_1259 : Cond.code ⟨"WeekBoats$LockQueue", "lockfulsAsCome", "()I"⟩ prog_5_method_8_code 3 (some .int) ∈ lw_gd := wk_5 (i := 189) rfl rfl
theorem wm_1260 : Cond.methodLink "WeekBoats" 261 ⟨"WeekBoats$LockQueue", "lockfulsAtBest", "()I"⟩ ∈ lw_gd := wk_5 (i := 190) (by decide +kernel) rfl
theorem wm_1261 : Cond.instanceMethod ⟨"WeekBoats$LockQueue", "lockfulsAtBest", "()I"⟩ ∈ lw_gd := wk_5 (i := 191) (by decide +kernel) rfl
theorem wm_1262 : Cond.selects "WeekBoats$LockQueue" ⟨"WeekBoats$LockQueue", "lockfulsAtBest", "()I"⟩ ⟨"WeekBoats$LockQueue", "lockfulsAtBest", "()I"⟩ ∈ lw_gd := wk_5 (i := 192) (by decide +kernel) rfl
set_option maxRecDepth 100000 in
theorem wm_1263 : Cond.code ⟨"WeekBoats$LockQueue", "lockfulsAtBest", "()I"⟩ prog_5_method_9_code 3 (some .int) ∈ lw_gd := wk_5 (i := 193) rfl rfl
theorem wm_1264 : Cond.methodLink "WeekBoats" 264 ⟨"WeekBoats$LockQueue", "atBest", "(I)I"⟩ ∈ lw_gd := wk_5 (i := 194) (by decide +kernel) rfl
theorem wm_1265 : Cond.instanceMethod ⟨"WeekBoats$LockQueue", "atBest", "(I)I"⟩ ∈ lw_gd := wk_5 (i := 195) (by decide +kernel) rfl
theorem wm_1266 : Cond.selects "WeekBoats$LockQueue" ⟨"WeekBoats$LockQueue", "atBest", "(I)I"⟩ ⟨"WeekBoats$LockQueue", "atBest", "(I)I"⟩ ∈ lw_gd := wk_5 (i := 196) (by decide +kernel) rfl
set_option maxRecDepth 100000 in
theorem wm_1267 : Cond.code ⟨"WeekBoats$LockQueue", "atBest", "(I)I"⟩ prog_5_method_10_code 2 (some .int) ∈ lw_gd := wk_5 (i := 197) rfl rfl
theorem wm_1269 : Cond.methodLink "WeekBoatsLaw" 122 ⟨"WeekBoats", "booking", "(IIII)I"⟩ ∈ lw_gd := wk_5 (i := 199) (by decide +kernel) rfl
theorem wm_1270 : Cond.instanceMethod ⟨"WeekBoats", "booking", "(IIII)I"⟩ ∈ lw_gd := wk_5 (i := 200) (by decide +kernel) rfl
theorem wm_1271 : Cond.selects "WeekBoats" ⟨"WeekBoats", "booking", "(IIII)I"⟩ ⟨"WeekBoats", "booking", "(IIII)I"⟩ ∈ lw_gd := wk_5 (i := 201) (by decide +kernel) rfl
set_option maxRecDepth 100000 in
theorem wm_1272 : Cond.code ⟨"WeekBoats", "booking", "(IIII)I"⟩ prog_1_method_34_code 5 (some .int) ∈ lw_gd := wk_5 (i := 202) rfl rfl
theorem wm_1273 : Cond.methodLink "WeekBoats" 267 ⟨"WeekBoats", "isWeek", "(I)Z"⟩ ∈ lw_gd := wk_5 (i := 203) (by decide +kernel) rfl
theorem wm_1274 : Cond.static ⟨"WeekBoats", "isWeek", "(I)Z"⟩ ∈ lw_gd := wk_5 (i := 204) (by decide +kernel) rfl
set_option maxRecDepth 100000 in
theorem wm_1275 : Cond.code ⟨"WeekBoats", "isWeek", "(I)Z"⟩ prog_1_method_5_code 1 (some .boolean) ∈ lw_gd := wk_5 (i := 205) rfl rfl
theorem wm_1276 : Cond.methodLink "WeekBoats" 270 ⟨"WeekBoats$Bookings", "add", "(IIII)I"⟩ ∈ lw_gd := wk_5 (i := 206) (by decide +kernel) rfl
theorem wm_1277 : Cond.instanceMethod ⟨"WeekBoats$Bookings", "add", "(IIII)I"⟩ ∈ lw_gd := wk_5 (i := 207) (by decide +kernel) rfl
theorem wm_1278 : Cond.selects "WeekBoats$Bookings" ⟨"WeekBoats$Bookings", "add", "(IIII)I"⟩ ⟨"WeekBoats$Bookings", "add", "(IIII)I"⟩ ∈ lw_gd := wk_5 (i := 208) (by decide +kernel) rfl
set_option maxRecDepth 100000 in
theorem wm_1279 : Cond.code ⟨"WeekBoats$Bookings", "add", "(IIII)I"⟩ prog_3_method_2_code 5 (some .int) ∈ lw_gd := wk_5 (i := 209) rfl rfl
theorem wm_1280 : Cond.methodLink "WeekBoats$Bookings" 55 ⟨"WeekBoats$Bookings", "putInOrder", "()V"⟩ ∈ lw_gd := wk_5 (i := 210) (by decide +kernel) rfl
theorem wm_1282 : Cond.instanceMethod ⟨"WeekBoats$Bookings", "putInOrder", "()V"⟩ ∈ lw_gd := wk_5 (i := 212) (by decide +kernel) rfl
set_option maxRecDepth 100000 in
theorem wm_1283 : Cond.code ⟨"WeekBoats$Bookings", "putInOrder", "()V"⟩ prog_3_method_3_code 4 none ∈ lw_gd := wk_5 (i := 213) rfl rfl
theorem wm_1284 : Cond.methodLink "WeekBoatsLaw" 126 ⟨"WeekBoats", "given", "(II)I"⟩ ∈ lw_gd := wk_5 (i := 214) (by decide +kernel) rfl
theorem wm_1285 : Cond.instanceMethod ⟨"WeekBoats", "given", "(II)I"⟩ ∈ lw_gd := wk_5 (i := 215) (by decide +kernel) rfl
theorem wm_1286 : Cond.selects "WeekBoats" ⟨"WeekBoats", "given", "(II)I"⟩ ⟨"WeekBoats", "given", "(II)I"⟩ ∈ lw_gd := wk_5 (i := 216) (by decide +kernel) rfl
set_option maxRecDepth 100000 in
theorem wm_1287 : Cond.code ⟨"WeekBoats", "given", "(II)I"⟩ prog_1_method_35_code 3 (some .int) ∈ lw_gd := wk_5 (i := 217) rfl rfl
theorem wm_1288 : Cond.methodLink "WeekBoats" 271 ⟨"WeekBoats", "hireFirst", "(I)V"⟩ ∈ lw_gd := wk_5 (i := 218) (by decide +kernel) rfl
theorem wm_1290 : Cond.instanceMethod ⟨"WeekBoats", "hireFirst", "(I)V"⟩ ∈ lw_gd := wk_5 (i := 220) (by decide +kernel) rfl
set_option maxRecDepth 100000 in
theorem wm_1291 : Cond.code ⟨"WeekBoats", "hireFirst", "(I)V"⟩ prog_1_method_36_code 3 none ∈ lw_gd := wk_5 (i := 221) rfl rfl
theorem wm_1292 : Cond.methodLink "WeekBoats" 293 ⟨"WeekBoats$Bookings", "hire", "(III)V"⟩ ∈ lw_gd := wk_5 (i := 222) (by decide +kernel) rfl
theorem wm_1293 : Cond.instanceMethod ⟨"WeekBoats$Bookings", "hire", "(III)V"⟩ ∈ lw_gd := wk_5 (i := 223) (by decide +kernel) rfl
theorem wm_1294 : Cond.selects "WeekBoats$Bookings" ⟨"WeekBoats$Bookings", "hire", "(III)V"⟩ ⟨"WeekBoats$Bookings", "hire", "(III)V"⟩ ∈ lw_gd := wk_5 (i := 224) (by decide +kernel) rfl
set_option maxRecDepth 100000 in
theorem wm_1295 : Cond.code ⟨"WeekBoats$Bookings", "hire", "(III)V"⟩ prog_3_method_4_code 4 none ∈ lw_gd := wk_5 (i := 225) rfl rfl
theorem wm_1296 : Cond.methodLink "WeekBoats" 274 ⟨"WeekBoats$Bookings", "giveBest", "(I)V"⟩ ∈ lw_gd := wk_5 (i := 226) (by decide +kernel) rfl
theorem wm_1297 : Cond.instanceMethod ⟨"WeekBoats$Bookings", "giveBest", "(I)V"⟩ ∈ lw_gd := wk_5 (i := 227) (by decide +kernel) rfl
theorem wm_1298 : Cond.selects "WeekBoats$Bookings" ⟨"WeekBoats$Bookings", "giveBest", "(I)V"⟩ ⟨"WeekBoats$Bookings", "giveBest", "(I)V"⟩ ∈ lw_gd := wk_5 (i := 228) (by decide +kernel) rfl
set_option maxRecDepth 100000 in
theorem wm_1299 : Cond.code ⟨"WeekBoats$Bookings", "giveBest", "(I)V"⟩ prog_3_method_5_code 3 none ∈ lw_gd := wk_5 (i := 229) rfl rfl
theorem wm_1300 : Cond.methodLink "WeekBoats$Bookings" 58 ⟨"java/lang/Math", "min", "(II)I"⟩ ∈ lw_gd := wk_5 (i := 230) (by decide +kernel) rfl
theorem wm_1301 : Cond.methodLink "WeekBoats$Bookings" 73 ⟨"WeekBoats$Bookings", "canEverBeGiven", "(I)Z"⟩ ∈ lw_gd := wk_5 (i := 231) (by decide +kernel) rfl
theorem wm_1303 : Cond.instanceMethod ⟨"WeekBoats$Bookings", "canEverBeGiven", "(I)Z"⟩ ∈ lw_gd := wk_5 (i := 233) (by decide +kernel) rfl
set_option maxRecDepth 100000 in
theorem wm_1304 : Cond.code ⟨"WeekBoats$Bookings", "canEverBeGiven", "(I)Z"⟩ prog_3_method_6_code 3 (some .boolean) ∈ lw_gd := wk_5 (i := 234) rfl rfl
theorem wm_1305 : Cond.methodLink "WeekBoats$Bookings" 81 ⟨"WeekBoats$Bookings", "canCome", "(II)Z"⟩ ∈ lw_gd := wk_5 (i := 235) (by decide +kernel) rfl
theorem wm_1307 : Cond.instanceMethod ⟨"WeekBoats$Bookings", "canCome", "(II)Z"⟩ ∈ lw_gd := wk_5 (i := 237) (by decide +kernel) rfl
set_option maxRecDepth 100000 in
theorem wm_1308 : Cond.code ⟨"WeekBoats$Bookings", "canCome", "(II)Z"⟩ prog_3_method_7_code 4 (some .boolean) ∈ lw_gd := wk_5 (i := 238) rfl rfl
theorem wm_1309 : Cond.methodLink "WeekBoats$Bookings" 77 ⟨"WeekBoats$Bookings", "giveNext", "(LWeekBoats$Bookings;II)V"⟩ ∈ lw_gd := wk_5 (i := 239) (by decide +kernel) rfl
theorem wm_1310 : Cond.static ⟨"WeekBoats$Bookings", "giveNext", "(LWeekBoats$Bookings;II)V"⟩ ∈ lw_gd := wk_6 (i := 0) (by decide +kernel) rfl
set_option maxRecDepth 100000 in
theorem wm_1311 : Cond.code ⟨"WeekBoats$Bookings", "giveNext", "(LWeekBoats$Bookings;II)V"⟩ prog_3_method_8_code 8 none ∈ lw_gd := wk_6 (i := 1) rfl rfl
theorem wm_1312 : Cond.methodLink "WeekBoats$Bookings" 85 ⟨"WeekBoats$Bookings", "compare", "(I)V"⟩ ∈ lw_gd := wk_6 (i := 2) (by decide +kernel) rfl
theorem wm_1314 : Cond.instanceMethod ⟨"WeekBoats$Bookings", "compare", "(I)V"⟩ ∈ lw_gd := wk_6 (i := 4) (by decide +kernel) rfl
set_option maxRecDepth 100000 in
theorem wm_1315 : Cond.code ⟨"WeekBoats$Bookings", "compare", "(I)V"⟩ prog_3_method_10_code 4 none ∈ lw_gd := wk_6 (i := 5) rfl rfl
theorem wm_1316 : Cond.methodLink "WeekBoats$Bookings" 92 ⟨"java/lang/System", "arraycopy", "(Ljava/lang/Object;ILjava/lang/Object;II)V"⟩ ∈ lw_gd := wk_6 (i := 6) (by decide +kernel) rfl
theorem wm_1317 : Cond.methodLink "WeekBoats$Bookings" 89 ⟨"WeekBoats$Bookings", "canHave", "(II)Z"⟩ ∈ lw_gd := wk_6 (i := 7) (by decide +kernel) rfl
theorem wm_1319 : Cond.instanceMethod ⟨"WeekBoats$Bookings", "canHave", "(II)Z"⟩ ∈ lw_gd := wk_6 (i := 9) (by decide +kernel) rfl
set_option maxRecDepth 100000 in
theorem wm_1320 : Cond.code ⟨"WeekBoats$Bookings", "canHave", "(II)Z"⟩ prog_3_method_9_code 3 (some .boolean) ∈ lw_gd := wk_6 (i := 10) rfl rfl
theorem wm_1321 : Cond.methodLink "WeekBoatsLaw" 130 ⟨"WeekBoats", "more", "(III)I"⟩ ∈ lw_gd := wk_6 (i := 11) (by decide +kernel) rfl
theorem wm_1322 : Cond.instanceMethod ⟨"WeekBoats", "more", "(III)I"⟩ ∈ lw_gd := wk_6 (i := 12) (by decide +kernel) rfl
theorem wm_1323 : Cond.selects "WeekBoats" ⟨"WeekBoats", "more", "(III)I"⟩ ⟨"WeekBoats", "more", "(III)I"⟩ ∈ lw_gd := wk_6 (i := 13) (by decide +kernel) rfl
set_option maxRecDepth 100000 in
theorem wm_1324 : Cond.code ⟨"WeekBoats", "more", "(III)I"⟩ prog_1_method_37_code 5 (some .int) ∈ lw_gd := wk_6 (i := 14) rfl rfl
theorem wm_1325 : Cond.methodLink "WeekBoatsLaw" 134 ⟨"WeekBoats", "gas", "(III)Z"⟩ ∈ lw_gd := wk_6 (i := 15) (by decide +kernel) rfl
theorem wm_1326 : Cond.instanceMethod ⟨"WeekBoats", "gas", "(III)Z"⟩ ∈ lw_gd := wk_6 (i := 16) (by decide +kernel) rfl
theorem wm_1327 : Cond.selects "WeekBoats" ⟨"WeekBoats", "gas", "(III)Z"⟩ ⟨"WeekBoats", "gas", "(III)Z"⟩ ∈ lw_gd := wk_6 (i := 17) (by decide +kernel) rfl
set_option maxRecDepth 100000 in
theorem wm_1328 : Cond.code ⟨"WeekBoats", "gas", "(III)Z"⟩ prog_1_method_38_code 4 (some .boolean) ∈ lw_gd := wk_6 (i := 18) rfl rfl
theorem wm_1329 : Cond.methodLink "WeekBoats" 296 ⟨"WeekBoats$Yard", "tellDock", "(III)Z"⟩ ∈ lw_gd := wk_6 (i := 19) (by decide +kernel) rfl
theorem wm_1330 : Cond.instanceMethod ⟨"WeekBoats$Yard", "tellDock", "(III)Z"⟩ ∈ lw_gd := wk_6 (i := 20) (by decide +kernel) rfl
theorem wm_1331 : Cond.selects "WeekBoats$Yard" ⟨"WeekBoats$Yard", "tellDock", "(III)Z"⟩ ⟨"WeekBoats$Yard", "tellDock", "(III)Z"⟩ ∈ lw_gd := wk_6 (i := 21) (by decide +kernel) rfl
set_option maxRecDepth 100000 in
theorem wm_1332 : Cond.code ⟨"WeekBoats$Yard", "tellDock", "(III)Z"⟩ prog_12_method_2_code 4 (some .boolean) ∈ lw_gd := wk_6 (i := 22) rfl rfl
theorem wm_1333 : Cond.methodLink "WeekBoats$Yard" 42 ⟨"WeekBoats$Yard", "othersInDock", "(I)I"⟩ ∈ lw_gd := wk_6 (i := 23) (by decide +kernel) rfl
theorem wm_1335 : Cond.instanceMethod ⟨"WeekBoats$Yard", "othersInDock", "(I)I"⟩ ∈ lw_gd := wk_6 (i := 25) (by decide +kernel) rfl
set_option maxRecDepth 100000 in
theorem wm_1336 : Cond.code ⟨"WeekBoats$Yard", "othersInDock", "(I)I"⟩ prog_12_method_3_code 4 (some .int) ∈ lw_gd := wk_6 (i := 26) rfl rfl
theorem wm_1337 : Cond.methodLink "WeekBoatsLaw" 139 ⟨"WeekBoats", "dock", "(I)I"⟩ ∈ lw_gd := wk_6 (i := 27) (by decide +kernel) rfl
theorem wm_1338 : Cond.instanceMethod ⟨"WeekBoats", "dock", "(I)I"⟩ ∈ lw_gd := wk_6 (i := 28) (by decide +kernel) rfl
theorem wm_1339 : Cond.selects "WeekBoats" ⟨"WeekBoats", "dock", "(I)I"⟩ ⟨"WeekBoats", "dock", "(I)I"⟩ ∈ lw_gd := wk_6 (i := 29) (by decide +kernel) rfl
set_option maxRecDepth 100000 in
theorem wm_1340 : Cond.code ⟨"WeekBoats", "dock", "(I)I"⟩ prog_1_method_39_code 2 (some .int) ∈ lw_gd := wk_6 (i := 30) rfl rfl
theorem wm_1341 : Cond.methodLink "WeekBoats" 299 ⟨"WeekBoats$Yard", "orderDock", "()V"⟩ ∈ lw_gd := wk_6 (i := 31) (by decide +kernel) rfl
theorem wm_1342 : Cond.instanceMethod ⟨"WeekBoats$Yard", "orderDock", "()V"⟩ ∈ lw_gd := wk_6 (i := 32) (by decide +kernel) rfl
theorem wm_1343 : Cond.selects "WeekBoats$Yard" ⟨"WeekBoats$Yard", "orderDock", "()V"⟩ ⟨"WeekBoats$Yard", "orderDock", "()V"⟩ ∈ lw_gd := wk_6 (i := 33) (by decide +kernel) rfl
set_option maxRecDepth 100000 in
theorem wm_1344 : Cond.code ⟨"WeekBoats$Yard", "orderDock", "()V"⟩ prog_12_method_4_code 3 none ∈ lw_gd := wk_6 (i := 34) rfl rfl
theorem wm_1345 : Cond.methodLink "WeekBoats$Yard" 50 ⟨"WeekBoats$Yard", "chooseNext", "(I)V"⟩ ∈ lw_gd := wk_6 (i := 35) (by decide +kernel) rfl
theorem wm_1347 : Cond.instanceMethod ⟨"WeekBoats$Yard", "chooseNext", "(I)V"⟩ ∈ lw_gd := wk_6 (i := 37) (by decide +kernel) rfl
set_option maxRecDepth 100000 in
theorem wm_1348 : Cond.code ⟨"WeekBoats$Yard", "chooseNext", "(I)V"⟩ prog_12_method_5_code 7 none ∈ lw_gd := wk_6 (i := 38) rfl rfl
theorem wm_1349 : Cond.methodLink "WeekBoats$Yard" 54 ⟨"WeekBoats$Yard", "isBetter", "(III)Z"⟩ ∈ lw_gd := wk_6 (i := 39) (by decide +kernel) rfl
theorem wm_1351 : Cond.instanceMethod ⟨"WeekBoats$Yard", "isBetter", "(III)Z"⟩ ∈ lw_gd := wk_6 (i := 41) (by decide +kernel) rfl
set_option maxRecDepth 100000 in
theorem wm_1352 : Cond.code ⟨"WeekBoats$Yard", "isBetter", "(III)Z"⟩ prog_12_method_6_code 4 (some .boolean) ∈ lw_gd := wk_6 (i := 42) rfl rfl
theorem wm_1353 : Cond.methodLink "WeekBoats" 311 ⟨"WeekBoats$Yard", "dockedAt", "(I)I"⟩ ∈ lw_gd := wk_6 (i := 43) (by decide +kernel) rfl
theorem wm_1354 : Cond.instanceMethod ⟨"WeekBoats$Yard", "dockedAt", "(I)I"⟩ ∈ lw_gd := wk_6 (i := 44) (by decide +kernel) rfl
theorem wm_1355 : Cond.selects "WeekBoats$Yard" ⟨"WeekBoats$Yard", "dockedAt", "(I)I"⟩ ⟨"WeekBoats$Yard", "dockedAt", "(I)I"⟩ ∈ lw_gd := wk_6 (i := 45) (by decide +kernel) rfl
set_option maxRecDepth 100000 in
theorem wm_1356 : Cond.code ⟨"WeekBoats$Yard", "dockedAt", "(I)I"⟩ prog_12_method_7_code 4 (some .int) ∈ lw_gd := wk_6 (i := 46) rfl rfl
theorem wm_1358 : Cond.methodLink "WeekBoatsLaw" 143 ⟨"WeekBoats", "job", "(I)I"⟩ ∈ lw_gd := wk_6 (i := 48) (by decide +kernel) rfl
theorem wm_1359 : Cond.instanceMethod ⟨"WeekBoats", "job", "(I)I"⟩ ∈ lw_gd := wk_6 (i := 49) (by decide +kernel) rfl
theorem wm_1360 : Cond.selects "WeekBoats" ⟨"WeekBoats", "job", "(I)I"⟩ ⟨"WeekBoats", "job", "(I)I"⟩ ∈ lw_gd := wk_6 (i := 50) (by decide +kernel) rfl
set_option maxRecDepth 100000 in
theorem wm_1361 : Cond.code ⟨"WeekBoats", "job", "(I)I"⟩ prog_1_method_40_code 2 (some .int) ∈ lw_gd := wk_6 (i := 51) rfl rfl
theorem wm_1362 : Cond.methodLink "WeekBoats" 317 ⟨"WeekBoats$Yard", "addJob", "(I)I"⟩ ∈ lw_gd := wk_6 (i := 52) (by decide +kernel) rfl
theorem wm_1363 : Cond.instanceMethod ⟨"WeekBoats$Yard", "addJob", "(I)I"⟩ ∈ lw_gd := wk_6 (i := 53) (by decide +kernel) rfl
theorem wm_1364 : Cond.selects "WeekBoats$Yard" ⟨"WeekBoats$Yard", "addJob", "(I)I"⟩ ⟨"WeekBoats$Yard", "addJob", "(I)I"⟩ ∈ lw_gd := wk_6 (i := 54) (by decide +kernel) rfl
set_option maxRecDepth 100000 in
theorem wm_1365 : Cond.code ⟨"WeekBoats$Yard", "addJob", "(I)I"⟩ prog_12_method_8_code 2 (some .int) ∈ lw_gd := wk_6 (i := 55) rfl rfl
theorem wm_1366 : Cond.methodLink "WeekBoatsLaw" 147 ⟨"WeekBoats", "turned", "(II)I"⟩ ∈ lw_gd := wk_6 (i := 56) (by decide +kernel) rfl
theorem wm_1367 : Cond.instanceMethod ⟨"WeekBoats", "turned", "(II)I"⟩ ∈ lw_gd := wk_6 (i := 57) (by decide +kernel) rfl
theorem wm_1368 : Cond.selects "WeekBoats" ⟨"WeekBoats", "turned", "(II)I"⟩ ⟨"WeekBoats", "turned", "(II)I"⟩ ∈ lw_gd := wk_6 (i := 58) (by decide +kernel) rfl
set_option maxRecDepth 100000 in
theorem wm_1369 : Cond.code ⟨"WeekBoats", "turned", "(II)I"⟩ prog_1_method_41_code 3 (some .int) ∈ lw_gd := wk_6 (i := 59) rfl rfl
theorem wm_1370 : Cond.methodLink "WeekBoats" 320 ⟨"WeekBoats$Yard", "workInOrder", "(I)V"⟩ ∈ lw_gd := wk_6 (i := 60) (by decide +kernel) rfl
theorem wm_1371 : Cond.instanceMethod ⟨"WeekBoats$Yard", "workInOrder", "(I)V"⟩ ∈ lw_gd := wk_6 (i := 61) (by decide +kernel) rfl
theorem wm_1372 : Cond.selects "WeekBoats$Yard" ⟨"WeekBoats$Yard", "workInOrder", "(I)V"⟩ ⟨"WeekBoats$Yard", "workInOrder", "(I)V"⟩ ∈ lw_gd := wk_6 (i := 62) (by decide +kernel) rfl
set_option maxRecDepth 100000 in
theorem wm_1373 : Cond.code ⟨"WeekBoats$Yard", "workInOrder", "(I)V"⟩ prog_12_method_9_code 5 none ∈ lw_gd := wk_6 (i := 63) rfl rfl
theorem wm_1374 : Cond.methodLink "WeekBoats$Yard" 64 ⟨"java/util/Arrays", "fill", "([II)V"⟩ ∈ lw_gd := wk_6 (i := 64) (by decide +kernel) rfl
theorem wm_1375 : Cond.methodLink "WeekBoats$Yard" 76 ⟨"java/lang/Math", "max", "(II)I"⟩ ∈ lw_gd := wk_6 (i := 65) (by decide +kernel) rfl
theorem wm_1376 : Cond.methodLink "WeekBoats" 329 ⟨"WeekBoats$Yard", "shareBest", "(I)V"⟩ ∈ lw_gd := wk_6 (i := 66) (by decide +kernel) rfl
theorem wm_1377 : Cond.instanceMethod ⟨"WeekBoats$Yard", "shareBest", "(I)V"⟩ ∈ lw_gd := wk_6 (i := 67) (by decide +kernel) rfl
theorem wm_1378 : Cond.selects "WeekBoats$Yard" ⟨"WeekBoats$Yard", "shareBest", "(I)V"⟩ ⟨"WeekBoats$Yard", "shareBest", "(I)V"⟩ ∈ lw_gd := wk_6 (i := 68) (by decide +kernel) rfl
set_option maxRecDepth 100000 in
theorem wm_1379 : Cond.code ⟨"WeekBoats$Yard", "shareBest", "(I)V"⟩ prog_12_method_10_code 2 none ∈ lw_gd := wk_6 (i := 69) rfl rfl
theorem wm_1380 : Cond.methodLink "WeekBoats$Yard" 85 ⟨"WeekBoats$Yard", "shareNext", "(LWeekBoats$Yard;III)V"⟩ ∈ lw_gd := wk_6 (i := 70) (by decide +kernel) rfl
theorem wm_1381 : Cond.static ⟨"WeekBoats$Yard", "shareNext", "(LWeekBoats$Yard;III)V"⟩ ∈ lw_gd := wk_6 (i := 71) (by decide +kernel) rfl
set_option maxRecDepth 100000 in
theorem wm_1382 : Cond.code ⟨"WeekBoats$Yard", "shareNext", "(LWeekBoats$Yard;III)V"⟩ prog_12_method_11_code 5 none ∈ lw_gd := wk_6 (i := 72) rfl rfl
theorem wm_1383 : Cond.methodLink "WeekBoats$Yard" 89 ⟨"java/lang/System", "arraycopy", "(Ljava/lang/Object;ILjava/lang/Object;II)V"⟩ ∈ lw_gd := wk_6 (i := 73) (by decide +kernel) rfl
theorem wm_1384 : Cond.methodLink "WeekBoatsLaw" 151 ⟨"WeekBoats", "weight", "(II)Z"⟩ ∈ lw_gd := wk_6 (i := 74) (by decide +kernel) rfl
theorem wm_1385 : Cond.instanceMethod ⟨"WeekBoats", "weight", "(II)Z"⟩ ∈ lw_gd := wk_6 (i := 75) (by decide +kernel) rfl
theorem wm_1386 : Cond.selects "WeekBoats" ⟨"WeekBoats", "weight", "(II)Z"⟩ ⟨"WeekBoats", "weight", "(II)Z"⟩ ∈ lw_gd := wk_6 (i := 76) (by decide +kernel) rfl
set_option maxRecDepth 100000 in
theorem wm_1387 : Cond.code ⟨"WeekBoats", "weight", "(II)Z"⟩ prog_1_method_42_code 3 (some .boolean) ∈ lw_gd := wk_6 (i := 77) rfl rfl
theorem wm_1388 : Cond.methodLink "WeekBoatsLaw" 156 ⟨"WeekBoats", "van", "(I)I"⟩ ∈ lw_gd := wk_6 (i := 78) (by decide +kernel) rfl
theorem wm_1389 : Cond.instanceMethod ⟨"WeekBoats", "van", "(I)I"⟩ ∈ lw_gd := wk_6 (i := 79) (by decide +kernel) rfl
theorem wm_1390 : Cond.selects "WeekBoats" ⟨"WeekBoats", "van", "(I)I"⟩ ⟨"WeekBoats", "van", "(I)I"⟩ ∈ lw_gd := wk_6 (i := 80) (by decide +kernel) rfl
set_option maxRecDepth 100000 in
theorem wm_1391 : Cond.code ⟨"WeekBoats", "van", "(I)I"⟩ prog_1_method_43_code 3 (some .int) ∈ lw_gd := wk_6 (i := 81) rfl rfl
theorem wm_1392 : Cond.methodLink "WeekBoats" 341 ⟨"WeekBoats$Vans", "measure", "()V"⟩ ∈ lw_gd := wk_6 (i := 82) (by decide +kernel) rfl
theorem wm_1393 : Cond.instanceMethod ⟨"WeekBoats$Vans", "measure", "()V"⟩ ∈ lw_gd := wk_6 (i := 83) (by decide +kernel) rfl
theorem wm_1394 : Cond.selects "WeekBoats$Vans" ⟨"WeekBoats$Vans", "measure", "()V"⟩ ⟨"WeekBoats$Vans", "measure", "()V"⟩ ∈ lw_gd := wk_6 (i := 84) (by decide +kernel) rfl
set_option maxRecDepth 100000 in
theorem wm_1395 : Cond.code ⟨"WeekBoats$Vans", "measure", "()V"⟩ prog_10_method_2_code 2 none ∈ lw_gd := wk_6 (i := 85) rfl rfl
theorem wm_1396 : Cond.methodLink "WeekBoats" 344 ⟨"WeekBoats$Vans", "bestPoint", "()I"⟩ ∈ lw_gd := wk_6 (i := 86) (by decide +kernel) rfl
theorem wm_1397 : Cond.instanceMethod ⟨"WeekBoats$Vans", "bestPoint", "()I"⟩ ∈ lw_gd := wk_6 (i := 87) (by decide +kernel) rfl
theorem wm_1398 : Cond.selects "WeekBoats$Vans" ⟨"WeekBoats$Vans", "bestPoint", "()I"⟩ ⟨"WeekBoats$Vans", "bestPoint", "()I"⟩ ∈ lw_gd := wk_6 (i := 88) (by decide +kernel) rfl
set_option maxRecDepth 100000 in
theorem wm_1399 : Cond.code ⟨"WeekBoats$Vans", "bestPoint", "()I"⟩ prog_10_method_5_code 3 (some .int) ∈ lw_gd := wk_6 (i := 89) rfl rfl
theorem wm_1400 : Cond.methodLink "WeekBoats$Vans" 58 ⟨"WeekBoats$Vans", "sumFrom", "(II)I"⟩ ∈ lw_gd := wk_6 (i := 90) (by decide +kernel) rfl
theorem wm_1401 : Cond.instanceMethod ⟨"WeekBoats$Vans", "sumFrom", "(II)I"⟩ ∈ lw_gd := wk_6 (i := 91) (by decide +kernel) rfl
theorem wm_1402 : Cond.selects "WeekBoats$Vans" ⟨"WeekBoats$Vans", "sumFrom", "(II)I"⟩ ⟨"WeekBoats$Vans", "sumFrom", "(II)I"⟩ ∈ lw_gd := wk_6 (i := 92) (by decide +kernel) rfl
set_option maxRecDepth 100000 in
theorem wm_1403 : Cond.code ⟨"WeekBoats$Vans", "sumFrom", "(II)I"⟩ prog_10_method_4_code 5 (some .int) ∈ lw_gd := wk_6 (i := 93) rfl rfl
theorem wm_1404 : Cond.methodLink "WeekBoats$Vans" 51 ⟨"WeekBoats$Vans", "minutes", "(II)I"⟩ ∈ lw_gd := wk_6 (i := 94) (by decide +kernel) rfl
theorem wm_1406 : Cond.instanceMethod ⟨"WeekBoats$Vans", "minutes", "(II)I"⟩ ∈ lw_gd := wk_6 (i := 96) (by decide +kernel) rfl
set_option maxRecDepth 100000 in
theorem wm_1407 : Cond.code ⟨"WeekBoats$Vans", "minutes", "(II)I"⟩ prog_10_method_3_code 3 (some .int) ∈ lw_gd := wk_6 (i := 97) rfl rfl
theorem wm_1408 : Cond.methodLink "WeekBoats$Vans" 45 ⟨"java/lang/Math", "abs", "(I)I"⟩ ∈ lw_gd := wk_6 (i := 98) (by decide +kernel) rfl
theorem wm_1409 : Cond.methodLink "WeekBoats$Vans" 55 ⟨"java/lang/Math", "min", "(II)I"⟩ ∈ lw_gd := wk_6 (i := 99) (by decide +kernel) rfl
theorem wm_1410 : Cond.methodLink "WeekBoats" 347 ⟨"WeekBoats$Vans", "sumFrom", "(II)I"⟩ ∈ lw_gd := wk_6 (i := 100) (by decide +kernel) rfl
theorem wm_1411 : Cond.methodLink "WeekBoats" 350 ⟨"WeekBoats$Vans", "worstFrom", "(I)I"⟩ ∈ lw_gd := wk_6 (i := 101) (by decide +kernel) rfl
theorem wm_1412 : Cond.instanceMethod ⟨"WeekBoats$Vans", "worstFrom", "(I)I"⟩ ∈ lw_gd := wk_6 (i := 102) (by decide +kernel) rfl
theorem wm_1413 : Cond.selects "WeekBoats$Vans" ⟨"WeekBoats$Vans", "worstFrom", "(I)I"⟩ ⟨"WeekBoats$Vans", "worstFrom", "(I)I"⟩ ∈ lw_gd := wk_6 (i := 103) (by decide +kernel) rfl
set_option maxRecDepth 100000 in
theorem wm_1414 : Cond.code ⟨"WeekBoats$Vans", "worstFrom", "(I)I"⟩ prog_10_method_6_code 4 (some .int) ∈ lw_gd := wk_6 (i := 104) rfl rfl
theorem wm_1415 : Cond.methodLink "WeekBoats$Vans" 61 ⟨"java/lang/Math", "max", "(II)I"⟩ ∈ lw_gd := wk_6 (i := 105) (by decide +kernel) rfl
theorem wm_1416 : Cond.methodLink "WeekBoatsLaw" 160 ⟨"WeekBoats", "vans", "(I)I"⟩ ∈ lw_gd := wk_6 (i := 106) (by decide +kernel) rfl
theorem wm_1417 : Cond.instanceMethod ⟨"WeekBoats", "vans", "(I)I"⟩ ∈ lw_gd := wk_6 (i := 107) (by decide +kernel) rfl
theorem wm_1418 : Cond.selects "WeekBoats" ⟨"WeekBoats", "vans", "(I)I"⟩ ⟨"WeekBoats", "vans", "(I)I"⟩ ∈ lw_gd := wk_6 (i := 108) (by decide +kernel) rfl
set_option maxRecDepth 100000 in
theorem wm_1419 : Cond.code ⟨"WeekBoats", "vans", "(I)I"⟩ prog_1_method_44_code 2 (some .int) ∈ lw_gd := wk_6 (i := 109) rfl rfl
theorem wm_1420 : Cond.methodLink "WeekBoats" 353 ⟨"WeekBoats$Vans", "findCouple", "()V"⟩ ∈ lw_gd := wk_6 (i := 110) (by decide +kernel) rfl
theorem wm_1421 : Cond.instanceMethod ⟨"WeekBoats$Vans", "findCouple", "()V"⟩ ∈ lw_gd := wk_6 (i := 111) (by decide +kernel) rfl
theorem wm_1422 : Cond.selects "WeekBoats$Vans" ⟨"WeekBoats$Vans", "findCouple", "()V"⟩ ⟨"WeekBoats$Vans", "findCouple", "()V"⟩ ∈ lw_gd := wk_6 (i := 112) (by decide +kernel) rfl
set_option maxRecDepth 100000 in
theorem wm_1423 : Cond.code ⟨"WeekBoats$Vans", "findCouple", "()V"⟩ prog_10_method_7_code 4 none ∈ lw_gd := wk_6 (i := 113) rfl rfl
theorem wm_1424 : Cond.methodLink "WeekBoatsLaw" 164 ⟨"WeekBoats", "call", "(III)I"⟩ ∈ lw_gd := wk_6 (i := 114) (by decide +kernel) rfl
theorem wm_1425 : Cond.instanceMethod ⟨"WeekBoats", "call", "(III)I"⟩ ∈ lw_gd := wk_6 (i := 115) (by decide +kernel) rfl
theorem wm_1426 : Cond.selects "WeekBoats" ⟨"WeekBoats", "call", "(III)I"⟩ ⟨"WeekBoats", "call", "(III)I"⟩ ∈ lw_gd := wk_6 (i := 116) (by decide +kernel) rfl
set_option maxRecDepth 100000 in
theorem wm_1427 : Cond.code ⟨"WeekBoats", "call", "(III)I"⟩ prog_1_method_45_code 4 (some .int) ∈ lw_gd := wk_6 (i := 117) rfl rfl
theorem wm_1428 : Cond.methodLink "WeekBoats" 365 ⟨"WeekBoats$Vans", "addCall", "(III)I"⟩ ∈ lw_gd := wk_6 (i := 118) (by decide +kernel) rfl
theorem wm_1429 : Cond.instanceMethod ⟨"WeekBoats$Vans", "addCall", "(III)I"⟩ ∈ lw_gd := wk_6 (i := 119) (by decide +kernel) rfl
theorem wm_1430 : Cond.selects "WeekBoats$Vans" ⟨"WeekBoats$Vans", "addCall", "(III)I"⟩ ⟨"WeekBoats$Vans", "addCall", "(III)I"⟩ ∈ lw_gd := wk_6 (i := 120) (by decide +kernel) rfl
set_option maxRecDepth 100000 in
theorem wm_1431 : Cond.code ⟨"WeekBoats$Vans", "addCall", "(III)I"⟩ prog_10_method_8_code 4 (some .int) ∈ lw_gd := wk_6 (i := 121) rfl rfl
theorem wm_1432 : Cond.methodLink "WeekBoatsLaw" 168 ⟨"WeekBoats", "taken", "(III)I"⟩ ∈ lw_gd := wk_6 (i := 122) (by decide +kernel) rfl
theorem wm_1433 : Cond.instanceMethod ⟨"WeekBoats", "taken", "(III)I"⟩ ∈ lw_gd := wk_6 (i := 123) (by decide +kernel) rfl
theorem wm_1434 : Cond.selects "WeekBoats" ⟨"WeekBoats", "taken", "(III)I"⟩ ⟨"WeekBoats", "taken", "(III)I"⟩ ∈ lw_gd := wk_6 (i := 124) (by decide +kernel) rfl
set_option maxRecDepth 100000 in
theorem wm_1435 : Cond.code ⟨"WeekBoats", "taken", "(III)I"⟩ prog_1_method_46_code 4 (some .int) ∈ lw_gd := wk_6 (i := 125) rfl rfl
theorem wm_1436 : Cond.methodLink "WeekBoats" 368 ⟨"WeekBoats$Vans", "takeCalls", "(II)V"⟩ ∈ lw_gd := wk_6 (i := 126) (by decide +kernel) rfl
theorem wm_1437 : Cond.instanceMethod ⟨"WeekBoats$Vans", "takeCalls", "(II)V"⟩ ∈ lw_gd := wk_6 (i := 127) (by decide +kernel) rfl
theorem wm_1438 : Cond.selects "WeekBoats$Vans" ⟨"WeekBoats$Vans", "takeCalls", "(II)V"⟩ ⟨"WeekBoats$Vans", "takeCalls", "(II)V"⟩ ∈ lw_gd := wk_6 (i := 128) (by decide +kernel) rfl
set_option maxRecDepth 100000 in
theorem wm_1439 : Cond.code ⟨"WeekBoats$Vans", "takeCalls", "(II)V"⟩ prog_10_method_9_code 6 none ∈ lw_gd := wk_6 (i := 129) rfl rfl
theorem wm_1440 : Cond.methodLink "WeekBoats$Vans" 74 ⟨"java/util/Arrays", "fill", "([II)V"⟩ ∈ lw_gd := wk_6 (i := 130) (by decide +kernel) rfl
theorem wm_1441 : Cond.methodLink "WeekBoats$Vans" 89 ⟨"WeekBoats$Vans", "comesAt", "(II)I"⟩ ∈ lw_gd := wk_6 (i := 131) (by decide +kernel) rfl
theorem wm_1443 : Cond.instanceMethod ⟨"WeekBoats$Vans", "comesAt", "(II)I"⟩ ∈ lw_gd := wk_6 (i := 133) (by decide +kernel) rfl
set_option maxRecDepth 100000 in
theorem wm_1444 : Cond.code ⟨"WeekBoats$Vans", "comesAt", "(II)I"⟩ prog_10_method_10_code 3 (some .int) ∈ lw_gd := wk_6 (i := 134) rfl rfl
theorem wm_1445 : Cond.methodLink "WeekBoats" 381 ⟨"WeekBoats$Vans", "takerOf", "(I)I"⟩ ∈ lw_gd := wk_6 (i := 135) (by decide +kernel) rfl
theorem wm_1446 : Cond.instanceMethod ⟨"WeekBoats$Vans", "takerOf", "(I)I"⟩ ∈ lw_gd := wk_6 (i := 136) (by decide +kernel) rfl
theorem wm_1447 : Cond.selects "WeekBoats$Vans" ⟨"WeekBoats$Vans", "takerOf", "(I)I"⟩ ⟨"WeekBoats$Vans", "takerOf", "(I)I"⟩ ∈ lw_gd := wk_6 (i := 137) (by decide +kernel) rfl
set_option maxRecDepth 100000 in
theorem wm_1448 : Cond.code ⟨"WeekBoats$Vans", "takerOf", "(I)I"⟩ prog_10_method_11_code 2 (some .int) ∈ lw_gd := wk_6 (i := 138) rfl rfl
theorem wm_1450 : Cond.methodLink "WeekBoatsLaw" 172 ⟨"WeekBoats", "left", "(IIIII)I"⟩ ∈ lw_gd := wk_6 (i := 140) (by decide +kernel) rfl
theorem wm_1451 : Cond.instanceMethod ⟨"WeekBoats", "left", "(IIIII)I"⟩ ∈ lw_gd := wk_6 (i := 141) (by decide +kernel) rfl
theorem wm_1452 : Cond.selects "WeekBoats" ⟨"WeekBoats", "left", "(IIIII)I"⟩ ⟨"WeekBoats", "left", "(IIIII)I"⟩ ∈ lw_gd := wk_6 (i := 142) (by decide +kernel) rfl
set_option maxRecDepth 100000 in
theorem wm_1453 : Cond.code ⟨"WeekBoats", "left", "(IIIII)I"⟩ prog_1_method_47_code 7 (some .int) ∈ lw_gd := wk_6 (i := 143) rfl rfl
theorem wm_1454 : Cond.methodLink "WeekBoats" 384 ⟨"WeekBoats", "isWeather", "(IIII)Z"⟩ ∈ lw_gd := wk_6 (i := 144) (by decide +kernel) rfl
theorem wm_1455 : Cond.static ⟨"WeekBoats", "isWeather", "(IIII)Z"⟩ ∈ lw_gd := wk_6 (i := 145) (by decide +kernel) rfl
set_option maxRecDepth 100000 in
theorem wm_1456 : Cond.code ⟨"WeekBoats", "isWeather", "(IIII)Z"⟩ prog_1_method_48_code 4 (some .boolean) ∈ lw_gd := wk_6 (i := 146) rfl rfl
theorem wm_1457 : Cond.methodLink "WeekBoats" 387 ⟨"WeekBoats$Rain", "start", "(II)V"⟩ ∈ lw_gd := wk_6 (i := 147) (by decide +kernel) rfl
theorem wm_1458 : Cond.instanceMethod ⟨"WeekBoats$Rain", "start", "(II)V"⟩ ∈ lw_gd := wk_6 (i := 148) (by decide +kernel) rfl
theorem wm_1459 : Cond.selects "WeekBoats$Rain" ⟨"WeekBoats$Rain", "start", "(II)V"⟩ ⟨"WeekBoats$Rain", "start", "(II)V"⟩ ∈ lw_gd := wk_6 (i := 149) (by decide +kernel) rfl
set_option maxRecDepth 100000 in
theorem wm_1460 : Cond.code ⟨"WeekBoats$Rain", "start", "(II)V"⟩ prog_7_method_2_code 3 none ∈ lw_gd := wk_6 (i := 150) rfl rfl
theorem wm_1461 : Cond.methodLink "WeekBoats$Rain" 18 ⟨"java/util/Arrays", "fill", "([II)V"⟩ ∈ lw_gd := wk_6 (i := 151) (by decide +kernel) rfl
theorem wm_1462 : Cond.constant "WeekBoats$Rain" 24 1000000 ∈ lw_gd := wk_6 (i := 152) (by decide +kernel) rfl
theorem wm_1463 : Cond.methodLink "WeekBoats" 390 ⟨"WeekBoats$Rain", "passDay", "(IIII)V"⟩ ∈ lw_gd := wk_6 (i := 153) (by decide +kernel) rfl
theorem wm_1464 : Cond.instanceMethod ⟨"WeekBoats$Rain", "passDay", "(IIII)V"⟩ ∈ lw_gd := wk_6 (i := 154) (by decide +kernel) rfl
theorem wm_1465 : Cond.selects "WeekBoats$Rain" ⟨"WeekBoats$Rain", "passDay", "(IIII)V"⟩ ⟨"WeekBoats$Rain", "passDay", "(IIII)V"⟩ ∈ lw_gd := wk_6 (i := 155) (by decide +kernel) rfl
set_option maxRecDepth 100000 in
theorem wm_1466 : Cond.code ⟨"WeekBoats$Rain", "passDay", "(IIII)V"⟩ prog_7_method_3_code 8 none ∈ lw_gd := wk_6 (i := 156) rfl rfl
theorem wm_1467 : Cond.methodLink "WeekBoats$Rain" 29 ⟨"java/lang/Math", "max", "(II)I"⟩ ∈ lw_gd := wk_6 (i := 157) (by decide +kernel) rfl
theorem wm_1468 : Cond.methodLink "WeekBoats$Rain" 35 ⟨"java/lang/Math", "min", "(II)I"⟩ ∈ lw_gd := wk_6 (i := 158) (by decide +kernel) rfl
theorem wm_1469 : Cond.methodLink "WeekBoatsLaw" 176 ⟨"WeekBoats", "shuts", "(IIII)I"⟩ ∈ lw_gd := wk_6 (i := 159) (by decide +kernel) rfl
theorem wm_1470 : Cond.instanceMethod ⟨"WeekBoats", "shuts", "(IIII)I"⟩ ∈ lw_gd := wk_6 (i := 160) (by decide +kernel) rfl
theorem wm_1471 : Cond.selects "WeekBoats" ⟨"WeekBoats", "shuts", "(IIII)I"⟩ ⟨"WeekBoats", "shuts", "(IIII)I"⟩ ∈ lw_gd := wk_6 (i := 161) (by decide +kernel) rfl
set_option maxRecDepth 100000 in
theorem wm_1472 : Cond.code ⟨"WeekBoats", "shuts", "(IIII)I"⟩ prog_1_method_49_code 6 (some .int) ∈ lw_gd := wk_6 (i := 162) rfl rfl
theorem wm_1473 : Cond.constant "WeekBoats" 397 500000 ∈ lw_gd := wk_6 (i := 163) (by decide +kernel) rfl
theorem wm_1474 : Cond.methodLink "WeekBoatsLaw" 180 ⟨"WeekBoats", "price", "(IIZ)I"⟩ ∈ lw_gd := wk_6 (i := 164) (by decide +kernel) rfl
theorem wm_1475 : Cond.instanceMethod ⟨"WeekBoats", "price", "(IIZ)I"⟩ ∈ lw_gd := wk_6 (i := 165) (by decide +kernel) rfl
theorem wm_1476 : Cond.selects "WeekBoats" ⟨"WeekBoats", "price", "(IIZ)I"⟩ ⟨"WeekBoats", "price", "(IIZ)I"⟩ ∈ lw_gd := wk_6 (i := 166) (by decide +kernel) rfl
set_option maxRecDepth 100000 in
theorem wm_1477 : Cond.code ⟨"WeekBoats", "price", "(IIZ)I"⟩ prog_1_method_50_code 5 (some .int) ∈ lw_gd := wk_6 (i := 167) rfl rfl
theorem wm_1478 : Cond.methodLink "WeekBoats" 398 ⟨"WeekBoats$Boats", "priceLine", "(IIZ)I"⟩ ∈ lw_gd := wk_6 (i := 168) (by decide +kernel) rfl
theorem wm_1479 : Cond.methodLink "WeekBoats" 402 ⟨"WeekBoats$Rules", "valueOf", "(I)I"⟩ ∈ lw_gd := wk_6 (i := 169) (by decide +kernel) rfl
theorem wm_1480 : Cond.methodLink "WeekBoatsLaw" 185 ⟨"WeekBoats", "held", "(IIII)I"⟩ ∈ lw_gd := wk_6 (i := 170) (by decide +kernel) rfl
theorem wm_1481 : Cond.instanceMethod ⟨"WeekBoats", "held", "(IIII)I"⟩ ∈ lw_gd := wk_6 (i := 171) (by decide +kernel) rfl
theorem wm_1482 : Cond.selects "WeekBoats" ⟨"WeekBoats", "held", "(IIII)I"⟩ ⟨"WeekBoats", "held", "(IIII)I"⟩ ∈ lw_gd := wk_6 (i := 172) (by decide +kernel) rfl
set_option maxRecDepth 100000 in
theorem wm_1483 : Cond.code ⟨"WeekBoats", "held", "(IIII)I"⟩ prog_1_method_51_code 6 (some .int) ∈ lw_gd := wk_6 (i := 173) rfl rfl
theorem wm_1484 : Cond.methodLink "WeekBoats" 405 ⟨"WeekBoats$Boats", "holdLine", "(IIII)I"⟩ ∈ lw_gd := wk_6 (i := 174) (by decide +kernel) rfl
theorem wm_1485 : Cond.instanceMethod ⟨"WeekBoats$Boats", "holdLine", "(IIII)I"⟩ ∈ lw_gd := wk_6 (i := 175) (by decide +kernel) rfl
theorem wm_1486 : Cond.selects "WeekBoats$Boats" ⟨"WeekBoats$Boats", "holdLine", "(IIII)I"⟩ ⟨"WeekBoats$Boats", "holdLine", "(IIII)I"⟩ ∈ lw_gd := wk_6 (i := 176) (by decide +kernel) rfl
set_option maxRecDepth 100000 in
theorem wm_1487 : Cond.code ⟨"WeekBoats$Boats", "holdLine", "(IIII)I"⟩ prog_2_method_14_code 5 (some .int) ∈ lw_gd := wk_6 (i := 177) rfl rfl
theorem wm_1488 : Cond.methodLink "WeekBoatsLaw" 189 ⟨"WeekBoats", "look", "(I)I"⟩ ∈ lw_gd := wk_6 (i := 178) (by decide +kernel) rfl
theorem wm_1489 : Cond.instanceMethod ⟨"WeekBoats", "look", "(I)I"⟩ ∈ lw_gd := wk_6 (i := 179) (by decide +kernel) rfl
theorem wm_1490 : Cond.selects "WeekBoats" ⟨"WeekBoats", "look", "(I)I"⟩ ⟨"WeekBoats", "look", "(I)I"⟩ ∈ lw_gd := wk_6 (i := 180) (by decide +kernel) rfl
set_option maxRecDepth 100000 in
theorem wm_1491 : Cond.code ⟨"WeekBoats", "look", "(I)I"⟩ prog_1_method_52_code 2 (some .int) ∈ lw_gd := wk_6 (i := 181) rfl rfl
theorem wm_1494 : Cond.methodLink "WeekBoatsLaw" 12 ⟨"WeekBoatsModel", "<init>", "()V"⟩ ∈ lw_gd := wk_6 (i := 184) (by decide +kernel) rfl
theorem wm_1495 : Cond.instanceMethod ⟨"WeekBoatsModel", "<init>", "()V"⟩ ∈ lw_gd := wk_6 (i := 185) (by decide +kernel) rfl
theorem wm_1497 : Cond.methodLink "WeekBoatsModel" 7 ⟨"java/lang/Object", "<init>", "()V"⟩ ∈ lw_gd := wk_6 (i := 187) (by decide +kernel) rfl
theorem wm_1498 : Cond.fieldLink "WeekBoatsModel" 13 "WeekBoatsModel" "miles" "[I" ∈ lw_gd := wk_6 (i := 188) (by decide +kernel) rfl
theorem wm_1499 : Cond.fieldLink "WeekBoatsModel" 17 "WeekBoatsModel" "locks" "[I" ∈ lw_gd := wk_6 (i := 189) (by decide +kernel) rfl
theorem wm_1500 : Cond.fieldLink "WeekBoatsModel" 20 "WeekBoatsModel" "road" "[I" ∈ lw_gd := wk_6 (i := 190) (by decide +kernel) rfl
theorem wm_1501 : Cond.fieldLink "WeekBoatsModel" 23 "WeekBoatsModel" "stopAt" "[I" ∈ lw_gd := wk_6 (i := 191) (by decide +kernel) rfl
theorem wm_1502 : Cond.fieldLink "WeekBoatsModel" 26 "WeekBoatsModel" "stopFrom" "[I" ∈ lw_gd := wk_6 (i := 192) (by decide +kernel) rfl
theorem wm_1503 : Cond.fieldLink "WeekBoatsModel" 29 "WeekBoatsModel" "stopTo" "[I" ∈ lw_gd := wk_6 (i := 193) (by decide +kernel) rfl
theorem wm_1504 : Cond.fieldLink "WeekBoatsModel" 32 "WeekBoatsModel" "berthsOf" "[I" ∈ lw_gd := wk_6 (i := 194) (by decide +kernel) rfl
theorem wm_1505 : Cond.fieldLink "WeekBoatsModel" 35 "WeekBoatsModel" "ageOf" "[I" ∈ lw_gd := wk_6 (i := 195) (by decide +kernel) rfl
theorem wm_1506 : Cond.fieldLink "WeekBoatsModel" 38 "WeekBoatsModel" "homeOf" "[I" ∈ lw_gd := wk_6 (i := 196) (by decide +kernel) rfl
theorem wm_1507 : Cond.fieldLink "WeekBoatsModel" 41 "WeekBoatsModel" "taughtOf" "[I" ∈ lw_gd := wk_6 (i := 197) (by decide +kernel) rfl
theorem wm_1508 : Cond.fieldLink "WeekBoatsModel" 44 "WeekBoatsModel" "water" "I" ∈ lw_gd := wk_6 (i := 198) (by decide +kernel) rfl
theorem wm_1509 : Cond.fieldLink "WeekBoatsModel" 232 "WeekBoatsModel" "stops" "I" ∈ lw_gd := wk_6 (i := 199) (by decide +kernel) rfl
theorem wm_1510 : Cond.fieldLink "WeekBoatsModel" 235 "WeekBoatsModel" "boats" "I" ∈ lw_gd := wk_6 (i := 200) (by decide +kernel) rfl
theorem wm_1511 : Cond.fieldLink "WeekBoatsModel" 48 "WeekBoatsModel" "lineSort" "[I" ∈ lw_gd := wk_6 (i := 201) (by decide +kernel) rfl
theorem wm_1512 : Cond.fieldLink "WeekBoatsModel" 51 "WeekBoatsModel" "lineOne" "[I" ∈ lw_gd := wk_6 (i := 202) (by decide +kernel) rfl
theorem wm_1513 : Cond.fieldLink "WeekBoatsModel" 54 "WeekBoatsModel" "lineTwo" "[I" ∈ lw_gd := wk_6 (i := 203) (by decide +kernel) rfl
theorem wm_1514 : Cond.fieldLink "WeekBoatsModel" 57 "WeekBoatsModel" "from" "[I" ∈ lw_gd := wk_6 (i := 204) (by decide +kernel) rfl
theorem wm_1515 : Cond.fieldLink "WeekBoatsModel" 60 "WeekBoatsModel" "mid" "[I" ∈ lw_gd := wk_6 (i := 205) (by decide +kernel) rfl
theorem wm_1516 : Cond.fieldLink "WeekBoatsModel" 63 "WeekBoatsModel" "to" "[I" ∈ lw_gd := wk_6 (i := 206) (by decide +kernel) rfl
theorem wm_1517 : Cond.fieldLink "WeekBoatsModel" 66 "WeekBoatsModel" "step" "[I" ∈ lw_gd := wk_6 (i := 207) (by decide +kernel) rfl
theorem wm_1518 : Cond.fieldLink "WeekBoatsModel" 69 "WeekBoatsModel" "freshSort" "[I" ∈ lw_gd := wk_6 (i := 208) (by decide +kernel) rfl
theorem wm_1519 : Cond.fieldLink "WeekBoatsModel" 72 "WeekBoatsModel" "freshOne" "[I" ∈ lw_gd := wk_6 (i := 209) (by decide +kernel) rfl
theorem wm_1520 : Cond.fieldLink "WeekBoatsModel" 75 "WeekBoatsModel" "freshTwo" "[I" ∈ lw_gd := wk_6 (i := 210) (by decide +kernel) rfl
theorem wm_1521 : Cond.fieldLink "WeekBoatsModel" 78 "WeekBoatsModel" "freshFrom" "[I" ∈ lw_gd := wk_6 (i := 211) (by decide +kernel) rfl
theorem wm_1522 : Cond.fieldLink "WeekBoatsModel" 81 "WeekBoatsModel" "freshMid" "[I" ∈ lw_gd := wk_6 (i := 212) (by decide +kernel) rfl
theorem wm_1523 : Cond.fieldLink "WeekBoatsModel" 84 "WeekBoatsModel" "freshTo" "[I" ∈ lw_gd := wk_6 (i := 213) (by decide +kernel) rfl
theorem wm_1524 : Cond.fieldLink "WeekBoatsModel" 87 "WeekBoatsModel" "freshStep" "[I" ∈ lw_gd := wk_6 (i := 214) (by decide +kernel) rfl
theorem wm_1525 : Cond.fieldLink "WeekBoatsModel" 90 "WeekBoatsModel" "tunnel" "[I" ∈ lw_gd := wk_6 (i := 215) (by decide +kernel) rfl
theorem wm_1526 : Cond.fieldLink "WeekBoatsModel" 93 "WeekBoatsModel" "freshTunnel" "[I" ∈ lw_gd := wk_6 (i := 216) (by decide +kernel) rfl
theorem wm_1527 : Cond.fieldLink "WeekBoatsModel" 96 "WeekBoatsModel" "hasTunnel" "[Z" ∈ lw_gd := wk_6 (i := 217) (by decide +kernel) rfl
theorem wm_1528 : Cond.fieldLink "WeekBoatsModel" 100 "WeekBoatsModel" "freshHas" "[Z" ∈ lw_gd := wk_6 (i := 218) (by decide +kernel) rfl
theorem wm_1529 : Cond.fieldLink "WeekBoatsModel" 103 "WeekBoatsModel" "tape" "[I" ∈ lw_gd := wk_6 (i := 219) (by decide +kernel) rfl
theorem wm_1530 : Cond.fieldLink "WeekBoatsModel" 106 "WeekBoatsModel" "pile" "[I" ∈ lw_gd := wk_6 (i := 220) (by decide +kernel) rfl
theorem wm_1531 : Cond.fieldLink "WeekBoatsModel" 109 "WeekBoatsModel" "facts" "[I" ∈ lw_gd := wk_6 (i := 221) (by decide +kernel) rfl
theorem wm_1532 : Cond.fieldLink "WeekBoatsModel" 390 "WeekBoatsModel" "lines" "I" ∈ lw_gd := wk_6 (i := 222) (by decide +kernel) rfl
theorem wm_1533 : Cond.fieldLink "WeekBoatsModel" 375 "WeekBoatsModel" "freshLines" "I" ∈ lw_gd := wk_6 (i := 223) (by decide +kernel) rfl
theorem wm_1534 : Cond.fieldLink "WeekBoatsModel" 333 "WeekBoatsModel" "steps" "I" ∈ lw_gd := wk_6 (i := 224) (by decide +kernel) rfl
theorem wm_1535 : Cond.fieldLink "WeekBoatsModel" 242 "WeekBoatsModel" "taped" "I" ∈ lw_gd := wk_6 (i := 225) (by decide +kernel) rfl
theorem wm_1536 : Cond.fieldLink "WeekBoatsModel" 245 "WeekBoatsModel" "at" "I" ∈ lw_gd := wk_6 (i := 226) (by decide +kernel) rfl
theorem wm_1537 : Cond.fieldLink "WeekBoatsModel" 306 "WeekBoatsModel" "token" "I" ∈ lw_gd := wk_6 (i := 227) (by decide +kernel) rfl
theorem wm_1538 : Cond.fieldLink "WeekBoatsModel" 248 "WeekBoatsModel" "tokenAt" "I" ∈ lw_gd := wk_6 (i := 228) (by decide +kernel) rfl
theorem wm_1539 : Cond.fieldLink "WeekBoatsModel" 318 "WeekBoatsModel" "value" "I" ∈ lw_gd := wk_6 (i := 229) (by decide +kernel) rfl
theorem wm_1540 : Cond.fieldLink "WeekBoatsModel" 321 "WeekBoatsModel" "wrong" "I" ∈ lw_gd := wk_6 (i := 230) (by decide +kernel) rfl
theorem wm_1541 : Cond.fieldLink "WeekBoatsModel" 324 "WeekBoatsModel" "wrongAt" "I" ∈ lw_gd := wk_6 (i := 231) (by decide +kernel) rfl
theorem wm_1542 : Cond.fieldLink "WeekBoatsModel" 384 "WeekBoatsModel" "faultKind" "I" ∈ lw_gd := wk_6 (i := 232) (by decide +kernel) rfl
theorem wm_1543 : Cond.fieldLink "WeekBoatsModel" 336 "WeekBoatsModel" "depth" "I" ∈ lw_gd := wk_6 (i := 233) (by decide +kernel) rfl
theorem wm_1544 : Cond.fieldLink "WeekBoatsModel" 112 "WeekBoatsModel" "faultPlace" "I" ∈ lw_gd := wk_6 (i := 234) (by decide +kernel) rfl
theorem wm_1545 : Cond.fieldLink "WeekBoatsModel" 421 "WeekBoatsModel" "counts" "Z" ∈ lw_gd := wk_6 (i := 235) (by decide +kernel) rfl
theorem wm_1546 : Cond.fieldLink "WeekBoatsModel" 425 "WeekBoatsModel" "harmed" "I" ∈ lw_gd := wk_6 (i := 236) (by decide +kernel) rfl
theorem wm_1547 : Cond.fieldLink "WeekBoatsModel" 444 "WeekBoatsModel" "trips" "I" ∈ lw_gd := wk_6 (i := 237) (by decide +kernel) rfl
theorem wm_1548 : Cond.fieldLink "WeekBoatsModel" 115 "WeekBoatsModel" "tripBoat" "[I" ∈ lw_gd := wk_6 (i := 238) (by decide +kernel) rfl
theorem wm_1549 : Cond.fieldLink "WeekBoatsModel" 118 "WeekBoatsModel" "tripFrom" "[I" ∈ lw_gd := wk_6 (i := 239) (by decide +kernel) rfl
theorem wm_1550 : Cond.fieldLink "WeekBoatsModel" 121 "WeekBoatsModel" "tripTo" "[I" ∈ lw_gd := wk_7 (i := 0) (by decide +kernel) rfl
theorem wm_1551 : Cond.fieldLink "WeekBoatsModel" 124 "WeekBoatsModel" "tripTime" "[I" ∈ lw_gd := wk_7 (i := 1) (by decide +kernel) rfl
theorem wm_1552 : Cond.fieldLink "WeekBoatsModel" 127 "WeekBoatsModel" "tripDue" "[I" ∈ lw_gd := wk_7 (i := 2) (by decide +kernel) rfl
theorem wm_1553 : Cond.fieldLink "WeekBoatsModel" 130 "WeekBoatsModel" "isPump" "[Z" ∈ lw_gd := wk_7 (i := 3) (by decide +kernel) rfl
theorem wm_1554 : Cond.fieldLink "WeekBoatsModel" 133 "WeekBoatsModel" "logMany" "[I" ∈ lw_gd := wk_7 (i := 4) (by decide +kernel) rfl
theorem wm_1555 : Cond.fieldLink "WeekBoatsModel" 136 "WeekBoatsModel" "logPoint" "[I" ∈ lw_gd := wk_7 (i := 5) (by decide +kernel) rfl
theorem wm_1556 : Cond.fieldLink "WeekBoatsModel" 139 "WeekBoatsModel" "logTime" "[I" ∈ lw_gd := wk_7 (i := 6) (by decide +kernel) rfl
theorem wm_1557 : Cond.fieldLink "WeekBoatsModel" 475 "WeekBoatsModel" "queued" "I" ∈ lw_gd := wk_7 (i := 7) (by decide +kernel) rfl
theorem wm_1558 : Cond.fieldLink "WeekBoatsModel" 142 "WeekBoatsModel" "comesAt" "[I" ∈ lw_gd := wk_7 (i := 8) (by decide +kernel) rfl
theorem wm_1559 : Cond.fieldLink "WeekBoatsModel" 145 "WeekBoatsModel" "goesWay" "[I" ∈ lw_gd := wk_7 (i := 9) (by decide +kernel) rfl
theorem wm_1560 : Cond.fieldLink "WeekBoatsModel" 148 "WeekBoatsModel" "order" "[I" ∈ lw_gd := wk_7 (i := 10) (by decide +kernel) rfl
theorem wm_1561 : Cond.fieldLink "WeekBoatsModel" 151 "WeekBoatsModel" "best" "[I" ∈ lw_gd := wk_7 (i := 11) (by decide +kernel) rfl
theorem wm_1562 : Cond.fieldLink "WeekBoatsModel" 481 "WeekBoatsModel" "bestWait" "I" ∈ lw_gd := wk_7 (i := 12) (by decide +kernel) rfl
theorem wm_1563 : Cond.fieldLink "WeekBoatsModel" 493 "WeekBoatsModel" "bookings" "I" ∈ lw_gd := wk_7 (i := 13) (by decide +kernel) rfl
theorem wm_1564 : Cond.fieldLink "WeekBoatsModel" 496 "WeekBoatsModel" "served" "I" ∈ lw_gd := wk_7 (i := 14) (by decide +kernel) rfl
theorem wm_1565 : Cond.fieldLink "WeekBoatsModel" 499 "WeekBoatsModel" "atHome" "I" ∈ lw_gd := wk_7 (i := 15) (by decide +kernel) rfl
theorem wm_1566 : Cond.fieldLink "WeekBoatsModel" 154 "WeekBoatsModel" "bookFrom" "[I" ∈ lw_gd := wk_7 (i := 16) (by decide +kernel) rfl
theorem wm_1567 : Cond.fieldLink "WeekBoatsModel" 157 "WeekBoatsModel" "bookTo" "[I" ∈ lw_gd := wk_7 (i := 17) (by decide +kernel) rfl
theorem wm_1568 : Cond.fieldLink "WeekBoatsModel" 160 "WeekBoatsModel" "bookWeek" "[I" ∈ lw_gd := wk_7 (i := 18) (by decide +kernel) rfl
theorem wm_1569 : Cond.fieldLink "WeekBoatsModel" 163 "WeekBoatsModel" "bookBerths" "[I" ∈ lw_gd := wk_7 (i := 19) (by decide +kernel) rfl
theorem wm_1570 : Cond.fieldLink "WeekBoatsModel" 166 "WeekBoatsModel" "goneThrough" "[I" ∈ lw_gd := wk_7 (i := 20) (by decide +kernel) rfl
end
section
theorem wm_1571 : Cond.fieldLink "WeekBoatsModel" 169 "WeekBoatsModel" "gives" "[I" ∈ lw_gd := wk_7 (i := 21) (by decide +kernel) rfl
theorem wm_1572 : Cond.fieldLink "WeekBoatsModel" 172 "WeekBoatsModel" "given" "[I" ∈ lw_gd := wk_7 (i := 22) (by decide +kernel) rfl
theorem wm_1573 : Cond.fieldLink "WeekBoatsModel" 175 "WeekBoatsModel" "where" "[I" ∈ lw_gd := wk_7 (i := 23) (by decide +kernel) rfl
theorem wm_1574 : Cond.fieldLink "WeekBoatsModel" 178 "WeekBoatsModel" "busy" "[I" ∈ lw_gd := wk_7 (i := 24) (by decide +kernel) rfl
theorem wm_1575 : Cond.fieldLink "WeekBoatsModel" 181 "WeekBoatsModel" "askBerths" "[I" ∈ lw_gd := wk_7 (i := 25) (by decide +kernel) rfl
theorem wm_1576 : Cond.fieldLink "WeekBoatsModel" 184 "WeekBoatsModel" "askHome" "[I" ∈ lw_gd := wk_7 (i := 26) (by decide +kernel) rfl
theorem wm_1577 : Cond.fieldLink "WeekBoatsModel" 187 "WeekBoatsModel" "date" "[I" ∈ lw_gd := wk_7 (i := 27) (by decide +kernel) rfl
theorem wm_1578 : Cond.fieldLink "WeekBoatsModel" 190 "WeekBoatsModel" "days" "[I" ∈ lw_gd := wk_7 (i := 28) (by decide +kernel) rfl
theorem wm_1579 : Cond.fieldLink "WeekBoatsModel" 193 "WeekBoatsModel" "docked" "[I" ∈ lw_gd := wk_7 (i := 29) (by decide +kernel) rfl
theorem wm_1580 : Cond.fieldLink "WeekBoatsModel" 196 "WeekBoatsModel" "dockOrder" "[I" ∈ lw_gd := wk_7 (i := 30) (by decide +kernel) rfl
theorem wm_1581 : Cond.fieldLink "WeekBoatsModel" 199 "WeekBoatsModel" "dockBest" "[I" ∈ lw_gd := wk_7 (i := 31) (by decide +kernel) rfl
theorem wm_1582 : Cond.fieldLink "WeekBoatsModel" 515 "WeekBoatsModel" "docks" "I" ∈ lw_gd := wk_7 (i := 32) (by decide +kernel) rfl
theorem wm_1583 : Cond.fieldLink "WeekBoatsModel" 518 "WeekBoatsModel" "leastLate" "I" ∈ lw_gd := wk_7 (i := 33) (by decide +kernel) rfl
theorem wm_1584 : Cond.fieldLink "WeekBoatsModel" 521 "WeekBoatsModel" "leastSum" "I" ∈ lw_gd := wk_7 (i := 34) (by decide +kernel) rfl
theorem wm_1585 : Cond.fieldLink "WeekBoatsModel" 528 "WeekBoatsModel" "jobs" "I" ∈ lw_gd := wk_7 (i := 35) (by decide +kernel) rfl
theorem wm_1586 : Cond.fieldLink "WeekBoatsModel" 202 "WeekBoatsModel" "job" "[I" ∈ lw_gd := wk_7 (i := 36) (by decide +kernel) rfl
theorem wm_1587 : Cond.fieldLink "WeekBoatsModel" 205 "WeekBoatsModel" "ends" "[I" ∈ lw_gd := wk_7 (i := 37) (by decide +kernel) rfl
theorem wm_1588 : Cond.fieldLink "WeekBoatsModel" 531 "WeekBoatsModel" "over" "I" ∈ lw_gd := wk_7 (i := 38) (by decide +kernel) rfl
theorem wm_1589 : Cond.fieldLink "WeekBoatsModel" 208 "WeekBoatsModel" "weights" "[I" ∈ lw_gd := wk_7 (i := 39) (by decide +kernel) rfl
theorem wm_1590 : Cond.fieldLink "WeekBoatsModel" 555 "WeekBoatsModel" "calls" "I" ∈ lw_gd := wk_7 (i := 40) (by decide +kernel) rfl
theorem wm_1591 : Cond.fieldLink "WeekBoatsModel" 211 "WeekBoatsModel" "callMinute" "[I" ∈ lw_gd := wk_7 (i := 41) (by decide +kernel) rfl
theorem wm_1592 : Cond.fieldLink "WeekBoatsModel" 214 "WeekBoatsModel" "callPoint" "[I" ∈ lw_gd := wk_7 (i := 42) (by decide +kernel) rfl
theorem wm_1593 : Cond.fieldLink "WeekBoatsModel" 217 "WeekBoatsModel" "callWork" "[I" ∈ lw_gd := wk_7 (i := 43) (by decide +kernel) rfl
theorem wm_1594 : Cond.fieldLink "WeekBoatsModel" 220 "WeekBoatsModel" "vanAt" "[I" ∈ lw_gd := wk_7 (i := 44) (by decide +kernel) rfl
theorem wm_1595 : Cond.fieldLink "WeekBoatsModel" 223 "WeekBoatsModel" "vanFree" "[I" ∈ lw_gd := wk_7 (i := 45) (by decide +kernel) rfl
theorem wm_1596 : Cond.fieldLink "WeekBoatsModel" 226 "WeekBoatsModel" "chances" "[I" ∈ lw_gd := wk_7 (i := 46) (by decide +kernel) rfl
theorem wm_1597 : Cond.fieldLink "WeekBoatsModel" 229 "WeekBoatsModel" "later" "[I" ∈ lw_gd := wk_7 (i := 47) (by decide +kernel) rfl
theorem wm_1598 : Cond.fieldLink "WeekBoatsModel" 454 "WeekBoatsModel" "isPriced" "Z" ∈ lw_gd := wk_7 (i := 48) (by decide +kernel) rfl
theorem wm_1803 : Cond.methodLink "WeekBoatsLaw" 17 ⟨"WeekBoatsModel", "stretch", "(IIII)Z"⟩ ∈ lw_gd := wk_8 (i := 13) (by decide +kernel) rfl
theorem wm_1804 : Cond.instanceMethod ⟨"WeekBoatsModel", "stretch", "(IIII)Z"⟩ ∈ lw_gd := wk_8 (i := 14) (by decide +kernel) rfl
theorem wm_1805 : Cond.selects "WeekBoatsModel" ⟨"WeekBoatsModel", "stretch", "(IIII)Z"⟩ ⟨"WeekBoatsModel", "stretch", "(IIII)Z"⟩ ∈ lw_gd := wk_8 (i := 15) (by decide +kernel) rfl
set_option maxRecDepth 100000 in
theorem wm_1806 : Cond.code ⟨"WeekBoatsModel", "stretch", "(IIII)Z"⟩ prog_14_method_5_code 5 (some .boolean) ∈ lw_gd := wk_8 (i := 16) rfl rfl
theorem wm_1807 : Cond.methodLink "WeekBoatsModel" 3 ⟨"WeekBoatsModel", "isIn", "(III)Z"⟩ ∈ lw_gd := wk_8 (i := 17) (by decide +kernel) rfl
theorem wm_1808 : Cond.static ⟨"WeekBoatsModel", "isIn", "(III)Z"⟩ ∈ lw_gd := wk_8 (i := 18) (by decide +kernel) rfl
set_option maxRecDepth 100000 in
theorem wm_1809 : Cond.code ⟨"WeekBoatsModel", "isIn", "(III)Z"⟩ prog_14_method_1_code 3 (some .boolean) ∈ lw_gd := wk_8 (i := 19) rfl rfl
theorem wm_1810 : Cond.methodLink "WeekBoatsLaw" 22 ⟨"WeekBoatsModel", "water", "(I)Z"⟩ ∈ lw_gd := wk_8 (i := 20) (by decide +kernel) rfl
theorem wm_1811 : Cond.instanceMethod ⟨"WeekBoatsModel", "water", "(I)Z"⟩ ∈ lw_gd := wk_8 (i := 21) (by decide +kernel) rfl
theorem wm_1812 : Cond.selects "WeekBoatsModel" ⟨"WeekBoatsModel", "water", "(I)Z"⟩ ⟨"WeekBoatsModel", "water", "(I)Z"⟩ ∈ lw_gd := wk_8 (i := 22) (by decide +kernel) rfl
set_option maxRecDepth 100000 in
theorem wm_1813 : Cond.code ⟨"WeekBoatsModel", "water", "(I)Z"⟩ prog_14_method_6_code 2 (some .boolean) ∈ lw_gd := wk_8 (i := 23) rfl rfl
theorem wm_1814 : Cond.methodLink "WeekBoatsLaw" 27 ⟨"WeekBoatsModel", "stoppage", "(III)I"⟩ ∈ lw_gd := wk_8 (i := 24) (by decide +kernel) rfl
theorem wm_1815 : Cond.instanceMethod ⟨"WeekBoatsModel", "stoppage", "(III)I"⟩ ∈ lw_gd := wk_8 (i := 25) (by decide +kernel) rfl
theorem wm_1816 : Cond.selects "WeekBoatsModel" ⟨"WeekBoatsModel", "stoppage", "(III)I"⟩ ⟨"WeekBoatsModel", "stoppage", "(III)I"⟩ ∈ lw_gd := wk_8 (i := 26) (by decide +kernel) rfl
set_option maxRecDepth 100000 in
theorem wm_1817 : Cond.code ⟨"WeekBoatsModel", "stoppage", "(III)I"⟩ prog_14_method_7_code 4 (some .int) ∈ lw_gd := wk_8 (i := 27) rfl rfl
theorem wm_1818 : Cond.methodLink "WeekBoatsLaw" 32 ⟨"WeekBoatsModel", "boat", "(IIII)I"⟩ ∈ lw_gd := wk_8 (i := 28) (by decide +kernel) rfl
theorem wm_1819 : Cond.instanceMethod ⟨"WeekBoatsModel", "boat", "(IIII)I"⟩ ∈ lw_gd := wk_8 (i := 29) (by decide +kernel) rfl
theorem wm_1820 : Cond.selects "WeekBoatsModel" ⟨"WeekBoatsModel", "boat", "(IIII)I"⟩ ⟨"WeekBoatsModel", "boat", "(IIII)I"⟩ ∈ lw_gd := wk_8 (i := 30) (by decide +kernel) rfl
set_option maxRecDepth 100000 in
theorem wm_1821 : Cond.code ⟨"WeekBoatsModel", "boat", "(IIII)I"⟩ prog_14_method_9_code 5 (some .int) ∈ lw_gd := wk_8 (i := 31) rfl rfl
theorem wm_1822 : Cond.methodLink "WeekBoatsModel" 238 ⟨"WeekBoatsModel", "isPoint", "(I)Z"⟩ ∈ lw_gd := wk_8 (i := 32) (by decide +kernel) rfl
theorem wm_1823 : Cond.static ⟨"WeekBoatsModel", "isPoint", "(I)Z"⟩ ∈ lw_gd := wk_8 (i := 33) (by decide +kernel) rfl
set_option maxRecDepth 100000 in
theorem wm_1824 : Cond.code ⟨"WeekBoatsModel", "isPoint", "(I)Z"⟩ prog_14_method_2_code 1 (some .boolean) ∈ lw_gd := wk_8 (i := 34) rfl rfl
theorem wm_1825 : Cond.methodLink "WeekBoatsLaw" 37 ⟨"WeekBoatsModel", "feed", "(IIIII)I"⟩ ∈ lw_gd := wk_8 (i := 35) (by decide +kernel) rfl
theorem wm_1826 : Cond.instanceMethod ⟨"WeekBoatsModel", "feed", "(IIIII)I"⟩ ∈ lw_gd := wk_8 (i := 36) (by decide +kernel) rfl
theorem wm_1827 : Cond.selects "WeekBoatsModel" ⟨"WeekBoatsModel", "feed", "(IIIII)I"⟩ ⟨"WeekBoatsModel", "feed", "(IIIII)I"⟩ ∈ lw_gd := wk_8 (i := 37) (by decide +kernel) rfl
set_option maxRecDepth 100000 in
theorem wm_1828 : Cond.code ⟨"WeekBoatsModel", "feed", "(IIIII)I"⟩ prog_14_method_10_code 8 (some .int) ∈ lw_gd := wk_8 (i := 38) rfl rfl
theorem wm_1829 : Cond.methodLink "WeekBoatsLaw" 41 ⟨"WeekBoatsModel", "end", "(I)Z"⟩ ∈ lw_gd := wk_8 (i := 39) (by decide +kernel) rfl
theorem wm_1830 : Cond.instanceMethod ⟨"WeekBoatsModel", "end", "(I)Z"⟩ ∈ lw_gd := wk_8 (i := 40) (by decide +kernel) rfl
theorem wm_1831 : Cond.selects "WeekBoatsModel" ⟨"WeekBoatsModel", "end", "(I)Z"⟩ ⟨"WeekBoatsModel", "end", "(I)Z"⟩ ∈ lw_gd := wk_8 (i := 41) (by decide +kernel) rfl
set_option maxRecDepth 100000 in
theorem wm_1832 : Cond.code ⟨"WeekBoatsModel", "end", "(I)Z"⟩ prog_14_method_11_code 2 (some .boolean) ∈ lw_gd := wk_8 (i := 42) rfl rfl
theorem wm_1833 : Cond.methodLink "WeekBoatsLaw" 46 ⟨"WeekBoatsModel", "rules", "()I"⟩ ∈ lw_gd := wk_8 (i := 43) (by decide +kernel) rfl
theorem wm_1834 : Cond.instanceMethod ⟨"WeekBoatsModel", "rules", "()I"⟩ ∈ lw_gd := wk_8 (i := 44) (by decide +kernel) rfl
theorem wm_1835 : Cond.selects "WeekBoatsModel" ⟨"WeekBoatsModel", "rules", "()I"⟩ ⟨"WeekBoatsModel", "rules", "()I"⟩ ∈ lw_gd := wk_8 (i := 45) (by decide +kernel) rfl
set_option maxRecDepth 100000 in
theorem wm_1836 : Cond.code ⟨"WeekBoatsModel", "rules", "()I"⟩ prog_14_method_32_code 2 (some .int) ∈ lw_gd := wk_8 (i := 46) rfl rfl
theorem wm_1837 : Cond.methodLink "WeekBoatsModel" 330 ⟨"WeekBoatsModel", "next0", "()V"⟩ ∈ lw_gd := wk_8 (i := 47) (by decide +kernel) rfl
theorem wm_1839 : Cond.instanceMethod ⟨"WeekBoatsModel", "next0", "()V"⟩ ∈ lw_gd := wk_8 (i := 49) (by decide +kernel) rfl
set_option maxRecDepth 100000 in
theorem wm_1840 : Cond.code ⟨"WeekBoatsModel", "next0", "()V"⟩ prog_14_method_17_code 3 none ∈ lw_gd := wk_8 (i := 50) rfl rfl
theorem wm_1841 : Cond.methodLink "WeekBoatsModel" 302 ⟨"WeekBoatsModel", "see", "(I)I"⟩ ∈ lw_gd := wk_8 (i := 51) (by decide +kernel) rfl
theorem wm_1843 : Cond.instanceMethod ⟨"WeekBoatsModel", "see", "(I)I"⟩ ∈ lw_gd := wk_8 (i := 53) (by decide +kernel) rfl
set_option maxRecDepth 100000 in
theorem wm_1844 : Cond.code ⟨"WeekBoatsModel", "see", "(I)I"⟩ prog_14_method_12_code 2 (some .int) ∈ lw_gd := wk_8 (i := 54) rfl rfl
theorem wm_1845 : Cond.methodLink "WeekBoatsModel" 309 ⟨"WeekBoatsModel", "isLetter", "(I)Z"⟩ ∈ lw_gd := wk_8 (i := 55) (by decide +kernel) rfl
theorem wm_1846 : Cond.static ⟨"WeekBoatsModel", "isLetter", "(I)Z"⟩ ∈ lw_gd := wk_8 (i := 56) (by decide +kernel) rfl
set_option maxRecDepth 100000 in
theorem wm_1847 : Cond.code ⟨"WeekBoatsModel", "isLetter", "(I)Z"⟩ prog_14_method_13_code 1 (some .boolean) ∈ lw_gd := wk_8 (i := 57) rfl rfl
theorem wm_1848 : Cond.methodLink "WeekBoatsModel" 312 ⟨"WeekBoatsModel", "word", "()I"⟩ ∈ lw_gd := wk_8 (i := 58) (by decide +kernel) rfl
theorem wm_1850 : Cond.instanceMethod ⟨"WeekBoatsModel", "word", "()I"⟩ ∈ lw_gd := wk_8 (i := 60) (by decide +kernel) rfl
set_option maxRecDepth 100000 in
theorem wm_1851 : Cond.code ⟨"WeekBoatsModel", "word", "()I"⟩ prog_14_method_16_code 1 (some .int) ∈ lw_gd := wk_8 (i := 61) rfl rfl
theorem wm_1853 : Cond.methodLink "WeekBoatsModel" 262 ⟨"WeekBoatsModel", "is", "(Ljava/lang/String;)Z"⟩ ∈ lw_gd := wk_8 (i := 63) (by decide +kernel) rfl
theorem wm_1855 : Cond.instanceMethod ⟨"WeekBoatsModel", "is", "(Ljava/lang/String;)Z"⟩ ∈ lw_gd := wk_8 (i := 65) (by decide +kernel) rfl
set_option maxRecDepth 100000 in
theorem wm_1856 : Cond.code ⟨"WeekBoatsModel", "is", "(Ljava/lang/String;)Z"⟩ prog_14_method_15_code 4 (some .boolean) ∈ lw_gd := wk_8 (i := 66) rfl rfl
theorem wm_1857 : Cond.methodLink "WeekBoatsModel" 251 ⟨"java/lang/String", "length", "()I"⟩ ∈ lw_gd := wk_8 (i := 67) (by decide +kernel) rfl
theorem wm_1858 : Cond.methodLink "WeekBoatsModel" 257 ⟨"java/lang/String", "charAt", "(I)C"⟩ ∈ lw_gd := wk_8 (i := 68) (by decide +kernel) rfl
theorem wm_1878 : Cond.methodLink "WeekBoatsModel" 315 ⟨"WeekBoatsModel", "isDigit", "(I)Z"⟩ ∈ lw_gd := wk_8 (i := 88) (by decide +kernel) rfl
theorem wm_1879 : Cond.static ⟨"WeekBoatsModel", "isDigit", "(I)Z"⟩ ∈ lw_gd := wk_8 (i := 89) (by decide +kernel) rfl
set_option maxRecDepth 100000 in
theorem wm_1880 : Cond.code ⟨"WeekBoatsModel", "isDigit", "(I)Z"⟩ prog_14_method_14_code 1 (some .boolean) ∈ lw_gd := wk_8 (i := 90) rfl rfl
theorem wm_1881 : Cond.methodLink "WeekBoatsModel" 381 ⟨"WeekBoatsModel", "aLine", "()Z"⟩ ∈ lw_gd := wk_8 (i := 91) (by decide +kernel) rfl
theorem wm_1883 : Cond.instanceMethod ⟨"WeekBoatsModel", "aLine", "()Z"⟩ ∈ lw_gd := wk_8 (i := 93) (by decide +kernel) rfl
set_option maxRecDepth 100000 in
theorem wm_1884 : Cond.code ⟨"WeekBoatsModel", "aLine", "()Z"⟩ prog_14_method_31_code 3 (some .boolean) ∈ lw_gd := wk_8 (i := 94) rfl rfl
theorem wm_1885 : Cond.methodLink "WeekBoatsModel" 327 ⟨"WeekBoatsModel", "bad", "(I)Z"⟩ ∈ lw_gd := wk_8 (i := 95) (by decide +kernel) rfl
theorem wm_1887 : Cond.instanceMethod ⟨"WeekBoatsModel", "bad", "(I)Z"⟩ ∈ lw_gd := wk_8 (i := 97) (by decide +kernel) rfl
set_option maxRecDepth 100000 in
theorem wm_1888 : Cond.code ⟨"WeekBoatsModel", "bad", "(I)Z"⟩ prog_14_method_18_code 2 (some .boolean) ∈ lw_gd := wk_8 (i := 98) rfl rfl
theorem wm_1889 : Cond.methodLink "WeekBoatsModel" 378 ⟨"WeekBoatsModel", "aTunnel", "()Z"⟩ ∈ lw_gd := wk_8 (i := 99) (by decide +kernel) rfl
theorem wm_1891 : Cond.instanceMethod ⟨"WeekBoatsModel", "aTunnel", "()Z"⟩ ∈ lw_gd := wk_8 (i := 101) (by decide +kernel) rfl
set_option maxRecDepth 100000 in
theorem wm_1892 : Cond.code ⟨"WeekBoatsModel", "aTunnel", "()Z"⟩ prog_14_method_30_code 3 (some .boolean) ∈ lw_gd := wk_8 (i := 102) rfl rfl
theorem wm_1893 : Cond.methodLink "WeekBoatsModel" 349 ⟨"WeekBoatsModel", "number", "(II)Z"⟩ ∈ lw_gd := wk_8 (i := 103) (by decide +kernel) rfl
theorem wm_1895 : Cond.instanceMethod ⟨"WeekBoatsModel", "number", "(II)Z"⟩ ∈ lw_gd := wk_8 (i := 105) (by decide +kernel) rfl
set_option maxRecDepth 100000 in
theorem wm_1896 : Cond.code ⟨"WeekBoatsModel", "number", "(II)Z"⟩ prog_14_method_20_code 3 (some .boolean) ∈ lw_gd := wk_8 (i := 106) rfl rfl
theorem wm_1897 : Cond.methodLink "WeekBoatsModel" 371 ⟨"WeekBoatsModel", "hours", "([II[II)Z"⟩ ∈ lw_gd := wk_8 (i := 107) (by decide +kernel) rfl
theorem wm_1899 : Cond.instanceMethod ⟨"WeekBoatsModel", "hours", "([II[II)Z"⟩ ∈ lw_gd := wk_8 (i := 109) (by decide +kernel) rfl
set_option maxRecDepth 100000 in
theorem wm_1900 : Cond.code ⟨"WeekBoatsModel", "hours", "([II[II)Z"⟩ prog_14_method_29_code 5 (some .boolean) ∈ lw_gd := wk_8 (i := 110) rfl rfl
theorem wm_1901 : Cond.methodLink "WeekBoatsModel" 365 ⟨"WeekBoatsModel", "need", "(I)Z"⟩ ∈ lw_gd := wk_8 (i := 111) (by decide +kernel) rfl
theorem wm_1903 : Cond.instanceMethod ⟨"WeekBoatsModel", "need", "(I)Z"⟩ ∈ lw_gd := wk_8 (i := 113) (by decide +kernel) rfl
set_option maxRecDepth 100000 in
theorem wm_1904 : Cond.code ⟨"WeekBoatsModel", "need", "(I)Z"⟩ prog_14_method_19_code 2 (some .boolean) ∈ lw_gd := wk_8 (i := 114) rfl rfl
theorem wm_1905 : Cond.methodLink "WeekBoatsModel" 368 ⟨"WeekBoatsModel", "sumUp", "()Z"⟩ ∈ lw_gd := wk_8 (i := 115) (by decide +kernel) rfl
theorem wm_1907 : Cond.instanceMethod ⟨"WeekBoatsModel", "sumUp", "()Z"⟩ ∈ lw_gd := wk_8 (i := 117) (by decide +kernel) rfl
set_option maxRecDepth 100000 in
theorem wm_1908 : Cond.code ⟨"WeekBoatsModel", "sumUp", "()Z"⟩ prog_14_method_23_code 2 (some .boolean) ∈ lw_gd := wk_8 (i := 118) rfl rfl
theorem wm_1909 : Cond.methodLink "WeekBoatsModel" 338 ⟨"WeekBoatsModel", "product", "()Z"⟩ ∈ lw_gd := wk_8 (i := 119) (by decide +kernel) rfl
theorem wm_1911 : Cond.instanceMethod ⟨"WeekBoatsModel", "product", "()Z"⟩ ∈ lw_gd := wk_8 (i := 121) (by decide +kernel) rfl
set_option maxRecDepth 100000 in
theorem wm_1912 : Cond.code ⟨"WeekBoatsModel", "product", "()Z"⟩ prog_14_method_24_code 3 (some .boolean) ∈ lw_gd := wk_8 (i := 122) rfl rfl
theorem wm_1913 : Cond.methodLink "WeekBoatsModel" 346 ⟨"WeekBoatsModel", "unit", "()Z"⟩ ∈ lw_gd := wk_8 (i := 123) (by decide +kernel) rfl
theorem wm_1915 : Cond.instanceMethod ⟨"WeekBoatsModel", "unit", "()Z"⟩ ∈ lw_gd := wk_8 (i := 125) (by decide +kernel) rfl
set_option maxRecDepth 100000 in
theorem wm_1916 : Cond.code ⟨"WeekBoatsModel", "unit", "()Z"⟩ prog_14_method_25_code 2 (some .boolean) ∈ lw_gd := wk_8 (i := 126) rfl rfl
theorem wm_1917 : Cond.methodLink "WeekBoatsModel" 342 ⟨"WeekBoatsModel", "lay", "(II)V"⟩ ∈ lw_gd := wk_8 (i := 127) (by decide +kernel) rfl
theorem wm_1919 : Cond.instanceMethod ⟨"WeekBoatsModel", "lay", "(II)V"⟩ ∈ lw_gd := wk_8 (i := 129) (by decide +kernel) rfl
set_option maxRecDepth 100000 in
theorem wm_1920 : Cond.code ⟨"WeekBoatsModel", "lay", "(II)V"⟩ prog_14_method_21_code 3 none ∈ lw_gd := wk_8 (i := 130) rfl rfl
theorem wm_1921 : Cond.methodLink "WeekBoatsModel" 362 ⟨"WeekBoatsModel", "any", "()Z"⟩ ∈ lw_gd := wk_8 (i := 131) (by decide +kernel) rfl
theorem wm_1923 : Cond.instanceMethod ⟨"WeekBoatsModel", "any", "()Z"⟩ ∈ lw_gd := wk_8 (i := 133) (by decide +kernel) rfl
set_option maxRecDepth 100000 in
theorem wm_1924 : Cond.code ⟨"WeekBoatsModel", "any", "()Z"⟩ prog_14_method_26_code 1 (some .boolean) ∈ lw_gd := wk_8 (i := 134) rfl rfl
theorem wm_1925 : Cond.methodLink "WeekBoatsModel" 353 ⟨"WeekBoatsModel", "every", "()Z"⟩ ∈ lw_gd := wk_8 (i := 135) (by decide +kernel) rfl
theorem wm_1927 : Cond.instanceMethod ⟨"WeekBoatsModel", "every", "()Z"⟩ ∈ lw_gd := wk_8 (i := 137) (by decide +kernel) rfl
set_option maxRecDepth 100000 in
theorem wm_1928 : Cond.code ⟨"WeekBoatsModel", "every", "()Z"⟩ prog_14_method_27_code 1 (some .boolean) ∈ lw_gd := wk_8 (i := 138) rfl rfl
theorem wm_1929 : Cond.methodLink "WeekBoatsModel" 356 ⟨"WeekBoatsModel", "one", "()Z"⟩ ∈ lw_gd := wk_8 (i := 139) (by decide +kernel) rfl
theorem wm_1931 : Cond.instanceMethod ⟨"WeekBoatsModel", "one", "()Z"⟩ ∈ lw_gd := wk_8 (i := 141) (by decide +kernel) rfl
set_option maxRecDepth 100000 in
theorem wm_1932 : Cond.code ⟨"WeekBoatsModel", "one", "()Z"⟩ prog_14_method_28_code 2 (some .boolean) ∈ lw_gd := wk_8 (i := 142) rfl rfl
theorem wm_1933 : Cond.methodLink "WeekBoatsModel" 359 ⟨"WeekBoatsModel", "opens", "()Z"⟩ ∈ lw_gd := wk_8 (i := 143) (by decide +kernel) rfl
theorem wm_1935 : Cond.instanceMethod ⟨"WeekBoatsModel", "opens", "()Z"⟩ ∈ lw_gd := wk_8 (i := 145) (by decide +kernel) rfl
set_option maxRecDepth 100000 in
theorem wm_1936 : Cond.code ⟨"WeekBoatsModel", "opens", "()Z"⟩ prog_14_method_22_code 1 (some .boolean) ∈ lw_gd := wk_8 (i := 146) rfl rfl
theorem wm_1937 : Cond.methodLink "WeekBoatsModel" 387 ⟨"WeekBoatsModel", "keeps", "()V"⟩ ∈ lw_gd := wk_8 (i := 147) (by decide +kernel) rfl
theorem wm_1939 : Cond.instanceMethod ⟨"WeekBoatsModel", "keeps", "()V"⟩ ∈ lw_gd := wk_8 (i := 149) (by decide +kernel) rfl
set_option maxRecDepth 100000 in
theorem wm_1940 : Cond.code ⟨"WeekBoatsModel", "keeps", "()V"⟩ prog_14_method_33_code 2 none ∈ lw_gd := wk_8 (i := 150) rfl rfl
theorem wm_1941 : Cond.methodLink "WeekBoatsLaw" 51 ⟨"WeekBoatsModel", "fault", "(I)I"⟩ ∈ lw_gd := wk_8 (i := 151) (by decide +kernel) rfl
theorem wm_1942 : Cond.instanceMethod ⟨"WeekBoatsModel", "fault", "(I)I"⟩ ∈ lw_gd := wk_8 (i := 152) (by decide +kernel) rfl
theorem wm_1943 : Cond.selects "WeekBoatsModel" ⟨"WeekBoatsModel", "fault", "(I)I"⟩ ⟨"WeekBoatsModel", "fault", "(I)I"⟩ ∈ lw_gd := wk_8 (i := 153) (by decide +kernel) rfl
set_option maxRecDepth 100000 in
theorem wm_1944 : Cond.code ⟨"WeekBoatsModel", "fault", "(I)I"⟩ prog_14_method_34_code 2 (some .int) ∈ lw_gd := wk_8 (i := 154) rfl rfl
theorem wm_1945 : Cond.methodLink "WeekBoatsLaw" 56 ⟨"WeekBoatsModel", "open", "(II)I"⟩ ∈ lw_gd := wk_8 (i := 155) (by decide +kernel) rfl
theorem wm_1946 : Cond.instanceMethod ⟨"WeekBoatsModel", "open", "(II)I"⟩ ∈ lw_gd := wk_8 (i := 156) (by decide +kernel) rfl
theorem wm_1947 : Cond.selects "WeekBoatsModel" ⟨"WeekBoatsModel", "open", "(II)I"⟩ ⟨"WeekBoatsModel", "open", "(II)I"⟩ ∈ lw_gd := wk_8 (i := 157) (by decide +kernel) rfl
set_option maxRecDepth 100000 in
theorem wm_1948 : Cond.code ⟨"WeekBoatsModel", "open", "(II)I"⟩ prog_14_method_40_code 4 (some .int) ∈ lw_gd := wk_8 (i := 158) rfl rfl
theorem wm_1949 : Cond.methodLink "WeekBoatsModel" 407 ⟨"WeekBoatsModel", "locksLine", "(I)I"⟩ ∈ lw_gd := wk_8 (i := 159) (by decide +kernel) rfl
theorem wm_1951 : Cond.instanceMethod ⟨"WeekBoatsModel", "locksLine", "(I)I"⟩ ∈ lw_gd := wk_8 (i := 161) (by decide +kernel) rfl
set_option maxRecDepth 100000 in
theorem wm_1952 : Cond.code ⟨"WeekBoatsModel", "locksLine", "(I)I"⟩ prog_14_method_39_code 2 (some .int) ∈ lw_gd := wk_8 (i := 162) rfl rfl
theorem wm_1953 : Cond.methodLink "WeekBoatsModel" 401 ⟨"WeekBoatsModel", "forgets", "()V"⟩ ∈ lw_gd := wk_8 (i := 163) (by decide +kernel) rfl
theorem wm_1955 : Cond.instanceMethod ⟨"WeekBoatsModel", "forgets", "()V"⟩ ∈ lw_gd := wk_8 (i := 165) (by decide +kernel) rfl
set_option maxRecDepth 100000 in
theorem wm_1956 : Cond.code ⟨"WeekBoatsModel", "forgets", "()V"⟩ prog_14_method_38_code 2 none ∈ lw_gd := wk_8 (i := 166) rfl rfl
theorem wm_1957 : Cond.methodLink "WeekBoatsModel" 404 ⟨"WeekBoatsModel", "serves", "(I)I"⟩ ∈ lw_gd := wk_8 (i := 167) (by decide +kernel) rfl
theorem wm_1959 : Cond.instanceMethod ⟨"WeekBoatsModel", "serves", "(I)I"⟩ ∈ lw_gd := wk_8 (i := 169) (by decide +kernel) rfl
set_option maxRecDepth 100000 in
theorem wm_1960 : Cond.code ⟨"WeekBoatsModel", "serves", "(I)I"⟩ prog_14_method_37_code 3 (some .int) ∈ lw_gd := wk_8 (i := 170) rfl rfl
theorem wm_1961 : Cond.methodLink "WeekBoatsModel" 397 ⟨"WeekBoatsModel", "comesTo", "(II)I"⟩ ∈ lw_gd := wk_8 (i := 171) (by decide +kernel) rfl
theorem wm_1963 : Cond.instanceMethod ⟨"WeekBoatsModel", "comesTo", "(II)I"⟩ ∈ lw_gd := wk_8 (i := 173) (by decide +kernel) rfl
set_option maxRecDepth 100000 in
theorem wm_1964 : Cond.code ⟨"WeekBoatsModel", "comesTo", "(II)I"⟩ prog_14_method_36_code 7 (some .int) ∈ lw_gd := wk_8 (i := 174) rfl rfl
theorem wm_1965 : Cond.methodLink "WeekBoatsModel" 393 ⟨"WeekBoatsModel", "both", "(III)I"⟩ ∈ lw_gd := wk_8 (i := 175) (by decide +kernel) rfl
theorem wm_1966 : Cond.static ⟨"WeekBoatsModel", "both", "(III)I"⟩ ∈ lw_gd := wk_8 (i := 176) (by decide +kernel) rfl
set_option maxRecDepth 100000 in
theorem wm_1967 : Cond.code ⟨"WeekBoatsModel", "both", "(III)I"⟩ prog_14_method_35_code 3 (some .int) ∈ lw_gd := wk_8 (i := 177) rfl rfl
theorem wm_1968 : Cond.methodLink "WeekBoatsLaw" 60 ⟨"WeekBoatsModel", "comes", "(IIII)I"⟩ ∈ lw_gd := wk_8 (i := 178) (by decide +kernel) rfl
theorem wm_1969 : Cond.instanceMethod ⟨"WeekBoatsModel", "comes", "(IIII)I"⟩ ∈ lw_gd := wk_8 (i := 179) (by decide +kernel) rfl
theorem wm_1970 : Cond.selects "WeekBoatsModel" ⟨"WeekBoatsModel", "comes", "(IIII)I"⟩ ⟨"WeekBoatsModel", "comes", "(IIII)I"⟩ ∈ lw_gd := wk_8 (i := 180) (by decide +kernel) rfl
set_option maxRecDepth 100000 in
theorem wm_1971 : Cond.code ⟨"WeekBoatsModel", "comes", "(IIII)I"⟩ prog_14_method_47_code 5 (some .int) ∈ lw_gd := wk_8 (i := 181) rfl rfl
theorem wm_1972 : Cond.methodLink "WeekBoatsModel" 435 ⟨"WeekBoatsModel", "isBoat", "(I)Z"⟩ ∈ lw_gd := wk_8 (i := 182) (by decide +kernel) rfl
theorem wm_1974 : Cond.instanceMethod ⟨"WeekBoatsModel", "isBoat", "(I)Z"⟩ ∈ lw_gd := wk_8 (i := 184) (by decide +kernel) rfl
set_option maxRecDepth 100000 in
theorem wm_1975 : Cond.code ⟨"WeekBoatsModel", "isBoat", "(I)Z"⟩ prog_14_method_8_code 2 (some .boolean) ∈ lw_gd := wk_8 (i := 185) rfl rfl
theorem wm_1976 : Cond.methodLink "WeekBoatsModel" 438 ⟨"WeekBoatsModel", "isTime", "(I)Z"⟩ ∈ lw_gd := wk_8 (i := 186) (by decide +kernel) rfl
theorem wm_1977 : Cond.static ⟨"WeekBoatsModel", "isTime", "(I)Z"⟩ ∈ lw_gd := wk_8 (i := 187) (by decide +kernel) rfl
set_option maxRecDepth 100000 in
theorem wm_1978 : Cond.code ⟨"WeekBoatsModel", "isTime", "(I)Z"⟩ prog_14_method_3_code 1 (some .boolean) ∈ lw_gd := wk_8 (i := 188) rfl rfl
theorem wm_1979 : Cond.methodLink "WeekBoatsModel" 441 ⟨"WeekBoatsModel", "led", "(IIII)I"⟩ ∈ lw_gd := wk_8 (i := 189) (by decide +kernel) rfl
theorem wm_1981 : Cond.instanceMethod ⟨"WeekBoatsModel", "led", "(IIII)I"⟩ ∈ lw_gd := wk_8 (i := 191) (by decide +kernel) rfl
set_option maxRecDepth 100000 in
theorem wm_1982 : Cond.code ⟨"WeekBoatsModel", "led", "(IIII)I"⟩ prog_14_method_46_code 7 (some .int) ∈ lw_gd := wk_8 (i := 192) rfl rfl
theorem wm_1983 : Cond.methodLink "WeekBoatsModel" 431 ⟨"WeekBoatsModel", "through", "(IIZI)I"⟩ ∈ lw_gd := wk_8 (i := 193) (by decide +kernel) rfl
theorem wm_1985 : Cond.instanceMethod ⟨"WeekBoatsModel", "through", "(IIZI)I"⟩ ∈ lw_gd := wk_8 (i := 195) (by decide +kernel) rfl
set_option maxRecDepth 100000 in
theorem wm_1986 : Cond.code ⟨"WeekBoatsModel", "through", "(IIZI)I"⟩ prog_14_method_45_code 8 (some .int) ∈ lw_gd := wk_8 (i := 196) rfl rfl
theorem wm_1987 : Cond.methodLink "WeekBoatsModel" 417 ⟨"WeekBoatsModel", "endOf", "(IIII)I"⟩ ∈ lw_gd := wk_8 (i := 197) (by decide +kernel) rfl
theorem wm_1989 : Cond.instanceMethod ⟨"WeekBoatsModel", "endOf", "(IIII)I"⟩ ∈ lw_gd := wk_8 (i := 199) (by decide +kernel) rfl
set_option maxRecDepth 100000 in
theorem wm_1990 : Cond.code ⟨"WeekBoatsModel", "endOf", "(IIII)I"⟩ prog_14_method_43_code 6 (some .int) ∈ lw_gd := wk_8 (i := 200) rfl rfl
theorem wm_1991 : Cond.methodLink "WeekBoatsModel" 413 ⟨"WeekBoatsModel", "mayBegin", "(IIII)Z"⟩ ∈ lw_gd := wk_8 (i := 201) (by decide +kernel) rfl
theorem wm_1993 : Cond.instanceMethod ⟨"WeekBoatsModel", "mayBegin", "(IIII)Z"⟩ ∈ lw_gd := wk_8 (i := 203) (by decide +kernel) rfl
set_option maxRecDepth 100000 in
theorem wm_1994 : Cond.code ⟨"WeekBoatsModel", "mayBegin", "(IIII)Z"⟩ prog_14_method_42_code 6 (some .boolean) ∈ lw_gd := wk_8 (i := 204) rfl rfl
theorem wm_1995 : Cond.methodLink "WeekBoatsModel" 410 ⟨"WeekBoatsModel", "isStopped", "(II)Z"⟩ ∈ lw_gd := wk_8 (i := 205) (by decide +kernel) rfl
theorem wm_1997 : Cond.instanceMethod ⟨"WeekBoatsModel", "isStopped", "(II)Z"⟩ ∈ lw_gd := wk_8 (i := 207) (by decide +kernel) rfl
set_option maxRecDepth 100000 in
theorem wm_1998 : Cond.code ⟨"WeekBoatsModel", "isStopped", "(II)Z"⟩ prog_14_method_41_code 4 (some .boolean) ∈ lw_gd := wk_8 (i := 208) rfl rfl
theorem wm_1999 : Cond.methodLink "WeekBoatsModel" 428 ⟨"WeekBoatsModel", "harmOf", "(II)I"⟩ ∈ lw_gd := wk_8 (i := 209) (by decide +kernel) rfl
theorem wm_2001 : Cond.instanceMethod ⟨"WeekBoatsModel", "harmOf", "(II)I"⟩ ∈ lw_gd := wk_8 (i := 211) (by decide +kernel) rfl
set_option maxRecDepth 100000 in
theorem wm_2002 : Cond.code ⟨"WeekBoatsModel", "harmOf", "(II)I"⟩ prog_14_method_44_code 5 (some .int) ∈ lw_gd := wk_8 (i := 212) rfl rfl
theorem wm_2003 : Cond.methodLink "WeekBoatsLaw" 68 ⟨"WeekBoatsModel", "harm", "(IIII)I"⟩ ∈ lw_gd := wk_8 (i := 213) (by decide +kernel) rfl
theorem wm_2004 : Cond.instanceMethod ⟨"WeekBoatsModel", "harm", "(IIII)I"⟩ ∈ lw_gd := wk_8 (i := 214) (by decide +kernel) rfl
theorem wm_2005 : Cond.selects "WeekBoatsModel" ⟨"WeekBoatsModel", "harm", "(IIII)I"⟩ ⟨"WeekBoatsModel", "harm", "(IIII)I"⟩ ∈ lw_gd := wk_8 (i := 215) (by decide +kernel) rfl
set_option maxRecDepth 100000 in
theorem wm_2006 : Cond.code ⟨"WeekBoatsModel", "harm", "(IIII)I"⟩ prog_14_method_48_code 6 (some .int) ∈ lw_gd := wk_8 (i := 216) rfl rfl
theorem wm_2007 : Cond.methodLink "WeekBoatsLaw" 89 ⟨"WeekBoatsModel", "enough", "(IIIII)I"⟩ ∈ lw_gd := wk_8 (i := 217) (by decide +kernel) rfl
theorem wm_2008 : Cond.instanceMethod ⟨"WeekBoatsModel", "enough", "(IIIII)I"⟩ ∈ lw_gd := wk_8 (i := 218) (by decide +kernel) rfl
theorem wm_2009 : Cond.selects "WeekBoatsModel" ⟨"WeekBoatsModel", "enough", "(IIIII)I"⟩ ⟨"WeekBoatsModel", "enough", "(IIIII)I"⟩ ∈ lw_gd := wk_8 (i := 219) (by decide +kernel) rfl
set_option maxRecDepth 100000 in
theorem wm_2010 : Cond.code ⟨"WeekBoatsModel", "enough", "(IIIII)I"⟩ prog_14_method_49_code 10 (some .int) ∈ lw_gd := wk_8 (i := 220) rfl rfl
theorem wm_2011 : Cond.methodLink "WeekBoatsLaw" 64 ⟨"WeekBoatsModel", "maybe", "(IIII)I"⟩ ∈ lw_gd := wk_8 (i := 221) (by decide +kernel) rfl
theorem wm_2012 : Cond.instanceMethod ⟨"WeekBoatsModel", "maybe", "(IIII)I"⟩ ∈ lw_gd := wk_8 (i := 222) (by decide +kernel) rfl
theorem wm_2013 : Cond.selects "WeekBoatsModel" ⟨"WeekBoatsModel", "maybe", "(IIII)I"⟩ ⟨"WeekBoatsModel", "maybe", "(IIII)I"⟩ ∈ lw_gd := wk_8 (i := 223) (by decide +kernel) rfl
set_option maxRecDepth 100000 in
theorem wm_2014 : Cond.code ⟨"WeekBoatsModel", "maybe", "(IIII)I"⟩ prog_14_method_50_code 8 (some .int) ∈ lw_gd := wk_8 (i := 224) rfl rfl
theorem wm_2015 : Cond.methodLink "WeekBoatsLaw" 93 ⟨"WeekBoatsModel", "trip", "(IIIII)I"⟩ ∈ lw_gd := wk_8 (i := 225) (by decide +kernel) rfl
theorem wm_2016 : Cond.instanceMethod ⟨"WeekBoatsModel", "trip", "(IIIII)I"⟩ ∈ lw_gd := wk_8 (i := 226) (by decide +kernel) rfl
theorem wm_2017 : Cond.selects "WeekBoatsModel" ⟨"WeekBoatsModel", "trip", "(IIIII)I"⟩ ⟨"WeekBoatsModel", "trip", "(IIIII)I"⟩ ∈ lw_gd := wk_8 (i := 227) (by decide +kernel) rfl
set_option maxRecDepth 100000 in
theorem wm_2018 : Cond.code ⟨"WeekBoatsModel", "trip", "(IIIII)I"⟩ prog_14_method_51_code 6 (some .int) ∈ lw_gd := wk_8 (i := 228) rfl rfl
theorem wm_2019 : Cond.methodLink "WeekBoatsLaw" 97 ⟨"WeekBoatsModel", "late", "(I)I"⟩ ∈ lw_gd := wk_8 (i := 229) (by decide +kernel) rfl
theorem wm_2020 : Cond.instanceMethod ⟨"WeekBoatsModel", "late", "(I)I"⟩ ∈ lw_gd := wk_8 (i := 230) (by decide +kernel) rfl
theorem wm_2021 : Cond.selects "WeekBoatsModel" ⟨"WeekBoatsModel", "late", "(I)I"⟩ ⟨"WeekBoatsModel", "late", "(I)I"⟩ ∈ lw_gd := wk_8 (i := 231) (by decide +kernel) rfl
set_option maxRecDepth 100000 in
theorem wm_2022 : Cond.code ⟨"WeekBoatsModel", "late", "(I)I"⟩ prog_14_method_53_code 4 (some .int) ∈ lw_gd := wk_8 (i := 232) rfl rfl
theorem wm_2023 : Cond.methodLink "WeekBoatsModel" 447 ⟨"WeekBoatsModel", "lateOf", "(I)I"⟩ ∈ lw_gd := wk_8 (i := 233) (by decide +kernel) rfl
theorem wm_2025 : Cond.instanceMethod ⟨"WeekBoatsModel", "lateOf", "(I)I"⟩ ∈ lw_gd := wk_8 (i := 235) (by decide +kernel) rfl
set_option maxRecDepth 100000 in
theorem wm_2026 : Cond.code ⟨"WeekBoatsModel", "lateOf", "(I)I"⟩ prog_14_method_52_code 3 (some .int) ∈ lw_gd := wk_8 (i := 236) rfl rfl
theorem wm_2027 : Cond.methodLink "WeekBoatsLaw" 72 ⟨"WeekBoatsModel", "back", "(II)I"⟩ ∈ lw_gd := wk_8 (i := 237) (by decide +kernel) rfl
theorem wm_2028 : Cond.instanceMethod ⟨"WeekBoatsModel", "back", "(II)I"⟩ ∈ lw_gd := wk_8 (i := 238) (by decide +kernel) rfl
theorem wm_2029 : Cond.selects "WeekBoatsModel" ⟨"WeekBoatsModel", "back", "(II)I"⟩ ⟨"WeekBoatsModel", "back", "(II)I"⟩ ∈ lw_gd := wk_8 (i := 239) (by decide +kernel) rfl
set_option maxRecDepth 100000 in
theorem wm_2030 : Cond.code ⟨"WeekBoatsModel", "back", "(II)I"⟩ prog_14_method_56_code 3 (some .int) ∈ lw_gd := wk_9 (i := 0) rfl rfl
theorem wm_2031 : Cond.methodLink "WeekBoatsModel" 459 ⟨"WeekBoatsModel", "turningBack", "(I)I"⟩ ∈ lw_gd := wk_9 (i := 1) (by decide +kernel) rfl
theorem wm_2033 : Cond.instanceMethod ⟨"WeekBoatsModel", "turningBack", "(I)I"⟩ ∈ lw_gd := wk_9 (i := 3) (by decide +kernel) rfl
set_option maxRecDepth 100000 in
theorem wm_2034 : Cond.code ⟨"WeekBoatsModel", "turningBack", "(I)I"⟩ prog_14_method_54_code 8 (some .int) ∈ lw_gd := wk_9 (i := 4) rfl rfl
theorem wm_2035 : Cond.constant "WeekBoatsModel" 450 (-1000000) ∈ lw_gd := wk_9 (i := 5) (by decide +kernel) rfl
theorem wm_2036 : Cond.methodLink "WeekBoatsModel" 462 ⟨"WeekBoatsModel", "refund", "(I)I"⟩ ∈ lw_gd := wk_9 (i := 6) (by decide +kernel) rfl
theorem wm_2038 : Cond.instanceMethod ⟨"WeekBoatsModel", "refund", "(I)I"⟩ ∈ lw_gd := wk_9 (i := 8) (by decide +kernel) rfl
set_option maxRecDepth 100000 in
theorem wm_2039 : Cond.code ⟨"WeekBoatsModel", "refund", "(I)I"⟩ prog_14_method_55_code 5 (some .int) ∈ lw_gd := wk_9 (i := 9) rfl rfl
theorem wm_2040 : Cond.methodLink "WeekBoatsModel" 451 ⟨"WeekBoatsModel", "price", "(IIZ)I"⟩ ∈ lw_gd := wk_9 (i := 10) (by decide +kernel) rfl
theorem wm_2041 : Cond.instanceMethod ⟨"WeekBoatsModel", "price", "(IIZ)I"⟩ ∈ lw_gd := wk_9 (i := 11) (by decide +kernel) rfl
theorem wm_2042 : Cond.selects "WeekBoatsModel" ⟨"WeekBoatsModel", "price", "(IIZ)I"⟩ ⟨"WeekBoatsModel", "price", "(IIZ)I"⟩ ∈ lw_gd := wk_9 (i := 12) (by decide +kernel) rfl
set_option maxRecDepth 100000 in
theorem wm_2043 : Cond.code ⟨"WeekBoatsModel", "price", "(IIZ)I"⟩ prog_14_method_105_code 5 (some .int) ∈ lw_gd := wk_9 (i := 13) rfl rfl
theorem wm_2044 : Cond.constantLong "WeekBoatsModel" 457 7 ∈ lw_gd := wk_9 (i := 14) (by decide +kernel) rfl
theorem wm_2045 : Cond.methodLink "WeekBoatsLaw" 76 ⟨"WeekBoatsModel", "rung", "()I"⟩ ∈ lw_gd := wk_9 (i := 15) (by decide +kernel) rfl
theorem wm_2046 : Cond.instanceMethod ⟨"WeekBoatsModel", "rung", "()I"⟩ ∈ lw_gd := wk_9 (i := 16) (by decide +kernel) rfl
theorem wm_2047 : Cond.selects "WeekBoatsModel" ⟨"WeekBoatsModel", "rung", "()I"⟩ ⟨"WeekBoatsModel", "rung", "()I"⟩ ∈ lw_gd := wk_9 (i := 17) (by decide +kernel) rfl
set_option maxRecDepth 100000 in
theorem wm_2048 : Cond.code ⟨"WeekBoatsModel", "rung", "()I"⟩ prog_14_method_57_code 5 (some .int) ∈ lw_gd := wk_9 (i := 18) rfl rfl
theorem wm_2049 : Cond.methodLink "WeekBoatsLaw" 81 ⟨"WeekBoatsModel", "pump", "(IZ)Z"⟩ ∈ lw_gd := wk_9 (i := 19) (by decide +kernel) rfl
theorem wm_2050 : Cond.instanceMethod ⟨"WeekBoatsModel", "pump", "(IZ)Z"⟩ ∈ lw_gd := wk_9 (i := 20) (by decide +kernel) rfl
theorem wm_2051 : Cond.selects "WeekBoatsModel" ⟨"WeekBoatsModel", "pump", "(IZ)Z"⟩ ⟨"WeekBoatsModel", "pump", "(IZ)Z"⟩ ∈ lw_gd := wk_9 (i := 21) (by decide +kernel) rfl
set_option maxRecDepth 100000 in
theorem wm_2052 : Cond.code ⟨"WeekBoatsModel", "pump", "(IZ)Z"⟩ prog_14_method_58_code 3 (some .boolean) ∈ lw_gd := wk_9 (i := 22) rfl rfl
theorem wm_2053 : Cond.methodLink "WeekBoatsLaw" 85 ⟨"WeekBoatsModel", "pumped", "(IIIII)I"⟩ ∈ lw_gd := wk_9 (i := 23) (by decide +kernel) rfl
theorem wm_2054 : Cond.instanceMethod ⟨"WeekBoatsModel", "pumped", "(IIIII)I"⟩ ∈ lw_gd := wk_9 (i := 24) (by decide +kernel) rfl
theorem wm_2055 : Cond.selects "WeekBoatsModel" ⟨"WeekBoatsModel", "pumped", "(IIIII)I"⟩ ⟨"WeekBoatsModel", "pumped", "(IIIII)I"⟩ ∈ lw_gd := wk_9 (i := 25) (by decide +kernel) rfl
set_option maxRecDepth 100000 in
theorem wm_2056 : Cond.code ⟨"WeekBoatsModel", "pumped", "(IIIII)I"⟩ prog_14_method_59_code 10 (some .int) ∈ lw_gd := wk_9 (i := 26) rfl rfl
theorem wm_2057 : Cond.methodLink "WeekBoatsLaw" 101 ⟨"WeekBoatsModel", "log", "(III)I"⟩ ∈ lw_gd := wk_9 (i := 27) (by decide +kernel) rfl
theorem wm_2058 : Cond.instanceMethod ⟨"WeekBoatsModel", "log", "(III)I"⟩ ∈ lw_gd := wk_9 (i := 28) (by decide +kernel) rfl
theorem wm_2059 : Cond.selects "WeekBoatsModel" ⟨"WeekBoatsModel", "log", "(III)I"⟩ ⟨"WeekBoatsModel", "log", "(III)I"⟩ ∈ lw_gd := wk_9 (i := 29) (by decide +kernel) rfl
set_option maxRecDepth 100000 in
theorem wm_2060 : Cond.code ⟨"WeekBoatsModel", "log", "(III)I"⟩ prog_14_method_60_code 4 (some .int) ∈ lw_gd := wk_9 (i := 30) rfl rfl
theorem wm_2061 : Cond.methodLink "WeekBoatsLaw" 105 ⟨"WeekBoatsModel", "could", "(IIII)I"⟩ ∈ lw_gd := wk_9 (i := 31) (by decide +kernel) rfl
theorem wm_2062 : Cond.instanceMethod ⟨"WeekBoatsModel", "could", "(IIII)I"⟩ ∈ lw_gd := wk_9 (i := 32) (by decide +kernel) rfl
theorem wm_2063 : Cond.selects "WeekBoatsModel" ⟨"WeekBoatsModel", "could", "(IIII)I"⟩ ⟨"WeekBoatsModel", "could", "(IIII)I"⟩ ∈ lw_gd := wk_9 (i := 33) (by decide +kernel) rfl
set_option maxRecDepth 100000 in
theorem wm_2064 : Cond.code ⟨"WeekBoatsModel", "could", "(IIII)I"⟩ prog_14_method_64_code 5 (some .int) ∈ lw_gd := wk_9 (i := 34) rfl rfl
theorem wm_2065 : Cond.methodLink "WeekBoatsModel" 469 ⟨"WeekBoatsModel", "isSpan", "(II)Z"⟩ ∈ lw_gd := wk_9 (i := 35) (by decide +kernel) rfl
theorem wm_2066 : Cond.static ⟨"WeekBoatsModel", "isSpan", "(II)Z"⟩ ∈ lw_gd := wk_9 (i := 36) (by decide +kernel) rfl
set_option maxRecDepth 100000 in
theorem wm_2067 : Cond.code ⟨"WeekBoatsModel", "isSpan", "(II)Z"⟩ prog_14_method_63_code 2 (some .boolean) ∈ lw_gd := wk_9 (i := 37) rfl rfl
theorem wm_2068 : Cond.methodLink "WeekBoatsModel" 472 ⟨"WeekBoatsModel", "canHaveBeen", "(IIII)Z"⟩ ∈ lw_gd := wk_9 (i := 38) (by decide +kernel) rfl
theorem wm_2070 : Cond.instanceMethod ⟨"WeekBoatsModel", "canHaveBeen", "(IIII)Z"⟩ ∈ lw_gd := wk_9 (i := 40) (by decide +kernel) rfl
set_option maxRecDepth 100000 in
theorem wm_2071 : Cond.code ⟨"WeekBoatsModel", "canHaveBeen", "(IIII)Z"⟩ prog_14_method_62_code 6 (some .boolean) ∈ lw_gd := wk_9 (i := 41) rfl rfl
theorem wm_2072 : Cond.methodLink "WeekBoatsModel" 465 ⟨"WeekBoatsModel", "between", "(IIIII)Z"⟩ ∈ lw_gd := wk_9 (i := 42) (by decide +kernel) rfl
theorem wm_2074 : Cond.instanceMethod ⟨"WeekBoatsModel", "between", "(IIIII)Z"⟩ ∈ lw_gd := wk_9 (i := 44) (by decide +kernel) rfl
set_option maxRecDepth 100000 in
theorem wm_2075 : Cond.code ⟨"WeekBoatsModel", "between", "(IIIII)Z"⟩ prog_14_method_61_code 11 (some .boolean) ∈ lw_gd := wk_9 (i := 45) rfl rfl
theorem wm_2076 : Cond.methodLink "WeekBoatsLaw" 109 ⟨"WeekBoatsModel", "whose", "(IIII)I"⟩ ∈ lw_gd := wk_9 (i := 46) (by decide +kernel) rfl
theorem wm_2077 : Cond.instanceMethod ⟨"WeekBoatsModel", "whose", "(IIII)I"⟩ ∈ lw_gd := wk_9 (i := 47) (by decide +kernel) rfl
theorem wm_2078 : Cond.selects "WeekBoatsModel" ⟨"WeekBoatsModel", "whose", "(IIII)I"⟩ ⟨"WeekBoatsModel", "whose", "(IIII)I"⟩ ∈ lw_gd := wk_9 (i := 48) (by decide +kernel) rfl
set_option maxRecDepth 100000 in
theorem wm_2079 : Cond.code ⟨"WeekBoatsModel", "whose", "(IIII)I"⟩ prog_14_method_65_code 9 (some .int) ∈ lw_gd := wk_9 (i := 49) rfl rfl
theorem wm_2080 : Cond.methodLink "WeekBoatsLaw" 113 ⟨"WeekBoatsModel", "tonight", "(II)I"⟩ ∈ lw_gd := wk_9 (i := 50) (by decide +kernel) rfl
theorem wm_2081 : Cond.instanceMethod ⟨"WeekBoatsModel", "tonight", "(II)I"⟩ ∈ lw_gd := wk_9 (i := 51) (by decide +kernel) rfl
theorem wm_2082 : Cond.selects "WeekBoatsModel" ⟨"WeekBoatsModel", "tonight", "(II)I"⟩ ⟨"WeekBoatsModel", "tonight", "(II)I"⟩ ∈ lw_gd := wk_9 (i := 52) (by decide +kernel) rfl
set_option maxRecDepth 100000 in
theorem wm_2083 : Cond.code ⟨"WeekBoatsModel", "tonight", "(II)I"⟩ prog_14_method_66_code 11 (some .int) ∈ lw_gd := wk_9 (i := 53) rfl rfl
theorem wm_2084 : Cond.methodLink "WeekBoatsLaw" 117 ⟨"WeekBoatsModel", "queue", "(II)I"⟩ ∈ lw_gd := wk_9 (i := 54) (by decide +kernel) rfl
theorem wm_2085 : Cond.instanceMethod ⟨"WeekBoatsModel", "queue", "(II)I"⟩ ∈ lw_gd := wk_9 (i := 55) (by decide +kernel) rfl
theorem wm_2086 : Cond.selects "WeekBoatsModel" ⟨"WeekBoatsModel", "queue", "(II)I"⟩ ⟨"WeekBoatsModel", "queue", "(II)I"⟩ ∈ lw_gd := wk_9 (i := 56) (by decide +kernel) rfl
set_option maxRecDepth 100000 in
theorem wm_2087 : Cond.code ⟨"WeekBoatsModel", "queue", "(II)I"⟩ prog_14_method_67_code 3 (some .int) ∈ lw_gd := wk_9 (i := 57) rfl rfl
theorem wm_2088 : Cond.methodLink "WeekBoatsLaw" 121 ⟨"WeekBoatsModel", "lock", "(I)I"⟩ ∈ lw_gd := wk_9 (i := 58) (by decide +kernel) rfl
theorem wm_2089 : Cond.instanceMethod ⟨"WeekBoatsModel", "lock", "(I)I"⟩ ∈ lw_gd := wk_9 (i := 59) (by decide +kernel) rfl
theorem wm_2090 : Cond.selects "WeekBoatsModel" ⟨"WeekBoatsModel", "lock", "(I)I"⟩ ⟨"WeekBoatsModel", "lock", "(I)I"⟩ ∈ lw_gd := wk_9 (i := 60) (by decide +kernel) rfl
set_option maxRecDepth 100000 in
theorem wm_2091 : Cond.code ⟨"WeekBoatsModel", "lock", "(I)I"⟩ prog_14_method_72_code 3 (some .int) ∈ lw_gd := wk_9 (i := 61) rfl rfl
theorem wm_2092 : Cond.methodLink "WeekBoatsModel" 484 ⟨"WeekBoatsModel", "orders", "(II)V"⟩ ∈ lw_gd := wk_9 (i := 62) (by decide +kernel) rfl
theorem wm_2094 : Cond.instanceMethod ⟨"WeekBoatsModel", "orders", "(II)V"⟩ ∈ lw_gd := wk_9 (i := 64) (by decide +kernel) rfl
set_option maxRecDepth 100000 in
theorem wm_2095 : Cond.code ⟨"WeekBoatsModel", "orders", "(II)V"⟩ prog_14_method_70_code 5 none ∈ lw_gd := wk_9 (i := 65) rfl rfl
theorem wm_2096 : Cond.methodLink "WeekBoatsModel" 478 ⟨"WeekBoatsModel", "waits", "()I"⟩ ∈ lw_gd := wk_9 (i := 66) (by decide +kernel) rfl
theorem wm_2098 : Cond.instanceMethod ⟨"WeekBoatsModel", "waits", "()I"⟩ ∈ lw_gd := wk_9 (i := 68) (by decide +kernel) rfl
set_option maxRecDepth 100000 in
theorem wm_2099 : Cond.code ⟨"WeekBoatsModel", "waits", "()I"⟩ prog_14_method_68_code 6 (some .int) ∈ lw_gd := wk_9 (i := 69) rfl rfl
theorem wm_2100 : Cond.methodLink "WeekBoatsModel" 487 ⟨"WeekBoatsModel", "asTheyCome", "()V"⟩ ∈ lw_gd := wk_9 (i := 70) (by decide +kernel) rfl
theorem wm_2102 : Cond.instanceMethod ⟨"WeekBoatsModel", "asTheyCome", "()V"⟩ ∈ lw_gd := wk_9 (i := 72) (by decide +kernel) rfl
set_option maxRecDepth 100000 in
theorem wm_2103 : Cond.code ⟨"WeekBoatsModel", "asTheyCome", "()V"⟩ prog_14_method_71_code 2 none ∈ lw_gd := wk_9 (i := 73) rfl rfl
theorem wm_2104 : Cond.methodLink "WeekBoatsModel" 490 ⟨"WeekBoatsModel", "lockfuls", "()I"⟩ ∈ lw_gd := wk_9 (i := 74) (by decide +kernel) rfl
theorem wm_2106 : Cond.instanceMethod ⟨"WeekBoatsModel", "lockfuls", "()I"⟩ ∈ lw_gd := wk_9 (i := 76) (by decide +kernel) rfl
set_option maxRecDepth 100000 in
theorem wm_2107 : Cond.code ⟨"WeekBoatsModel", "lockfuls", "()I"⟩ prog_14_method_69_code 3 (some .int) ∈ lw_gd := wk_9 (i := 77) rfl rfl
theorem wm_2108 : Cond.methodLink "WeekBoatsLaw" 125 ⟨"WeekBoatsModel", "booking", "(IIII)I"⟩ ∈ lw_gd := wk_9 (i := 78) (by decide +kernel) rfl
theorem wm_2109 : Cond.instanceMethod ⟨"WeekBoatsModel", "booking", "(IIII)I"⟩ ∈ lw_gd := wk_9 (i := 79) (by decide +kernel) rfl
theorem wm_2110 : Cond.selects "WeekBoatsModel" ⟨"WeekBoatsModel", "booking", "(IIII)I"⟩ ⟨"WeekBoatsModel", "booking", "(IIII)I"⟩ ∈ lw_gd := wk_9 (i := 80) (by decide +kernel) rfl
set_option maxRecDepth 100000 in
theorem wm_2111 : Cond.code ⟨"WeekBoatsModel", "booking", "(IIII)I"⟩ prog_14_method_73_code 5 (some .int) ∈ lw_gd := wk_9 (i := 81) rfl rfl
theorem wm_2112 : Cond.methodLink "WeekBoatsLaw" 129 ⟨"WeekBoatsModel", "given", "(II)I"⟩ ∈ lw_gd := wk_9 (i := 82) (by decide +kernel) rfl
theorem wm_2113 : Cond.instanceMethod ⟨"WeekBoatsModel", "given", "(II)I"⟩ ∈ lw_gd := wk_9 (i := 83) (by decide +kernel) rfl
theorem wm_2114 : Cond.selects "WeekBoatsModel" ⟨"WeekBoatsModel", "given", "(II)I"⟩ ⟨"WeekBoatsModel", "given", "(II)I"⟩ ∈ lw_gd := wk_9 (i := 84) (by decide +kernel) rfl
set_option maxRecDepth 100000 in
theorem wm_2115 : Cond.code ⟨"WeekBoatsModel", "given", "(II)I"⟩ prog_14_method_76_code 3 (some .int) ∈ lw_gd := wk_9 (i := 85) rfl rfl
theorem wm_2116 : Cond.methodLink "WeekBoatsModel" 505 ⟨"WeekBoatsModel", "asks", "(I)V"⟩ ∈ lw_gd := wk_9 (i := 86) (by decide +kernel) rfl
theorem wm_2118 : Cond.instanceMethod ⟨"WeekBoatsModel", "asks", "(I)V"⟩ ∈ lw_gd := wk_9 (i := 88) (by decide +kernel) rfl
set_option maxRecDepth 100000 in
theorem wm_2119 : Cond.code ⟨"WeekBoatsModel", "asks", "(I)V"⟩ prog_14_method_77_code 3 none ∈ lw_gd := wk_9 (i := 89) rfl rfl
theorem wm_2120 : Cond.methodLink "WeekBoatsModel" 509 ⟨"WeekBoatsModel", "givesBest", "(I)V"⟩ ∈ lw_gd := wk_9 (i := 90) (by decide +kernel) rfl
theorem wm_2122 : Cond.instanceMethod ⟨"WeekBoatsModel", "givesBest", "(I)V"⟩ ∈ lw_gd := wk_9 (i := 92) (by decide +kernel) rfl
set_option maxRecDepth 100000 in
theorem wm_2123 : Cond.code ⟨"WeekBoatsModel", "givesBest", "(I)V"⟩ prog_14_method_78_code 3 none ∈ lw_gd := wk_9 (i := 93) rfl rfl
theorem wm_2124 : Cond.methodLink "WeekBoatsModel" 512 ⟨"WeekBoatsModel", "sorts", "()V"⟩ ∈ lw_gd := wk_9 (i := 94) (by decide +kernel) rfl
theorem wm_2126 : Cond.instanceMethod ⟨"WeekBoatsModel", "sorts", "()V"⟩ ∈ lw_gd := wk_9 (i := 96) (by decide +kernel) rfl
set_option maxRecDepth 100000 in
theorem wm_2127 : Cond.code ⟨"WeekBoatsModel", "sorts", "()V"⟩ prog_14_method_74_code 3 none ∈ lw_gd := wk_9 (i := 97) rfl rfl
theorem wm_2128 : Cond.methodLink "WeekBoatsModel" 502 ⟨"WeekBoatsModel", "gives", "(III)V"⟩ ∈ lw_gd := wk_9 (i := 98) (by decide +kernel) rfl
theorem wm_2130 : Cond.instanceMethod ⟨"WeekBoatsModel", "gives", "(III)V"⟩ ∈ lw_gd := wk_9 (i := 100) (by decide +kernel) rfl
set_option maxRecDepth 100000 in
theorem wm_2131 : Cond.code ⟨"WeekBoatsModel", "gives", "(III)V"⟩ prog_14_method_75_code 8 none ∈ lw_gd := wk_9 (i := 101) rfl rfl
theorem wm_2132 : Cond.methodLink "WeekBoatsLaw" 133 ⟨"WeekBoatsModel", "more", "(III)I"⟩ ∈ lw_gd := wk_9 (i := 102) (by decide +kernel) rfl
theorem wm_2133 : Cond.instanceMethod ⟨"WeekBoatsModel", "more", "(III)I"⟩ ∈ lw_gd := wk_9 (i := 103) (by decide +kernel) rfl
theorem wm_2134 : Cond.selects "WeekBoatsModel" ⟨"WeekBoatsModel", "more", "(III)I"⟩ ⟨"WeekBoatsModel", "more", "(III)I"⟩ ∈ lw_gd := wk_9 (i := 104) (by decide +kernel) rfl
set_option maxRecDepth 100000 in
theorem wm_2135 : Cond.code ⟨"WeekBoatsModel", "more", "(III)I"⟩ prog_14_method_79_code 5 (some .int) ∈ lw_gd := wk_9 (i := 105) rfl rfl
theorem wm_2136 : Cond.methodLink "WeekBoatsLaw" 138 ⟨"WeekBoatsModel", "gas", "(III)Z"⟩ ∈ lw_gd := wk_9 (i := 106) (by decide +kernel) rfl
theorem wm_2137 : Cond.instanceMethod ⟨"WeekBoatsModel", "gas", "(III)Z"⟩ ∈ lw_gd := wk_9 (i := 107) (by decide +kernel) rfl
theorem wm_2138 : Cond.selects "WeekBoatsModel" ⟨"WeekBoatsModel", "gas", "(III)Z"⟩ ⟨"WeekBoatsModel", "gas", "(III)Z"⟩ ∈ lw_gd := wk_9 (i := 108) (by decide +kernel) rfl
set_option maxRecDepth 100000 in
theorem wm_2139 : Cond.code ⟨"WeekBoatsModel", "gas", "(III)Z"⟩ prog_14_method_80_code 6 (some .boolean) ∈ lw_gd := wk_9 (i := 109) rfl rfl
theorem wm_2140 : Cond.methodLink "WeekBoatsLaw" 142 ⟨"WeekBoatsModel", "dock", "(I)I"⟩ ∈ lw_gd := wk_9 (i := 110) (by decide +kernel) rfl
theorem wm_2141 : Cond.instanceMethod ⟨"WeekBoatsModel", "dock", "(I)I"⟩ ∈ lw_gd := wk_9 (i := 111) (by decide +kernel) rfl
theorem wm_2142 : Cond.selects "WeekBoatsModel" ⟨"WeekBoatsModel", "dock", "(I)I"⟩ ⟨"WeekBoatsModel", "dock", "(I)I"⟩ ∈ lw_gd := wk_9 (i := 112) (by decide +kernel) rfl
set_option maxRecDepth 100000 in
theorem wm_2143 : Cond.code ⟨"WeekBoatsModel", "dock", "(I)I"⟩ prog_14_method_82_code 3 (some .int) ∈ lw_gd := wk_9 (i := 113) rfl rfl
theorem wm_2144 : Cond.methodLink "WeekBoatsModel" 524 ⟨"WeekBoatsModel", "docksOn", "(IIIII)V"⟩ ∈ lw_gd := wk_9 (i := 114) (by decide +kernel) rfl
theorem wm_2146 : Cond.instanceMethod ⟨"WeekBoatsModel", "docksOn", "(IIIII)V"⟩ ∈ lw_gd := wk_9 (i := 116) (by decide +kernel) rfl
set_option maxRecDepth 100000 in
theorem wm_2147 : Cond.code ⟨"WeekBoatsModel", "docksOn", "(IIIII)V"⟩ prog_14_method_81_code 9 none ∈ lw_gd := wk_9 (i := 117) rfl rfl
theorem wm_2148 : Cond.methodLink "WeekBoatsLaw" 146 ⟨"WeekBoatsModel", "job", "(I)I"⟩ ∈ lw_gd := wk_9 (i := 118) (by decide +kernel) rfl
theorem wm_2149 : Cond.instanceMethod ⟨"WeekBoatsModel", "job", "(I)I"⟩ ∈ lw_gd := wk_9 (i := 119) (by decide +kernel) rfl
theorem wm_2150 : Cond.selects "WeekBoatsModel" ⟨"WeekBoatsModel", "job", "(I)I"⟩ ⟨"WeekBoatsModel", "job", "(I)I"⟩ ∈ lw_gd := wk_9 (i := 120) (by decide +kernel) rfl
set_option maxRecDepth 100000 in
theorem wm_2151 : Cond.code ⟨"WeekBoatsModel", "job", "(I)I"⟩ prog_14_method_83_code 2 (some .int) ∈ lw_gd := wk_9 (i := 121) rfl rfl
theorem wm_2152 : Cond.methodLink "WeekBoatsLaw" 150 ⟨"WeekBoatsModel", "turned", "(II)I"⟩ ∈ lw_gd := wk_9 (i := 122) (by decide +kernel) rfl
theorem wm_2153 : Cond.instanceMethod ⟨"WeekBoatsModel", "turned", "(II)I"⟩ ∈ lw_gd := wk_9 (i := 123) (by decide +kernel) rfl
theorem wm_2154 : Cond.selects "WeekBoatsModel" ⟨"WeekBoatsModel", "turned", "(II)I"⟩ ⟨"WeekBoatsModel", "turned", "(II)I"⟩ ∈ lw_gd := wk_9 (i := 124) (by decide +kernel) rfl
set_option maxRecDepth 100000 in
theorem wm_2155 : Cond.code ⟨"WeekBoatsModel", "turned", "(II)I"⟩ prog_14_method_87_code 9 (some .int) ∈ lw_gd := wk_9 (i := 125) rfl rfl
theorem wm_2156 : Cond.methodLink "WeekBoatsModel" 537 ⟨"WeekBoatsModel", "worked", "(I)I"⟩ ∈ lw_gd := wk_9 (i := 126) (by decide +kernel) rfl
theorem wm_2158 : Cond.instanceMethod ⟨"WeekBoatsModel", "worked", "(I)I"⟩ ∈ lw_gd := wk_9 (i := 128) (by decide +kernel) rfl
set_option maxRecDepth 100000 in
theorem wm_2159 : Cond.code ⟨"WeekBoatsModel", "worked", "(I)I"⟩ prog_14_method_84_code 5 (some .int) ∈ lw_gd := wk_9 (i := 129) rfl rfl
theorem wm_2160 : Cond.methodLink "WeekBoatsModel" 534 ⟨"WeekBoatsModel", "lastEnd", "(I)I"⟩ ∈ lw_gd := wk_9 (i := 130) (by decide +kernel) rfl
theorem wm_2162 : Cond.instanceMethod ⟨"WeekBoatsModel", "lastEnd", "(I)I"⟩ ∈ lw_gd := wk_9 (i := 132) (by decide +kernel) rfl
set_option maxRecDepth 100000 in
theorem wm_2163 : Cond.code ⟨"WeekBoatsModel", "lastEnd", "(I)I"⟩ prog_14_method_85_code 4 (some .int) ∈ lw_gd := wk_9 (i := 133) rfl rfl
theorem wm_2164 : Cond.methodLink "WeekBoatsModel" 540 ⟨"WeekBoatsModel", "handOf", "(III)I"⟩ ∈ lw_gd := wk_9 (i := 134) (by decide +kernel) rfl
theorem wm_2166 : Cond.instanceMethod ⟨"WeekBoatsModel", "handOf", "(III)I"⟩ ∈ lw_gd := wk_9 (i := 136) (by decide +kernel) rfl
set_option maxRecDepth 100000 in
theorem wm_2167 : Cond.code ⟨"WeekBoatsModel", "handOf", "(III)I"⟩ prog_14_method_86_code 6 (some .int) ∈ lw_gd := wk_9 (i := 137) rfl rfl
theorem wm_2168 : Cond.methodLink "WeekBoatsLaw" 155 ⟨"WeekBoatsModel", "weight", "(II)Z"⟩ ∈ lw_gd := wk_9 (i := 138) (by decide +kernel) rfl
theorem wm_2169 : Cond.instanceMethod ⟨"WeekBoatsModel", "weight", "(II)Z"⟩ ∈ lw_gd := wk_9 (i := 139) (by decide +kernel) rfl
theorem wm_2170 : Cond.selects "WeekBoatsModel" ⟨"WeekBoatsModel", "weight", "(II)Z"⟩ ⟨"WeekBoatsModel", "weight", "(II)Z"⟩ ∈ lw_gd := wk_9 (i := 140) (by decide +kernel) rfl
set_option maxRecDepth 100000 in
theorem wm_2171 : Cond.code ⟨"WeekBoatsModel", "weight", "(II)Z"⟩ prog_14_method_88_code 3 (some .boolean) ∈ lw_gd := wk_9 (i := 141) rfl rfl
theorem wm_2172 : Cond.methodLink "WeekBoatsLaw" 159 ⟨"WeekBoatsModel", "van", "(I)I"⟩ ∈ lw_gd := wk_9 (i := 142) (by decide +kernel) rfl
theorem wm_2173 : Cond.instanceMethod ⟨"WeekBoatsModel", "van", "(I)I"⟩ ∈ lw_gd := wk_9 (i := 143) (by decide +kernel) rfl
theorem wm_2174 : Cond.selects "WeekBoatsModel" ⟨"WeekBoatsModel", "van", "(I)I"⟩ ⟨"WeekBoatsModel", "van", "(I)I"⟩ ∈ lw_gd := wk_9 (i := 144) (by decide +kernel) rfl
set_option maxRecDepth 100000 in
theorem wm_2175 : Cond.code ⟨"WeekBoatsModel", "van", "(I)I"⟩ prog_14_method_92_code 4 (some .int) ∈ lw_gd := wk_9 (i := 145) rfl rfl
theorem wm_2176 : Cond.methodLink "WeekBoatsModel" 546 ⟨"WeekBoatsModel", "sumOf", "(I)I"⟩ ∈ lw_gd := wk_9 (i := 146) (by decide +kernel) rfl
theorem wm_2178 : Cond.instanceMethod ⟨"WeekBoatsModel", "sumOf", "(I)I"⟩ ∈ lw_gd := wk_9 (i := 148) (by decide +kernel) rfl
set_option maxRecDepth 100000 in
theorem wm_2179 : Cond.code ⟨"WeekBoatsModel", "sumOf", "(I)I"⟩ prog_14_method_90_code 4 (some .int) ∈ lw_gd := wk_9 (i := 149) rfl rfl
theorem wm_2180 : Cond.methodLink "WeekBoatsModel" 543 ⟨"WeekBoatsModel", "drive", "(II)I"⟩ ∈ lw_gd := wk_9 (i := 150) (by decide +kernel) rfl
theorem wm_2182 : Cond.instanceMethod ⟨"WeekBoatsModel", "drive", "(II)I"⟩ ∈ lw_gd := wk_9 (i := 152) (by decide +kernel) rfl
set_option maxRecDepth 100000 in
theorem wm_2183 : Cond.code ⟨"WeekBoatsModel", "drive", "(II)I"⟩ prog_14_method_89_code 5 (some .int) ∈ lw_gd := wk_9 (i := 153) rfl rfl
theorem wm_2184 : Cond.methodLink "WeekBoatsModel" 549 ⟨"WeekBoatsModel", "worstOf", "(I)I"⟩ ∈ lw_gd := wk_9 (i := 154) (by decide +kernel) rfl
theorem wm_2186 : Cond.instanceMethod ⟨"WeekBoatsModel", "worstOf", "(I)I"⟩ ∈ lw_gd := wk_9 (i := 156) (by decide +kernel) rfl
set_option maxRecDepth 100000 in
theorem wm_2187 : Cond.code ⟨"WeekBoatsModel", "worstOf", "(I)I"⟩ prog_14_method_91_code 4 (some .int) ∈ lw_gd := wk_9 (i := 157) rfl rfl
theorem wm_2188 : Cond.methodLink "WeekBoatsLaw" 163 ⟨"WeekBoatsModel", "vans", "(I)I"⟩ ∈ lw_gd := wk_9 (i := 158) (by decide +kernel) rfl
theorem wm_2189 : Cond.instanceMethod ⟨"WeekBoatsModel", "vans", "(I)I"⟩ ∈ lw_gd := wk_9 (i := 159) (by decide +kernel) rfl
theorem wm_2190 : Cond.selects "WeekBoatsModel" ⟨"WeekBoatsModel", "vans", "(I)I"⟩ ⟨"WeekBoatsModel", "vans", "(I)I"⟩ ∈ lw_gd := wk_9 (i := 160) (by decide +kernel) rfl
set_option maxRecDepth 100000 in
theorem wm_2191 : Cond.code ⟨"WeekBoatsModel", "vans", "(I)I"⟩ prog_14_method_94_code 8 (some .int) ∈ lw_gd := wk_9 (i := 161) rfl rfl
theorem wm_2192 : Cond.methodLink "WeekBoatsModel" 552 ⟨"WeekBoatsModel", "nearer", "(III)I"⟩ ∈ lw_gd := wk_9 (i := 162) (by decide +kernel) rfl
theorem wm_2194 : Cond.instanceMethod ⟨"WeekBoatsModel", "nearer", "(III)I"⟩ ∈ lw_gd := wk_9 (i := 164) (by decide +kernel) rfl
set_option maxRecDepth 100000 in
theorem wm_2195 : Cond.code ⟨"WeekBoatsModel", "nearer", "(III)I"⟩ prog_14_method_93_code 4 (some .int) ∈ lw_gd := wk_9 (i := 165) rfl rfl
theorem wm_2196 : Cond.methodLink "WeekBoatsLaw" 167 ⟨"WeekBoatsModel", "call", "(III)I"⟩ ∈ lw_gd := wk_9 (i := 166) (by decide +kernel) rfl
theorem wm_2197 : Cond.instanceMethod ⟨"WeekBoatsModel", "call", "(III)I"⟩ ∈ lw_gd := wk_9 (i := 167) (by decide +kernel) rfl
theorem wm_2198 : Cond.selects "WeekBoatsModel" ⟨"WeekBoatsModel", "call", "(III)I"⟩ ⟨"WeekBoatsModel", "call", "(III)I"⟩ ∈ lw_gd := wk_9 (i := 168) (by decide +kernel) rfl
set_option maxRecDepth 100000 in
theorem wm_2199 : Cond.code ⟨"WeekBoatsModel", "call", "(III)I"⟩ prog_14_method_95_code 4 (some .int) ∈ lw_gd := wk_9 (i := 169) rfl rfl
theorem wm_2200 : Cond.methodLink "WeekBoatsLaw" 171 ⟨"WeekBoatsModel", "taken", "(III)I"⟩ ∈ lw_gd := wk_9 (i := 170) (by decide +kernel) rfl
theorem wm_2201 : Cond.instanceMethod ⟨"WeekBoatsModel", "taken", "(III)I"⟩ ∈ lw_gd := wk_9 (i := 171) (by decide +kernel) rfl
theorem wm_2202 : Cond.selects "WeekBoatsModel" ⟨"WeekBoatsModel", "taken", "(III)I"⟩ ⟨"WeekBoatsModel", "taken", "(III)I"⟩ ∈ lw_gd := wk_9 (i := 172) (by decide +kernel) rfl
set_option maxRecDepth 100000 in
theorem wm_2203 : Cond.code ⟨"WeekBoatsModel", "taken", "(III)I"⟩ prog_14_method_97_code 10 (some .int) ∈ lw_gd := wk_9 (i := 173) rfl rfl
theorem wm_2204 : Cond.methodLink "WeekBoatsModel" 558 ⟨"WeekBoatsModel", "arrives", "(II)I"⟩ ∈ lw_gd := wk_9 (i := 174) (by decide +kernel) rfl
theorem wm_2206 : Cond.instanceMethod ⟨"WeekBoatsModel", "arrives", "(II)I"⟩ ∈ lw_gd := wk_9 (i := 176) (by decide +kernel) rfl
set_option maxRecDepth 100000 in
theorem wm_2207 : Cond.code ⟨"WeekBoatsModel", "arrives", "(II)I"⟩ prog_14_method_96_code 4 (some .int) ∈ lw_gd := wk_9 (i := 177) rfl rfl
theorem wm_2208 : Cond.methodLink "WeekBoatsLaw" 175 ⟨"WeekBoatsModel", "left", "(IIIII)I"⟩ ∈ lw_gd := wk_9 (i := 178) (by decide +kernel) rfl
theorem wm_2209 : Cond.instanceMethod ⟨"WeekBoatsModel", "left", "(IIIII)I"⟩ ∈ lw_gd := wk_9 (i := 179) (by decide +kernel) rfl
theorem wm_2210 : Cond.selects "WeekBoatsModel" ⟨"WeekBoatsModel", "left", "(IIIII)I"⟩ ⟨"WeekBoatsModel", "left", "(IIIII)I"⟩ ∈ lw_gd := wk_9 (i := 180) (by decide +kernel) rfl
set_option maxRecDepth 100000 in
theorem wm_2211 : Cond.code ⟨"WeekBoatsModel", "left", "(IIIII)I"⟩ prog_14_method_103_code 7 (some .int) ∈ lw_gd := wk_9 (i := 181) rfl rfl
theorem wm_2212 : Cond.methodLink "WeekBoatsModel" 567 ⟨"WeekBoatsModel", "canAsk", "(IIII)Z"⟩ ∈ lw_gd := wk_9 (i := 182) (by decide +kernel) rfl
theorem wm_2213 : Cond.static ⟨"WeekBoatsModel", "canAsk", "(IIII)Z"⟩ ∈ lw_gd := wk_9 (i := 183) (by decide +kernel) rfl
set_option maxRecDepth 100000 in
theorem wm_2214 : Cond.code ⟨"WeekBoatsModel", "canAsk", "(IIII)Z"⟩ prog_14_method_98_code 4 (some .boolean) ∈ lw_gd := wk_9 (i := 184) rfl rfl
theorem wm_2215 : Cond.methodLink "WeekBoatsModel" 570 ⟨"WeekBoatsModel", "starts", "()V"⟩ ∈ lw_gd := wk_9 (i := 185) (by decide +kernel) rfl
theorem wm_2217 : Cond.instanceMethod ⟨"WeekBoatsModel", "starts", "()V"⟩ ∈ lw_gd := wk_9 (i := 187) (by decide +kernel) rfl
set_option maxRecDepth 100000 in
theorem wm_2218 : Cond.code ⟨"WeekBoatsModel", "starts", "()V"⟩ prog_14_method_101_code 2 none ∈ lw_gd := wk_9 (i := 188) rfl rfl
theorem wm_2219 : Cond.constant "WeekBoatsModel" 561 1000000 ∈ lw_gd := wk_9 (i := 189) (by decide +kernel) rfl
theorem wm_2220 : Cond.methodLink "WeekBoatsModel" 573 ⟨"WeekBoatsModel", "aDay", "(IIII)V"⟩ ∈ lw_gd := wk_9 (i := 190) (by decide +kernel) rfl
theorem wm_2222 : Cond.instanceMethod ⟨"WeekBoatsModel", "aDay", "(IIII)V"⟩ ∈ lw_gd := wk_9 (i := 192) (by decide +kernel) rfl
set_option maxRecDepth 100000 in
theorem wm_2223 : Cond.code ⟨"WeekBoatsModel", "aDay", "(IIII)V"⟩ prog_14_method_102_code 8 none ∈ lw_gd := wk_9 (i := 193) rfl rfl
theorem wm_2224 : Cond.constantLong "WeekBoatsModel" 562 100 ∈ lw_gd := wk_9 (i := 194) (by decide +kernel) rfl
theorem wm_2225 : Cond.methodLink "WeekBoatsModel" 564 ⟨"WeekBoatsModel", "falls", "(III)V"⟩ ∈ lw_gd := wk_9 (i := 195) (by decide +kernel) rfl
theorem wm_2227 : Cond.instanceMethod ⟨"WeekBoatsModel", "falls", "(III)V"⟩ ∈ lw_gd := wk_9 (i := 197) (by decide +kernel) rfl
set_option maxRecDepth 100000 in
theorem wm_2228 : Cond.code ⟨"WeekBoatsModel", "falls", "(III)V"⟩ prog_14_method_99_code 5 none ∈ lw_gd := wk_9 (i := 198) rfl rfl
theorem wm_2229 : Cond.methodLink "WeekBoatsModel" 577 ⟨"WeekBoatsModel", "kept", "()I"⟩ ∈ lw_gd := wk_9 (i := 199) (by decide +kernel) rfl
theorem wm_2231 : Cond.instanceMethod ⟨"WeekBoatsModel", "kept", "()I"⟩ ∈ lw_gd := wk_9 (i := 201) (by decide +kernel) rfl
set_option maxRecDepth 100000 in
theorem wm_2232 : Cond.code ⟨"WeekBoatsModel", "kept", "()I"⟩ prog_14_method_100_code 3 (some .int) ∈ lw_gd := wk_9 (i := 202) rfl rfl
theorem wm_2233 : Cond.methodLink "WeekBoatsLaw" 179 ⟨"WeekBoatsModel", "shuts", "(IIII)I"⟩ ∈ lw_gd := wk_9 (i := 203) (by decide +kernel) rfl
theorem wm_2234 : Cond.instanceMethod ⟨"WeekBoatsModel", "shuts", "(IIII)I"⟩ ∈ lw_gd := wk_9 (i := 204) (by decide +kernel) rfl
theorem wm_2235 : Cond.selects "WeekBoatsModel" ⟨"WeekBoatsModel", "shuts", "(IIII)I"⟩ ⟨"WeekBoatsModel", "shuts", "(IIII)I"⟩ ∈ lw_gd := wk_9 (i := 205) (by decide +kernel) rfl
set_option maxRecDepth 100000 in
theorem wm_2236 : Cond.code ⟨"WeekBoatsModel", "shuts", "(IIII)I"⟩ prog_14_method_104_code 6 (some .int) ∈ lw_gd := wk_9 (i := 206) rfl rfl
theorem wm_2237 : Cond.constant "WeekBoatsModel" 580 500000 ∈ lw_gd := wk_9 (i := 207) (by decide +kernel) rfl
theorem wm_2238 : Cond.methodLink "WeekBoatsLaw" 184 ⟨"WeekBoatsModel", "price", "(IIZ)I"⟩ ∈ lw_gd := wk_9 (i := 208) (by decide +kernel) rfl
theorem wm_2239 : Cond.methodLink "WeekBoatsLaw" 188 ⟨"WeekBoatsModel", "held", "(IIII)I"⟩ ∈ lw_gd := wk_9 (i := 209) (by decide +kernel) rfl
theorem wm_2240 : Cond.instanceMethod ⟨"WeekBoatsModel", "held", "(IIII)I"⟩ ∈ lw_gd := wk_9 (i := 210) (by decide +kernel) rfl
theorem wm_2241 : Cond.selects "WeekBoatsModel" ⟨"WeekBoatsModel", "held", "(IIII)I"⟩ ⟨"WeekBoatsModel", "held", "(IIII)I"⟩ ∈ lw_gd := wk_9 (i := 211) (by decide +kernel) rfl
set_option maxRecDepth 100000 in
theorem wm_2242 : Cond.code ⟨"WeekBoatsModel", "held", "(IIII)I"⟩ prog_14_method_106_code 6 (some .int) ∈ lw_gd := wk_9 (i := 212) rfl rfl
theorem wm_2243 : Cond.methodLink "WeekBoatsLaw" 192 ⟨"WeekBoatsModel", "look", "(I)I"⟩ ∈ lw_gd := wk_9 (i := 213) (by decide +kernel) rfl
theorem wm_2244 : Cond.instanceMethod ⟨"WeekBoatsModel", "look", "(I)I"⟩ ∈ lw_gd := wk_9 (i := 214) (by decide +kernel) rfl
theorem wm_2245 : Cond.selects "WeekBoatsModel" ⟨"WeekBoatsModel", "look", "(I)I"⟩ ⟨"WeekBoatsModel", "look", "(I)I"⟩ ∈ lw_gd := wk_9 (i := 215) (by decide +kernel) rfl
set_option maxRecDepth 100000 in
theorem wm_2246 : Cond.code ⟨"WeekBoatsModel", "look", "(I)I"⟩ prog_14_method_107_code 2 (some .int) ∈ lw_gd := wk_9 (i := 216) rfl rfl
theorem wm_2247 : Cond.fieldLink "java/lang/String" 9 "java/lang/String" "value" "[B" ∈ lw_gd := wk_9 (i := 217) (by decide +kernel) rfl
theorem wm_2248 : Cond.fieldLink "java/lang/String" 15 "java/lang/String" "coder" "B" ∈ lw_gd := wk_9 (i := 218) (by decide +kernel) rfl
end
