set_option maxRecDepth 100000 in
theorem wm_1147 : Cond.code ⟨"WeekBoats", "enough", "(IIIII)I"⟩ prog_1_method_25_code 8 (some .int) ∈ lw_gd := wk_5 (i := 77) rfl rfl
theorem wm_1148 : Cond.methodLink "WeekBoatsLaw" 90 ⟨"WeekBoats", "trip", "(IIIII)I"⟩ ∈ lw_gd := wk_5 (i := 78) (by decide +kernel) rfl
theorem wm_1149 : Cond.instanceMethod ⟨"WeekBoats", "trip", "(IIIII)I"⟩ ∈ lw_gd := wk_5 (i := 79) (by decide +kernel) rfl
theorem wm_1150 : Cond.selects "WeekBoats" ⟨"WeekBoats", "trip", "(IIIII)I"⟩ ⟨"WeekBoats", "trip", "(IIIII)I"⟩ ∈ lw_gd := wk_5 (i := 80) (by decide +kernel) rfl
set_option maxRecDepth 100000 in
theorem wm_1151 : Cond.code ⟨"WeekBoats", "trip", "(IIIII)I"⟩ prog_1_method_26_code 6 (some .int) ∈ lw_gd := wk_5 (i := 81) rfl rfl
theorem wm_1152 : Cond.methodLink "WeekBoats" 219 ⟨"WeekBoats$Trips", "add", "(IIIII)I"⟩ ∈ lw_gd := wk_5 (i := 82) (by decide +kernel) rfl
theorem wm_1153 : Cond.instanceMethod ⟨"WeekBoats$Trips", "add", "(IIIII)I"⟩ ∈ lw_gd := wk_5 (i := 83) (by decide +kernel) rfl
theorem wm_1154 : Cond.selects "WeekBoats$Trips" ⟨"WeekBoats$Trips", "add", "(IIIII)I"⟩ ⟨"WeekBoats$Trips", "add", "(IIIII)I"⟩ ∈ lw_gd := wk_5 (i := 84) (by decide +kernel) rfl
set_option maxRecDepth 100000 in
theorem wm_1155 : Cond.code ⟨"WeekBoats$Trips", "add", "(IIIII)I"⟩ prog_9_method_2_code 6 (some .int) ∈ lw_gd := wk_5 (i := 85) rfl rfl
theorem wm_1156 : Cond.methodLink "WeekBoatsLaw" 94 ⟨"WeekBoats", "late", "(I)I"⟩ ∈ lw_gd := wk_5 (i := 86) (by decide +kernel) rfl
theorem wm_1157 : Cond.instanceMethod ⟨"WeekBoats", "late", "(I)I"⟩ ∈ lw_gd := wk_5 (i := 87) (by decide +kernel) rfl
theorem wm_1158 : Cond.selects "WeekBoats" ⟨"WeekBoats", "late", "(I)I"⟩ ⟨"WeekBoats", "late", "(I)I"⟩ ∈ lw_gd := wk_5 (i := 88) (by decide +kernel) rfl
set_option maxRecDepth 100000 in
theorem wm_1159 : Cond.code ⟨"WeekBoats", "late", "(I)I"⟩ prog_1_method_27_code 2 (some .int) ∈ lw_gd := wk_5 (i := 89) rfl rfl
theorem wm_1160 : Cond.methodLink "WeekBoats" 222 ⟨"WeekBoats$Trips", "howManyLate", "()I"⟩ ∈ lw_gd := wk_5 (i := 90) (by decide +kernel) rfl
theorem wm_1161 : Cond.instanceMethod ⟨"WeekBoats$Trips", "howManyLate", "()I"⟩ ∈ lw_gd := wk_5 (i := 91) (by decide +kernel) rfl
theorem wm_1162 : Cond.selects "WeekBoats$Trips" ⟨"WeekBoats$Trips", "howManyLate", "()I"⟩ ⟨"WeekBoats$Trips", "howManyLate", "()I"⟩ ∈ lw_gd := wk_5 (i := 92) (by decide +kernel) rfl
set_option maxRecDepth 100000 in
theorem wm_1163 : Cond.code ⟨"WeekBoats$Trips", "howManyLate", "()I"⟩ prog_9_method_4_code 3 (some .int) ∈ lw_gd := wk_5 (i := 93) rfl rfl
theorem wm_1164 : Cond.methodLink "WeekBoatsLaw" 98 ⟨"WeekBoats", "log", "(III)I"⟩ ∈ lw_gd := wk_5 (i := 94) (by decide +kernel) rfl
theorem wm_1165 : Cond.instanceMethod ⟨"WeekBoats", "log", "(III)I"⟩ ∈ lw_gd := wk_5 (i := 95) (by decide +kernel) rfl
theorem wm_1166 : Cond.selects "WeekBoats" ⟨"WeekBoats", "log", "(III)I"⟩ ⟨"WeekBoats", "log", "(III)I"⟩ ∈ lw_gd := wk_5 (i := 96) (by decide +kernel) rfl
set_option maxRecDepth 100000 in
theorem wm_1167 : Cond.code ⟨"WeekBoats", "log", "(III)I"⟩ prog_1_method_28_code 4 (some .int) ∈ lw_gd := wk_5 (i := 97) rfl rfl
theorem wm_1168 : Cond.methodLink "WeekBoats" 225 ⟨"WeekBoats$Boats", "addLog", "(III)I"⟩ ∈ lw_gd := wk_5 (i := 98) (by decide +kernel) rfl
theorem wm_1169 : Cond.instanceMethod ⟨"WeekBoats$Boats", "addLog", "(III)I"⟩ ∈ lw_gd := wk_5 (i := 99) (by decide +kernel) rfl
theorem wm_1170 : Cond.selects "WeekBoats$Boats" ⟨"WeekBoats$Boats", "addLog", "(III)I"⟩ ⟨"WeekBoats$Boats", "addLog", "(III)I"⟩ ∈ lw_gd := wk_5 (i := 100) (by decide +kernel) rfl
set_option maxRecDepth 100000 in
theorem wm_1171 : Cond.code ⟨"WeekBoats$Boats", "addLog", "(III)I"⟩ prog_2_method_3_code 5 (some .int) ∈ lw_gd := wk_5 (i := 101) rfl rfl
theorem wm_1172 : Cond.methodLink "WeekBoatsLaw" 102 ⟨"WeekBoats", "could", "(IIII)I"⟩ ∈ lw_gd := wk_5 (i := 102) (by decide +kernel) rfl
theorem wm_1173 : Cond.instanceMethod ⟨"WeekBoats", "could", "(IIII)I"⟩ ∈ lw_gd := wk_5 (i := 103) (by decide +kernel) rfl
theorem wm_1174 : Cond.selects "WeekBoats" ⟨"WeekBoats", "could", "(IIII)I"⟩ ⟨"WeekBoats", "could", "(IIII)I"⟩ ∈ lw_gd := wk_5 (i := 104) (by decide +kernel) rfl
set_option maxRecDepth 100000 in
theorem wm_1175 : Cond.code ⟨"WeekBoats", "could", "(IIII)I"⟩ prog_1_method_29_code 5 (some .int) ∈ lw_gd := wk_5 (i := 105) rfl rfl
theorem wm_1176 : Cond.methodLink "WeekBoats" 229 ⟨"WeekBoats$Boats", "canHaveBeen", "(IIII)Z"⟩ ∈ lw_gd := wk_5 (i := 106) (by decide +kernel) rfl
theorem wm_1177 : Cond.instanceMethod ⟨"WeekBoats$Boats", "canHaveBeen", "(IIII)Z"⟩ ∈ lw_gd := wk_5 (i := 107) (by decide +kernel) rfl
theorem wm_1178 : Cond.selects "WeekBoats$Boats" ⟨"WeekBoats$Boats", "canHaveBeen", "(IIII)Z"⟩ ⟨"WeekBoats$Boats", "canHaveBeen", "(IIII)Z"⟩ ∈ lw_gd := wk_5 (i := 108) (by decide +kernel) rfl
set_option maxRecDepth 100000 in
theorem wm_1179 : Cond.code ⟨"WeekBoats$Boats", "canHaveBeen", "(IIII)Z"⟩ prog_2_method_6_code 6 (some .boolean) ∈ lw_gd := wk_5 (i := 109) rfl rfl
theorem wm_1180 : Cond.methodLink "WeekBoats$Boats" 54 ⟨"WeekBoats$Boats", "canBetween", "(IIIII)Z"⟩ ∈ lw_gd := wk_5 (i := 110) (by decide +kernel) rfl
theorem wm_1182 : Cond.instanceMethod ⟨"WeekBoats$Boats", "canBetween", "(IIIII)Z"⟩ ∈ lw_gd := wk_5 (i := 112) (by decide +kernel) rfl
set_option maxRecDepth 100000 in
theorem wm_1183 : Cond.code ⟨"WeekBoats$Boats", "canBetween", "(IIIII)Z"⟩ prog_2_method_7_code 12 (some .boolean) ∈ lw_gd := wk_5 (i := 113) rfl rfl
theorem wm_1184 : Cond.methodLink "WeekBoats$Boats" 58 ⟨"WeekBoats$Boats", "placeOf", "(II)I"⟩ ∈ lw_gd := wk_5 (i := 114) (by decide +kernel) rfl
theorem wm_1186 : Cond.instanceMethod ⟨"WeekBoats$Boats", "placeOf", "(II)I"⟩ ∈ lw_gd := wk_5 (i := 116) (by decide +kernel) rfl
set_option maxRecDepth 100000 in
theorem wm_1187 : Cond.code ⟨"WeekBoats$Boats", "placeOf", "(II)I"⟩ prog_2_method_4_code 3 (some .int) ∈ lw_gd := wk_5 (i := 117) rfl rfl
theorem wm_1188 : Cond.methodLink "WeekBoats$Boats" 62 ⟨"WeekBoats$Boats", "timeOf", "(II)I"⟩ ∈ lw_gd := wk_5 (i := 118) (by decide +kernel) rfl
theorem wm_1190 : Cond.instanceMethod ⟨"WeekBoats$Boats", "timeOf", "(II)I"⟩ ∈ lw_gd := wk_5 (i := 120) (by decide +kernel) rfl
set_option maxRecDepth 100000 in
theorem wm_1191 : Cond.code ⟨"WeekBoats$Boats", "timeOf", "(II)I"⟩ prog_2_method_5_code 3 (some .int) ∈ lw_gd := wk_5 (i := 121) rfl rfl
theorem wm_1192 : Cond.methodLink "WeekBoats$Boats" 65 ⟨"WeekBoats$Voyage", "comesTo", "(IIIIZ)I"⟩ ∈ lw_gd := wk_5 (i := 122) (by decide +kernel) rfl
theorem wm_1193 : Cond.methodLink "WeekBoatsLaw" 106 ⟨"WeekBoats", "whose", "(IIII)I"⟩ ∈ lw_gd := wk_5 (i := 123) (by decide +kernel) rfl
theorem wm_1194 : Cond.instanceMethod ⟨"WeekBoats", "whose", "(IIII)I"⟩ ∈ lw_gd := wk_5 (i := 124) (by decide +kernel) rfl
theorem wm_1195 : Cond.selects "WeekBoats" ⟨"WeekBoats", "whose", "(IIII)I"⟩ ⟨"WeekBoats", "whose", "(IIII)I"⟩ ∈ lw_gd := wk_5 (i := 125) (by decide +kernel) rfl
set_option maxRecDepth 100000 in
theorem wm_1196 : Cond.code ⟨"WeekBoats", "whose", "(IIII)I"⟩ prog_1_method_30_code 8 (some .int) ∈ lw_gd := wk_5 (i := 126) rfl rfl
theorem wm_1197 : Cond.methodLink "WeekBoats" 232 ⟨"java/lang/Integer", "bitCount", "(I)I"⟩ ∈ lw_gd := wk_5 (i := 127) (by decide +kernel) rfl
theorem wm_1198 : Cond.static ⟨"java/lang/Integer", "bitCount", "(I)I"⟩ ∈ lw_gd := wk_5 (i := 128) (by decide +kernel) rfl
set_option maxRecDepth 100000 in
theorem wm_1199 : Cond.code ⟨"java/lang/Integer", "bitCount", "(I)I"⟩ prog_16_method_49_code 1 (some .int) ∈ lw_gd := wk_5 (i := 129) rfl rfl
theorem wm_1200 : Cond.constant "java/lang/Integer" 265 1431655765 ∈ lw_gd := wk_5 (i := 130) (by decide +kernel) rfl
theorem wm_1201 : Cond.constant "java/lang/Integer" 266 858993459 ∈ lw_gd := wk_5 (i := 131) (by decide +kernel) rfl
theorem wm_1202 : Cond.constant "java/lang/Integer" 267 252645135 ∈ lw_gd := wk_5 (i := 132) (by decide +kernel) rfl
theorem wm_1203 : Cond.methodLink "WeekBoatsLaw" 110 ⟨"WeekBoats", "tonight", "(II)I"⟩ ∈ lw_gd := wk_5 (i := 133) (by decide +kernel) rfl
theorem wm_1204 : Cond.instanceMethod ⟨"WeekBoats", "tonight", "(II)I"⟩ ∈ lw_gd := wk_5 (i := 134) (by decide +kernel) rfl
theorem wm_1205 : Cond.selects "WeekBoats" ⟨"WeekBoats", "tonight", "(II)I"⟩ ⟨"WeekBoats", "tonight", "(II)I"⟩ ∈ lw_gd := wk_5 (i := 135) (by decide +kernel) rfl
set_option maxRecDepth 100000 in
theorem wm_1206 : Cond.code ⟨"WeekBoats", "tonight", "(II)I"⟩ prog_1_method_31_code 4 (some .int) ∈ lw_gd := wk_5 (i := 136) rfl rfl
theorem wm_1207 : Cond.methodLink "WeekBoats" 237 ⟨"WeekBoats$Boats", "settleTonight", "(I)V"⟩ ∈ lw_gd := wk_5 (i := 137) (by decide +kernel) rfl
theorem wm_1208 : Cond.instanceMethod ⟨"WeekBoats$Boats", "settleTonight", "(I)V"⟩ ∈ lw_gd := wk_5 (i := 138) (by decide +kernel) rfl
theorem wm_1209 : Cond.selects "WeekBoats$Boats" ⟨"WeekBoats$Boats", "settleTonight", "(I)V"⟩ ⟨"WeekBoats$Boats", "settleTonight", "(I)V"⟩ ∈ lw_gd := wk_5 (i := 139) (by decide +kernel) rfl
set_option maxRecDepth 100000 in
theorem wm_1210 : Cond.code ⟨"WeekBoats$Boats", "settleTonight", "(I)V"⟩ prog_2_method_8_code 6 none ∈ lw_gd := wk_5 (i := 140) rfl rfl
theorem wm_1211 : Cond.methodLink "WeekBoats$Boats" 76 ⟨"java/util/Arrays", "fill", "([II)V"⟩ ∈ lw_gd := wk_5 (i := 141) (by decide +kernel) rfl
theorem wm_1212 : Cond.methodLink "WeekBoats$Boats" 82 ⟨"WeekBoats$Boats", "lastLog", "(II)I"⟩ ∈ lw_gd := wk_5 (i := 142) (by decide +kernel) rfl
theorem wm_1214 : Cond.instanceMethod ⟨"WeekBoats$Boats", "lastLog", "(II)I"⟩ ∈ lw_gd := wk_5 (i := 144) (by decide +kernel) rfl
set_option maxRecDepth 100000 in
theorem wm_1215 : Cond.code ⟨"WeekBoats$Boats", "lastLog", "(II)I"⟩ prog_2_method_9_code 5 (some .int) ∈ lw_gd := wk_5 (i := 145) rfl rfl
theorem wm_1216 : Cond.methodLink "WeekBoats$Boats" 85 ⟨"WeekBoats$Voyage", "reach", "(III)V"⟩ ∈ lw_gd := wk_5 (i := 146) (by decide +kernel) rfl
theorem wm_1217 : Cond.methodLink "WeekBoats$Boats" 89 ⟨"WeekBoats$Voyage", "reached", "(I)I"⟩ ∈ lw_gd := wk_5 (i := 147) (by decide +kernel) rfl
theorem wm_1218 : Cond.methodLink "WeekBoats" 243 ⟨"WeekBoats$Boats", "crowd", "()I"⟩ ∈ lw_gd := wk_5 (i := 148) (by decide +kernel) rfl
theorem wm_1219 : Cond.instanceMethod ⟨"WeekBoats$Boats", "crowd", "()I"⟩ ∈ lw_gd := wk_5 (i := 149) (by decide +kernel) rfl
theorem wm_1220 : Cond.selects "WeekBoats$Boats" ⟨"WeekBoats$Boats", "crowd", "()I"⟩ ⟨"WeekBoats$Boats", "crowd", "()I"⟩ ∈ lw_gd := wk_5 (i := 150) (by decide +kernel) rfl
set_option maxRecDepth 100000 in
theorem wm_1221 : Cond.code ⟨"WeekBoats$Boats", "crowd", "()I"⟩ prog_2_method_10_code 3 (some .int) ∈ lw_gd := wk_5 (i := 151) rfl rfl
theorem wm_1222 : Cond.methodLink "WeekBoats$Boats" 93 ⟨"java/lang/Integer", "bitCount", "(I)I"⟩ ∈ lw_gd := wk_5 (i := 152) (by decide +kernel) rfl
theorem wm_1223 : Cond.methodLink "WeekBoatsLaw" 114 ⟨"WeekBoats", "queue", "(II)I"⟩ ∈ lw_gd := wk_5 (i := 153) (by decide +kernel) rfl
theorem wm_1224 : Cond.instanceMethod ⟨"WeekBoats", "queue", "(II)I"⟩ ∈ lw_gd := wk_5 (i := 154) (by decide +kernel) rfl
theorem wm_1225 : Cond.selects "WeekBoats" ⟨"WeekBoats", "queue", "(II)I"⟩ ⟨"WeekBoats", "queue", "(II)I"⟩ ∈ lw_gd := wk_5 (i := 155) (by decide +kernel) rfl
set_option maxRecDepth 100000 in
theorem wm_1226 : Cond.code ⟨"WeekBoats", "queue", "(II)I"⟩ prog_1_method_32_code 3 (some .int) ∈ lw_gd := wk_5 (i := 156) rfl rfl
theorem wm_1227 : Cond.methodLink "WeekBoats" 246 ⟨"WeekBoats$LockQueue", "clear", "()V"⟩ ∈ lw_gd := wk_5 (i := 157) (by decide +kernel) rfl
theorem wm_1228 : Cond.instanceMethod ⟨"WeekBoats$LockQueue", "clear", "()V"⟩ ∈ lw_gd := wk_5 (i := 158) (by decide +kernel) rfl
theorem wm_1229 : Cond.selects "WeekBoats$LockQueue" ⟨"WeekBoats$LockQueue", "clear", "()V"⟩ ⟨"WeekBoats$LockQueue", "clear", "()V"⟩ ∈ lw_gd := wk_5 (i := 159) (by decide +kernel) rfl
set_option maxRecDepth 100000 in
theorem wm_1230 : Cond.code ⟨"WeekBoats$LockQueue", "clear", "()V"⟩ prog_5_method_2_code 1 none ∈ lw_gd := wk_5 (i := 160) rfl rfl
theorem wm_1231 : Cond.methodLink "WeekBoats" 249 ⟨"WeekBoats$LockQueue", "add", "(II)I"⟩ ∈ lw_gd := wk_5 (i := 161) (by decide +kernel) rfl
theorem wm_1232 : Cond.instanceMethod ⟨"WeekBoats$LockQueue", "add", "(II)I"⟩ ∈ lw_gd := wk_5 (i := 162) (by decide +kernel) rfl
theorem wm_1233 : Cond.selects "WeekBoats$LockQueue" ⟨"WeekBoats$LockQueue", "add", "(II)I"⟩ ⟨"WeekBoats$LockQueue", "add", "(II)I"⟩ ∈ lw_gd := wk_5 (i := 163) (by decide +kernel) rfl
set_option maxRecDepth 100000 in
theorem wm_1234 : Cond.code ⟨"WeekBoats$LockQueue", "add", "(II)I"⟩ prog_5_method_3_code 3 (some .int) ∈ lw_gd := wk_5 (i := 164) rfl rfl
theorem wm_1235 : Cond.methodLink "WeekBoats$LockQueue" 34 ⟨"WeekBoats$LockQueue", "findBest", "()V"⟩ ∈ lw_gd := wk_5 (i := 165) (by decide +kernel) rfl
theorem wm_1237 : Cond.instanceMethod ⟨"WeekBoats$LockQueue", "findBest", "()V"⟩ ∈ lw_gd := wk_5 (i := 167) (by decide +kernel) rfl
set_option maxRecDepth 100000 in
theorem wm_1238 : Cond.code ⟨"WeekBoats$LockQueue", "findBest", "()V"⟩ prog_5_method_4_code 2 none ∈ lw_gd := wk_5 (i := 168) rfl rfl
theorem wm_1239 : Cond.methodLink "WeekBoats$LockQueue" 37 ⟨"WeekBoats$LockQueue", "waitOf", "([I)I"⟩ ∈ lw_gd := wk_5 (i := 169) (by decide +kernel) rfl
theorem wm_1241 : Cond.instanceMethod ⟨"WeekBoats$LockQueue", "waitOf", "([I)I"⟩ ∈ lw_gd := wk_5 (i := 171) (by decide +kernel) rfl
set_option maxRecDepth 100000 in
theorem wm_1242 : Cond.code ⟨"WeekBoats$LockQueue", "waitOf", "([I)I"⟩ prog_5_method_5_code 6 (some .int) ∈ lw_gd := wk_5 (i := 172) rfl rfl
theorem wm_1243 : Cond.methodLink "WeekBoats$LockQueue" 45 ⟨"java/lang/Math", "max", "(II)I"⟩ ∈ lw_gd := wk_5 (i := 173) (by decide +kernel) rfl
theorem wm_1244 : Cond.methodLink "WeekBoats$LockQueue" 51 ⟨"WeekBoats$LockQueue", "minutesOf", "([II)I"⟩ ∈ lw_gd := wk_5 (i := 174) (by decide +kernel) rfl
theorem wm_1246 : Cond.instanceMethod ⟨"WeekBoats$LockQueue", "minutesOf", "([II)I"⟩ ∈ lw_gd := wk_5 (i := 176) (by decide +kernel) rfl
set_option maxRecDepth 100000 in
theorem wm_1247 : Cond.code ⟨"WeekBoats$LockQueue", "minutesOf", "([II)I"⟩ prog_5_method_6_code 3 (some .int) ∈ lw_gd := wk_5 (i := 177) rfl rfl
theorem wm_1248 : Cond.methodLink "WeekBoats$LockQueue" 41 ⟨"WeekBoats$LockQueue", "putNext", "(LWeekBoats$LockQueue;IIII)V"⟩ ∈ lw_gd := wk_5 (i := 178) (by decide +kernel) rfl
theorem wm_1249 : Cond.static ⟨"WeekBoats$LockQueue", "putNext", "(LWeekBoats$LockQueue;IIII)V"⟩ ∈ lw_gd := wk_5 (i := 179) (by decide +kernel) rfl
set_option maxRecDepth 100000 in
theorem wm_1250 : Cond.code ⟨"WeekBoats$LockQueue", "putNext", "(LWeekBoats$LockQueue;IIII)V"⟩ prog_5_method_7_code 8 none ∈ lw_gd := wk_5 (i := 180) rfl rfl
theorem wm_1251 : Cond.methodLink "WeekBoats$LockQueue" 55 ⟨"java/lang/System", "arraycopy", "(Ljava/lang/Object;ILjava/lang/Object;II)V"⟩ ∈ lw_gd := wk_5 (i := 181) (by decide +kernel) rfl
theorem wm_1252 : Cond.methodLink "WeekBoatsLaw" 118 ⟨"WeekBoats", "lock", "(I)I"⟩ ∈ lw_gd := wk_5 (i := 182) (by decide +kernel) rfl
theorem wm_1253 : Cond.instanceMethod ⟨"WeekBoats", "lock", "(I)I"⟩ ∈ lw_gd := wk_5 (i := 183) (by decide +kernel) rfl
theorem wm_1254 : Cond.selects "WeekBoats" ⟨"WeekBoats", "lock", "(I)I"⟩ ⟨"WeekBoats", "lock", "(I)I"⟩ ∈ lw_gd := wk_5 (i := 184) (by decide +kernel) rfl
set_option maxRecDepth 100000 in
theorem wm_1255 : Cond.code ⟨"WeekBoats", "lock", "(I)I"⟩ prog_1_method_33_code 2 (some .int) ∈ lw_gd := wk_5 (i := 185) rfl rfl
theorem wm_1256 : Cond.methodLink "WeekBoats" 258 ⟨"WeekBoats$LockQueue", "lockfulsAsCome", "()I"⟩ ∈ lw_gd := wk_5 (i := 186) (by decide +kernel) rfl
theorem wm_1257 : Cond.instanceMethod ⟨"WeekBoats$LockQueue", "lockfulsAsCome", "()I"⟩ ∈ lw_gd := wk_5 (i := 187) (by decide +kernel) rfl
theorem wm_1258 : Cond.selects "WeekBoats$LockQueue" ⟨"WeekBoats$LockQueue", "lockfulsAsCome", "()I"⟩ ⟨"WeekBoats$LockQueue", "lockfulsAsCome", "()I"⟩ ∈ lw_gd := wk_5 (i := 188) (by decide +kernel) rfl
set_option maxRecDepth 100000 in
theorem wm_1259 : Cond.code ⟨"WeekBoats$LockQueue", "lockfulsAsCome", "()I"⟩ prog_5_method_8_code 3 (some .int) ∈ lw_gd := wk_5 (i := 189) rfl rfl
theorem wm_1260 : Cond.methodLink "WeekBoats" 261 ⟨"WeekBoats$LockQueue", "lockfulsAtBest", "()I"⟩ ∈ lw_gd := wk_5 (i := 190) (by decide +kernel) rfl
theorem wm_1261 : Cond.instanceMethod ⟨"WeekBoats$LockQueue", "lockfulsAtBest", "()I"⟩ ∈ lw_gd := wk_5 (i := 191) (by decide +kernel) rfl
theorem wm_1262 : Cond.selects "WeekBoats$LockQueue" ⟨"WeekBoats$LockQueue", "lockfulsAtBest", "()I"⟩ ⟨"WeekBoats$LockQueue", "lockfulsAtBest", "()I"⟩ ∈ lw_gd := wk_5 (i := 192) (by decide +kernel) rfl
set_option maxRecDepth 100000 in
theorem wm_1263 : Cond.code ⟨"WeekBoats$LockQueue", "lockfulsAtBest", "()I"⟩ prog_5_method_9_code 3 (some .int) ∈ lw_gd := wk_5 (i := 193) rfl rfl
theorem wm_1264 : Cond.methodLink "WeekBoats" 264 ⟨"WeekBoats$LockQueue", "atBest", "(I)I"⟩ ∈ lw_gd := wk_5 (i := 194) (by decide +kernel) rfl
theorem wm_1265 : Cond.instanceMethod ⟨"WeekBoats$LockQueue", "atBest", "(I)I"⟩ ∈ lw_gd := wk_5 (i := 195) (by decide +kernel) rfl
theorem wm_1266 : Cond.selects "WeekBoats$LockQueue" ⟨"WeekBoats$LockQueue", "atBest", "(I)I"⟩ ⟨"WeekBoats$LockQueue", "atBest", "(I)I"⟩ ∈ lw_gd := wk_5 (i := 196) (by decide +kernel) rfl
set_option maxRecDepth 100000 in
theorem wm_1267 : Cond.code ⟨"WeekBoats$LockQueue", "atBest", "(I)I"⟩ prog_5_method_10_code 2 (some .int) ∈ lw_gd := wk_5 (i := 197) rfl rfl
theorem wm_1269 : Cond.methodLink "WeekBoatsLaw" 122 ⟨"WeekBoats", "booking", "(IIII)I"⟩ ∈ lw_gd := wk_5 (i := 199) (by decide +kernel) rfl
theorem wm_1270 : Cond.instanceMethod ⟨"WeekBoats", "booking", "(IIII)I"⟩ ∈ lw_gd := wk_5 (i := 200) (by decide +kernel) rfl
theorem wm_1271 : Cond.selects "WeekBoats" ⟨"WeekBoats", "booking", "(IIII)I"⟩ ⟨"WeekBoats", "booking", "(IIII)I"⟩ ∈ lw_gd := wk_5 (i := 201) (by decide +kernel) rfl
set_option maxRecDepth 100000 in
theorem wm_1272 : Cond.code ⟨"WeekBoats", "booking", "(IIII)I"⟩ prog_1_method_34_code 5 (some .int) ∈ lw_gd := wk_5 (i := 202) rfl rfl
theorem wm_1273 : Cond.methodLink "WeekBoats" 267 ⟨"WeekBoats", "isWeek", "(I)Z"⟩ ∈ lw_gd := wk_5 (i := 203) (by decide +kernel) rfl
theorem wm_1274 : Cond.static ⟨"WeekBoats", "isWeek", "(I)Z"⟩ ∈ lw_gd := wk_5 (i := 204) (by decide +kernel) rfl
set_option maxRecDepth 100000 in
theorem wm_1275 : Cond.code ⟨"WeekBoats", "isWeek", "(I)Z"⟩ prog_1_method_5_code 1 (some .boolean) ∈ lw_gd := wk_5 (i := 205) rfl rfl
theorem wm_1276 : Cond.methodLink "WeekBoats" 270 ⟨"WeekBoats$Bookings", "add", "(IIII)I"⟩ ∈ lw_gd := wk_5 (i := 206) (by decide +kernel) rfl
theorem wm_1277 : Cond.instanceMethod ⟨"WeekBoats$Bookings", "add", "(IIII)I"⟩ ∈ lw_gd := wk_5 (i := 207) (by decide +kernel) rfl
theorem wm_1278 : Cond.selects "WeekBoats$Bookings" ⟨"WeekBoats$Bookings", "add", "(IIII)I"⟩ ⟨"WeekBoats$Bookings", "add", "(IIII)I"⟩ ∈ lw_gd := wk_5 (i := 208) (by decide +kernel) rfl
set_option maxRecDepth 100000 in
theorem wm_1279 : Cond.code ⟨"WeekBoats$Bookings", "add", "(IIII)I"⟩ prog_3_method_2_code 5 (some .int) ∈ lw_gd := wk_5 (i := 209) rfl rfl
theorem wm_1280 : Cond.methodLink "WeekBoats$Bookings" 55 ⟨"WeekBoats$Bookings", "putInOrder", "()V"⟩ ∈ lw_gd := wk_5 (i := 210) (by decide +kernel) rfl
theorem wm_1282 : Cond.instanceMethod ⟨"WeekBoats$Bookings", "putInOrder", "()V"⟩ ∈ lw_gd := wk_5 (i := 212) (by decide +kernel) rfl
set_option maxRecDepth 100000 in
theorem wm_1283 : Cond.code ⟨"WeekBoats$Bookings", "putInOrder", "()V"⟩ prog_3_method_3_code 4 none ∈ lw_gd := wk_5 (i := 213) rfl rfl
theorem wm_1284 : Cond.methodLink "WeekBoatsLaw" 126 ⟨"WeekBoats", "given", "(II)I"⟩ ∈ lw_gd := wk_5 (i := 214) (by decide +kernel) rfl
theorem wm_1285 : Cond.instanceMethod ⟨"WeekBoats", "given", "(II)I"⟩ ∈ lw_gd := wk_5 (i := 215) (by decide +kernel) rfl
theorem wm_1286 : Cond.selects "WeekBoats" ⟨"WeekBoats", "given", "(II)I"⟩ ⟨"WeekBoats", "given", "(II)I"⟩ ∈ lw_gd := wk_5 (i := 216) (by decide +kernel) rfl
set_option maxRecDepth 100000 in
theorem wm_1287 : Cond.code ⟨"WeekBoats", "given", "(II)I"⟩ prog_1_method_35_code 3 (some .int) ∈ lw_gd := wk_5 (i := 217) rfl rfl
theorem wm_1288 : Cond.methodLink "WeekBoats" 271 ⟨"WeekBoats", "hireFirst", "(I)V"⟩ ∈ lw_gd := wk_5 (i := 218) (by decide +kernel) rfl
theorem wm_1290 : Cond.instanceMethod ⟨"WeekBoats", "hireFirst", "(I)V"⟩ ∈ lw_gd := wk_5 (i := 220) (by decide +kernel) rfl
set_option maxRecDepth 100000 in
theorem wm_1291 : Cond.code ⟨"WeekBoats", "hireFirst", "(I)V"⟩ prog_1_method_36_code 3 none ∈ lw_gd := wk_5 (i := 221) rfl rfl
theorem wm_1292 : Cond.methodLink "WeekBoats" 293 ⟨"WeekBoats$Bookings", "hire", "(III)V"⟩ ∈ lw_gd := wk_5 (i := 222) (by decide +kernel) rfl
theorem wm_1293 : Cond.instanceMethod ⟨"WeekBoats$Bookings", "hire", "(III)V"⟩ ∈ lw_gd := wk_5 (i := 223) (by decide +kernel) rfl
theorem wm_1294 : Cond.selects "WeekBoats$Bookings" ⟨"WeekBoats$Bookings", "hire", "(III)V"⟩ ⟨"WeekBoats$Bookings", "hire", "(III)V"⟩ ∈ lw_gd := wk_5 (i := 224) (by decide +kernel) rfl
set_option maxRecDepth 100000 in
theorem wm_1295 : Cond.code ⟨"WeekBoats$Bookings", "hire", "(III)V"⟩ prog_3_method_4_code 4 none ∈ lw_gd := wk_5 (i := 225) rfl rfl
theorem wm_1296 : Cond.methodLink "WeekBoats" 274 ⟨"WeekBoats$Bookings", "giveBest", "(I)V"⟩ ∈ lw_gd := wk_5 (i := 226) (by decide +kernel) rfl
theorem wm_1297 : Cond.instanceMethod ⟨"WeekBoats$Bookings", "giveBest", "(I)V"⟩ ∈ lw_gd := wk_5 (i := 227) (by decide +kernel) rfl
theorem wm_1298 : Cond.selects "WeekBoats$Bookings" ⟨"WeekBoats$Bookings", "giveBest", "(I)V"⟩ ⟨"WeekBoats$Bookings", "giveBest", "(I)V"⟩ ∈ lw_gd := wk_5 (i := 228) (by decide +kernel) rfl
set_option maxRecDepth 100000 in
theorem wm_1299 : Cond.code ⟨"WeekBoats$Bookings", "giveBest", "(I)V"⟩ prog_3_method_5_code 3 none ∈ lw_gd := wk_5 (i := 229) rfl rfl
theorem wm_1300 : Cond.methodLink "WeekBoats$Bookings" 58 ⟨"java/lang/Math", "min", "(II)I"⟩ ∈ lw_gd := wk_5 (i := 230) (by decide +kernel) rfl
theorem wm_1301 : Cond.methodLink "WeekBoats$Bookings" 73 ⟨"WeekBoats$Bookings", "canEverBeGiven", "(I)Z"⟩ ∈ lw_gd := wk_5 (i := 231) (by decide +kernel) rfl
theorem wm_1303 : Cond.instanceMethod ⟨"WeekBoats$Bookings", "canEverBeGiven", "(I)Z"⟩ ∈ lw_gd := wk_5 (i := 233) (by decide +kernel) rfl
set_option maxRecDepth 100000 in
theorem wm_1304 : Cond.code ⟨"WeekBoats$Bookings", "canEverBeGiven", "(I)Z"⟩ prog_3_method_6_code 3 (some .boolean) ∈ lw_gd := wk_5 (i := 234) rfl rfl
theorem wm_1305 : Cond.methodLink "WeekBoats$Bookings" 81 ⟨"WeekBoats$Bookings", "canCome", "(II)Z"⟩ ∈ lw_gd := wk_5 (i := 235) (by decide +kernel) rfl
theorem wm_1307 : Cond.instanceMethod ⟨"WeekBoats$Bookings", "canCome", "(II)Z"⟩ ∈ lw_gd := wk_5 (i := 237) (by decide +kernel) rfl
set_option maxRecDepth 100000 in
theorem wm_1308 : Cond.code ⟨"WeekBoats$Bookings", "canCome", "(II)Z"⟩ prog_3_method_7_code 4 (some .boolean) ∈ lw_gd := wk_5 (i := 238) rfl rfl
theorem wm_1309 : Cond.methodLink "WeekBoats$Bookings" 77 ⟨"WeekBoats$Bookings", "giveNext", "(LWeekBoats$Bookings;II)V"⟩ ∈ lw_gd := wk_5 (i := 239) (by decide +kernel) rfl
theorem wm_1310 : Cond.static ⟨"WeekBoats$Bookings", "giveNext", "(LWeekBoats$Bookings;II)V"⟩ ∈ lw_gd := wk_6 (i := 0) (by decide +kernel) rfl
set_option maxRecDepth 100000 in
theorem wm_1311 : Cond.code ⟨"WeekBoats$Bookings", "giveNext", "(LWeekBoats$Bookings;II)V"⟩ prog_3_method_8_code 8 none ∈ lw_gd := wk_6 (i := 1) rfl rfl
theorem wm_1312 : Cond.methodLink "WeekBoats$Bookings" 85 ⟨"WeekBoats$Bookings", "compare", "(I)V"⟩ ∈ lw_gd := wk_6 (i := 2) (by decide +kernel) rfl
theorem wm_1314 : Cond.instanceMethod ⟨"WeekBoats$Bookings", "compare", "(I)V"⟩ ∈ lw_gd := wk_6 (i := 4) (by decide +kernel) rfl
set_option maxRecDepth 100000 in
theorem wm_1315 : Cond.code ⟨"WeekBoats$Bookings", "compare", "(I)V"⟩ prog_3_method_10_code 4 none ∈ lw_gd := wk_6 (i := 5) rfl rfl
theorem wm_1316 : Cond.methodLink "WeekBoats$Bookings" 92 ⟨"java/lang/System", "arraycopy", "(Ljava/lang/Object;ILjava/lang/Object;II)V"⟩ ∈ lw_gd := wk_6 (i := 6) (by decide +kernel) rfl
theorem wm_1317 : Cond.methodLink "WeekBoats$Bookings" 89 ⟨"WeekBoats$Bookings", "canHave", "(II)Z"⟩ ∈ lw_gd := wk_6 (i := 7) (by decide +kernel) rfl
theorem wm_1319 : Cond.instanceMethod ⟨"WeekBoats$Bookings", "canHave", "(II)Z"⟩ ∈ lw_gd := wk_6 (i := 9) (by decide +kernel) rfl
set_option maxRecDepth 100000 in
theorem wm_1320 : Cond.code ⟨"WeekBoats$Bookings", "canHave", "(II)Z"⟩ prog_3_method_9_code 3 (some .boolean) ∈ lw_gd := wk_6 (i := 10) rfl rfl
theorem wm_1321 : Cond.methodLink "WeekBoatsLaw" 130 ⟨"WeekBoats", "more", "(III)I"⟩ ∈ lw_gd := wk_6 (i := 11) (by decide +kernel) rfl
theorem wm_1322 : Cond.instanceMethod ⟨"WeekBoats", "more", "(III)I"⟩ ∈ lw_gd := wk_6 (i := 12) (by decide +kernel) rfl
theorem wm_1323 : Cond.selects "WeekBoats" ⟨"WeekBoats", "more", "(III)I"⟩ ⟨"WeekBoats", "more", "(III)I"⟩ ∈ lw_gd := wk_6 (i := 13) (by decide +kernel) rfl
set_option maxRecDepth 100000 in
theorem wm_1324 : Cond.code ⟨"WeekBoats", "more", "(III)I"⟩ prog_1_method_37_code 5 (some .int) ∈ lw_gd := wk_6 (i := 14) rfl rfl
theorem wm_1325 : Cond.methodLink "WeekBoatsLaw" 134 ⟨"WeekBoats", "gas", "(III)Z"⟩ ∈ lw_gd := wk_6 (i := 15) (by decide +kernel) rfl
theorem wm_1326 : Cond.instanceMethod ⟨"WeekBoats", "gas", "(III)Z"⟩ ∈ lw_gd := wk_6 (i := 16) (by decide +kernel) rfl
theorem wm_1327 : Cond.selects "WeekBoats" ⟨"WeekBoats", "gas", "(III)Z"⟩ ⟨"WeekBoats", "gas", "(III)Z"⟩ ∈ lw_gd := wk_6 (i := 17) (by decide +kernel) rfl
set_option maxRecDepth 100000 in
theorem wm_1328 : Cond.code ⟨"WeekBoats", "gas", "(III)Z"⟩ prog_1_method_38_code 4 (some .boolean) ∈ lw_gd := wk_6 (i := 18) rfl rfl
theorem wm_1329 : Cond.methodLink "WeekBoats" 296 ⟨"WeekBoats$Yard", "tellDock", "(III)Z"⟩ ∈ lw_gd := wk_6 (i := 19) (by decide +kernel) rfl
theorem wm_1330 : Cond.instanceMethod ⟨"WeekBoats$Yard", "tellDock", "(III)Z"⟩ ∈ lw_gd := wk_6 (i := 20) (by decide +kernel) rfl
theorem wm_1331 : Cond.selects "WeekBoats$Yard" ⟨"WeekBoats$Yard", "tellDock", "(III)Z"⟩ ⟨"WeekBoats$Yard", "tellDock", "(III)Z"⟩ ∈ lw_gd := wk_6 (i := 21) (by decide +kernel) rfl
set_option maxRecDepth 100000 in
theorem wm_1332 : Cond.code ⟨"WeekBoats$Yard", "tellDock", "(III)Z"⟩ prog_12_method_2_code 4 (some .boolean) ∈ lw_gd := wk_6 (i := 22) rfl rfl
theorem wm_1333 : Cond.methodLink "WeekBoats$Yard" 42 ⟨"WeekBoats$Yard", "othersInDock", "(I)I"⟩ ∈ lw_gd := wk_6 (i := 23) (by decide +kernel) rfl
theorem wm_1335 : Cond.instanceMethod ⟨"WeekBoats$Yard", "othersInDock", "(I)I"⟩ ∈ lw_gd := wk_6 (i := 25) (by decide +kernel) rfl
set_option maxRecDepth 100000 in
theorem wm_1336 : Cond.code ⟨"WeekBoats$Yard", "othersInDock", "(I)I"⟩ prog_12_method_3_code 4 (some .int) ∈ lw_gd := wk_6 (i := 26) rfl rfl
theorem wm_1337 : Cond.methodLink "WeekBoatsLaw" 139 ⟨"WeekBoats", "dock", "(I)I"⟩ ∈ lw_gd := wk_6 (i := 27) (by decide +kernel) rfl
theorem wm_1338 : Cond.instanceMethod ⟨"WeekBoats", "dock", "(I)I"⟩ ∈ lw_gd := wk_6 (i := 28) (by decide +kernel) rfl
theorem wm_1339 : Cond.selects "WeekBoats" ⟨"WeekBoats", "dock", "(I)I"⟩ ⟨"WeekBoats", "dock", "(I)I"⟩ ∈ lw_gd := wk_6 (i := 29) (by decide +kernel) rfl
set_option maxRecDepth 100000 in
theorem wm_1340 : Cond.code ⟨"WeekBoats", "dock", "(I)I"⟩ prog_1_method_39_code 2 (some .int) ∈ lw_gd := wk_6 (i := 30) rfl rfl
theorem wm_1341 : Cond.methodLink "WeekBoats" 299 ⟨"WeekBoats$Yard", "orderDock", "()V"⟩ ∈ lw_gd := wk_6 (i := 31) (by decide +kernel) rfl
theorem wm_1342 : Cond.instanceMethod ⟨"WeekBoats$Yard", "orderDock", "()V"⟩ ∈ lw_gd := wk_6 (i := 32) (by decide +kernel) rfl
theorem wm_1343 : Cond.selects "WeekBoats$Yard" ⟨"WeekBoats$Yard", "orderDock", "()V"⟩ ⟨"WeekBoats$Yard", "orderDock", "()V"⟩ ∈ lw_gd := wk_6 (i := 33) (by decide +kernel) rfl
set_option maxRecDepth 100000 in
theorem wm_1344 : Cond.code ⟨"WeekBoats$Yard", "orderDock", "()V"⟩ prog_12_method_4_code 3 none ∈ lw_gd := wk_6 (i := 34) rfl rfl
theorem wm_1345 : Cond.methodLink "WeekBoats$Yard" 50 ⟨"WeekBoats$Yard", "chooseNext", "(I)V"⟩ ∈ lw_gd := wk_6 (i := 35) (by decide +kernel) rfl
theorem wm_1347 : Cond.instanceMethod ⟨"WeekBoats$Yard", "chooseNext", "(I)V"⟩ ∈ lw_gd := wk_6 (i := 37) (by decide +kernel) rfl
set_option maxRecDepth 100000 in
theorem wm_1348 : Cond.code ⟨"WeekBoats$Yard", "chooseNext", "(I)V"⟩ prog_12_method_5_code 7 none ∈ lw_gd := wk_6 (i := 38) rfl rfl
theorem wm_1349 : Cond.methodLink "WeekBoats$Yard" 54 ⟨"WeekBoats$Yard", "isBetter", "(III)Z"⟩ ∈ lw_gd := wk_6 (i := 39) (by decide +kernel) rfl
theorem wm_1351 : Cond.instanceMethod ⟨"WeekBoats$Yard", "isBetter", "(III)Z"⟩ ∈ lw_gd := wk_6 (i := 41) (by decide +kernel) rfl
set_option maxRecDepth 100000 in
theorem wm_1352 : Cond.code ⟨"WeekBoats$Yard", "isBetter", "(III)Z"⟩ prog_12_method_6_code 4 (some .boolean) ∈ lw_gd := wk_6 (i := 42) rfl rfl
theorem wm_1353 : Cond.methodLink "WeekBoats" 311 ⟨"WeekBoats$Yard", "dockedAt", "(I)I"⟩ ∈ lw_gd := wk_6 (i := 43) (by decide +kernel) rfl
theorem wm_1354 : Cond.instanceMethod ⟨"WeekBoats$Yard", "dockedAt", "(I)I"⟩ ∈ lw_gd := wk_6 (i := 44) (by decide +kernel) rfl
theorem wm_1355 : Cond.selects "WeekBoats$Yard" ⟨"WeekBoats$Yard", "dockedAt", "(I)I"⟩ ⟨"WeekBoats$Yard", "dockedAt", "(I)I"⟩ ∈ lw_gd := wk_6 (i := 45) (by decide +kernel) rfl
set_option maxRecDepth 100000 in
theorem wm_1356 : Cond.code ⟨"WeekBoats$Yard", "dockedAt", "(I)I"⟩ prog_12_method_7_code 4 (some .int) ∈ lw_gd := wk_6 (i := 46) rfl rfl
theorem wm_1358 : Cond.methodLink "WeekBoatsLaw" 143 ⟨"WeekBoats", "job", "(I)I"⟩ ∈ lw_gd := wk_6 (i := 48) (by decide +kernel) rfl
theorem wm_1359 : Cond.instanceMethod ⟨"WeekBoats", "job", "(I)I"⟩ ∈ lw_gd := wk_6 (i := 49) (by decide +kernel) rfl
theorem wm_1360 : Cond.selects "WeekBoats" ⟨"WeekBoats", "job", "(I)I"⟩ ⟨"WeekBoats", "job", "(I)I"⟩ ∈ lw_gd := wk_6 (i := 50) (by decide +kernel) rfl
set_option maxRecDepth 100000 in
theorem wm_1361 : Cond.code ⟨"WeekBoats", "job", "(I)I"⟩ prog_1_method_40_code 2 (some .int) ∈ lw_gd := wk_6 (i := 51) rfl rfl
theorem wm_1362 : Cond.methodLink "WeekBoats" 317 ⟨"WeekBoats$Yard", "addJob", "(I)I"⟩ ∈ lw_gd := wk_6 (i := 52) (by decide +kernel) rfl
theorem wm_1363 : Cond.instanceMethod ⟨"WeekBoats$Yard", "addJob", "(I)I"⟩ ∈ lw_gd := wk_6 (i := 53) (by decide +kernel) rfl
theorem wm_1364 : Cond.selects "WeekBoats$Yard" ⟨"WeekBoats$Yard", "addJob", "(I)I"⟩ ⟨"WeekBoats$Yard", "addJob", "(I)I"⟩ ∈ lw_gd := wk_6 (i := 54) (by decide +kernel) rfl
set_option maxRecDepth 100000 in
theorem wm_1365 : Cond.code ⟨"WeekBoats$Yard", "addJob", "(I)I"⟩ prog_12_method_8_code 2 (some .int) ∈ lw_gd := wk_6 (i := 55) rfl rfl
theorem wm_1366 : Cond.methodLink "WeekBoatsLaw" 147 ⟨"WeekBoats", "turned", "(II)I"⟩ ∈ lw_gd := wk_6 (i := 56) (by decide +kernel) rfl
theorem wm_1367 : Cond.instanceMethod ⟨"WeekBoats", "turned", "(II)I"⟩ ∈ lw_gd := wk_6 (i := 57) (by decide +kernel) rfl
theorem wm_1368 : Cond.selects "WeekBoats" ⟨"WeekBoats", "turned", "(II)I"⟩ ⟨"WeekBoats", "turned", "(II)I"⟩ ∈ lw_gd := wk_6 (i := 58) (by decide +kernel) rfl
set_option maxRecDepth 100000 in
theorem wm_1369 : Cond.code ⟨"WeekBoats", "turned", "(II)I"⟩ prog_1_method_41_code 3 (some .int) ∈ lw_gd := wk_6 (i := 59) rfl rfl
theorem wm_1370 : Cond.methodLink "WeekBoats" 320 ⟨"WeekBoats$Yard", "workInOrder", "(I)V"⟩ ∈ lw_gd := wk_6 (i := 60) (by decide +kernel) rfl
theorem wm_1371 : Cond.instanceMethod ⟨"WeekBoats$Yard", "workInOrder", "(I)V"⟩ ∈ lw_gd := wk_6 (i := 61) (by decide +kernel) rfl
theorem wm_1372 : Cond.selects "WeekBoats$Yard" ⟨"WeekBoats$Yard", "workInOrder", "(I)V"⟩ ⟨"WeekBoats$Yard", "workInOrder", "(I)V"⟩ ∈ lw_gd := wk_6 (i := 62) (by decide +kernel) rfl
set_option maxRecDepth 100000 in
theorem wm_1373 : Cond.code ⟨"WeekBoats$Yard", "workInOrder", "(I)V"⟩ prog_12_method_9_code 5 none ∈ lw_gd := wk_6 (i := 63) rfl rfl
theorem wm_1374 : Cond.methodLink "WeekBoats$Yard" 64 ⟨"java/util/Arrays", "fill", "([II)V"⟩ ∈ lw_gd := wk_6 (i := 64) (by decide +kernel) rfl
theorem wm_1375 : Cond.methodLink "WeekBoats$Yard" 76 ⟨"java/lang/Math", "max", "(II)I"⟩ ∈ lw_gd := wk_6 (i := 65) (by decide +kernel) rfl
theorem wm_1376 : Cond.methodLink "WeekBoats" 329 ⟨"WeekBoats$Yard", "shareBest", "(I)V"⟩ ∈ lw_gd := wk_6 (i := 66) (by decide +kernel) rfl
theorem wm_1377 : Cond.instanceMethod ⟨"WeekBoats$Yard", "shareBest", "(I)V"⟩ ∈ lw_gd := wk_6 (i := 67) (by decide +kernel) rfl
theorem wm_1378 : Cond.selects "WeekBoats$Yard" ⟨"WeekBoats$Yard", "shareBest", "(I)V"⟩ ⟨"WeekBoats$Yard", "shareBest", "(I)V"⟩ ∈ lw_gd := wk_6 (i := 68) (by decide +kernel) rfl
set_option maxRecDepth 100000 in
theorem wm_1379 : Cond.code ⟨"WeekBoats$Yard", "shareBest", "(I)V"⟩ prog_12_method_10_code 2 none ∈ lw_gd := wk_6 (i := 69) rfl rfl
theorem wm_1380 : Cond.methodLink "WeekBoats$Yard" 85 ⟨"WeekBoats$Yard", "shareNext", "(LWeekBoats$Yard;III)V"⟩ ∈ lw_gd := wk_6 (i := 70) (by decide +kernel) rfl
theorem wm_1381 : Cond.static ⟨"WeekBoats$Yard", "shareNext", "(LWeekBoats$Yard;III)V"⟩ ∈ lw_gd := wk_6 (i := 71) (by decide +kernel) rfl
set_option maxRecDepth 100000 in
theorem wm_1382 : Cond.code ⟨"WeekBoats$Yard", "shareNext", "(LWeekBoats$Yard;III)V"⟩ prog_12_method_11_code 5 none ∈ lw_gd := wk_6 (i := 72) rfl rfl
theorem wm_1383 : Cond.methodLink "WeekBoats$Yard" 89 ⟨"java/lang/System", "arraycopy", "(Ljava/lang/Object;ILjava/lang/Object;II)V"⟩ ∈ lw_gd := wk_6 (i := 73) (by decide +kernel) rfl
theorem wm_1384 : Cond.methodLink "WeekBoatsLaw" 151 ⟨"WeekBoats", "weight", "(II)Z"⟩ ∈ lw_gd := wk_6 (i := 74) (by decide +kernel) rfl
theorem wm_1385 : Cond.instanceMethod ⟨"WeekBoats", "weight", "(II)Z"⟩ ∈ lw_gd := wk_6 (i := 75) (by decide +kernel) rfl
theorem wm_1386 : Cond.selects "WeekBoats" ⟨"WeekBoats", "weight", "(II)Z"⟩ ⟨"WeekBoats", "weight", "(II)Z"⟩ ∈ lw_gd := wk_6 (i := 76) (by decide +kernel) rfl
set_option maxRecDepth 100000 in
theorem wm_1387 : Cond.code ⟨"WeekBoats", "weight", "(II)Z"⟩ prog_1_method_42_code 3 (some .boolean) ∈ lw_gd := wk_6 (i := 77) rfl rfl
theorem wm_1388 : Cond.methodLink "WeekBoatsLaw" 156 ⟨"WeekBoats", "van", "(I)I"⟩ ∈ lw_gd := wk_6 (i := 78) (by decide +kernel) rfl
theorem wm_1389 : Cond.instanceMethod ⟨"WeekBoats", "van", "(I)I"⟩ ∈ lw_gd := wk_6 (i := 79) (by decide +kernel) rfl
theorem wm_1390 : Cond.selects "WeekBoats" ⟨"WeekBoats", "van", "(I)I"⟩ ⟨"WeekBoats", "van", "(I)I"⟩ ∈ lw_gd := wk_6 (i := 80) (by decide +kernel) rfl
set_option maxRecDepth 100000 in
theorem wm_1391 : Cond.code ⟨"WeekBoats", "van", "(I)I"⟩ prog_1_method_43_code 3 (some .int) ∈ lw_gd := wk_6 (i := 81) rfl rfl
theorem wm_1392 : Cond.methodLink "WeekBoats" 341 ⟨"WeekBoats$Vans", "measure", "()V"⟩ ∈ lw_gd := wk_6 (i := 82) (by decide +kernel) rfl
theorem wm_1393 : Cond.instanceMethod ⟨"WeekBoats$Vans", "measure", "()V"⟩ ∈ lw_gd := wk_6 (i := 83) (by decide +kernel) rfl
theorem wm_1394 : Cond.selects "WeekBoats$Vans" ⟨"WeekBoats$Vans", "measure", "()V"⟩ ⟨"WeekBoats$Vans", "measure", "()V"⟩ ∈ lw_gd := wk_6 (i := 84) (by decide +kernel) rfl
set_option maxRecDepth 100000 in
theorem wm_1395 : Cond.code ⟨"WeekBoats$Vans", "measure", "()V"⟩ prog_10_method_2_code 2 none ∈ lw_gd := wk_6 (i := 85) rfl rfl
theorem wm_1396 : Cond.methodLink "WeekBoats" 344 ⟨"WeekBoats$Vans", "bestPoint", "()I"⟩ ∈ lw_gd := wk_6 (i := 86) (by decide +kernel) rfl
theorem wm_1397 : Cond.instanceMethod ⟨"WeekBoats$Vans", "bestPoint", "()I"⟩ ∈ lw_gd := wk_6 (i := 87) (by decide +kernel) rfl
theorem wm_1398 : Cond.selects "WeekBoats$Vans" ⟨"WeekBoats$Vans", "bestPoint", "()I"⟩ ⟨"WeekBoats$Vans", "bestPoint", "()I"⟩ ∈ lw_gd := wk_6 (i := 88) (by decide +kernel) rfl
set_option maxRecDepth 100000 in
theorem wm_1399 : Cond.code ⟨"WeekBoats$Vans", "bestPoint", "()I"⟩ prog_10_method_5_code 3 (some .int) ∈ lw_gd := wk_6 (i := 89) rfl rfl
theorem wm_1400 : Cond.methodLink "WeekBoats$Vans" 58 ⟨"WeekBoats$Vans", "sumFrom", "(II)I"⟩ ∈ lw_gd := wk_6 (i := 90) (by decide +kernel) rfl
theorem wm_1401 : Cond.instanceMethod ⟨"WeekBoats$Vans", "sumFrom", "(II)I"⟩ ∈ lw_gd := wk_6 (i := 91) (by decide +kernel) rfl
theorem wm_1402 : Cond.selects "WeekBoats$Vans" ⟨"WeekBoats$Vans", "sumFrom", "(II)I"⟩ ⟨"WeekBoats$Vans", "sumFrom", "(II)I"⟩ ∈ lw_gd := wk_6 (i := 92) (by decide +kernel) rfl
set_option maxRecDepth 100000 in
theorem wm_1403 : Cond.code ⟨"WeekBoats$Vans", "sumFrom", "(II)I"⟩ prog_10_method_4_code 5 (some .int) ∈ lw_gd := wk_6 (i := 93) rfl rfl
theorem wm_1404 : Cond.methodLink "WeekBoats$Vans" 51 ⟨"WeekBoats$Vans", "minutes", "(II)I"⟩ ∈ lw_gd := wk_6 (i := 94) (by decide +kernel) rfl
theorem wm_1406 : Cond.instanceMethod ⟨"WeekBoats$Vans", "minutes", "(II)I"⟩ ∈ lw_gd := wk_6 (i := 96) (by decide +kernel) rfl
set_option maxRecDepth 100000 in
theorem wm_1407 : Cond.code ⟨"WeekBoats$Vans", "minutes", "(II)I"⟩ prog_10_method_3_code 3 (some .int) ∈ lw_gd := wk_6 (i := 97) rfl rfl
theorem wm_1408 : Cond.methodLink "WeekBoats$Vans" 45 ⟨"java/lang/Math", "abs", "(I)I"⟩ ∈ lw_gd := wk_6 (i := 98) (by decide +kernel) rfl
theorem wm_1409 : Cond.methodLink "WeekBoats$Vans" 55 ⟨"java/lang/Math", "min", "(II)I"⟩ ∈ lw_gd := wk_6 (i := 99) (by decide +kernel) rfl
theorem wm_1410 : Cond.methodLink "WeekBoats" 347 ⟨"WeekBoats$Vans", "sumFrom", "(II)I"⟩ ∈ lw_gd := wk_6 (i := 100) (by decide +kernel) rfl
theorem wm_1411 : Cond.methodLink "WeekBoats" 350 ⟨"WeekBoats$Vans", "worstFrom", "(I)I"⟩ ∈ lw_gd := wk_6 (i := 101) (by decide +kernel) rfl
theorem wm_1412 : Cond.instanceMethod ⟨"WeekBoats$Vans", "worstFrom", "(I)I"⟩ ∈ lw_gd := wk_6 (i := 102) (by decide +kernel) rfl
theorem wm_1413 : Cond.selects "WeekBoats$Vans" ⟨"WeekBoats$Vans", "worstFrom", "(I)I"⟩ ⟨"WeekBoats$Vans", "worstFrom", "(I)I"⟩ ∈ lw_gd := wk_6 (i := 103) (by decide +kernel) rfl
set_option maxRecDepth 100000 in
theorem wm_1414 : Cond.code ⟨"WeekBoats$Vans", "worstFrom", "(I)I"⟩ prog_10_method_6_code 4 (some .int) ∈ lw_gd := wk_6 (i := 104) rfl rfl
theorem wm_1415 : Cond.methodLink "WeekBoats$Vans" 61 ⟨"java/lang/Math", "max", "(II)I"⟩ ∈ lw_gd := wk_6 (i := 105) (by decide +kernel) rfl
theorem wm_1416 : Cond.methodLink "WeekBoatsLaw" 160 ⟨"WeekBoats", "vans", "(I)I"⟩ ∈ lw_gd := wk_6 (i := 106) (by decide +kernel) rfl
theorem wm_1417 : Cond.instanceMethod ⟨"WeekBoats", "vans", "(I)I"⟩ ∈ lw_gd := wk_6 (i := 107) (by decide +kernel) rfl
theorem wm_1418 : Cond.selects "WeekBoats" ⟨"WeekBoats", "vans", "(I)I"⟩ ⟨"WeekBoats", "vans", "(I)I"⟩ ∈ lw_gd := wk_6 (i := 108) (by decide +kernel) rfl
set_option maxRecDepth 100000 in
theorem wm_1419 : Cond.code ⟨"WeekBoats", "vans", "(I)I"⟩ prog_1_method_44_code 2 (some .int) ∈ lw_gd := wk_6 (i := 109) rfl rfl
theorem wm_1420 : Cond.methodLink "WeekBoats" 353 ⟨"WeekBoats$Vans", "findCouple", "()V"⟩ ∈ lw_gd := wk_6 (i := 110) (by decide +kernel) rfl
theorem wm_1421 : Cond.instanceMethod ⟨"WeekBoats$Vans", "findCouple", "()V"⟩ ∈ lw_gd := wk_6 (i := 111) (by decide +kernel) rfl
theorem wm_1422 : Cond.selects "WeekBoats$Vans" ⟨"WeekBoats$Vans", "findCouple", "()V"⟩ ⟨"WeekBoats$Vans", "findCouple", "()V"⟩ ∈ lw_gd := wk_6 (i := 112) (by decide +kernel) rfl
set_option maxRecDepth 100000 in
theorem wm_1423 : Cond.code ⟨"WeekBoats$Vans", "findCouple", "()V"⟩ prog_10_method_7_code 4 none ∈ lw_gd := wk_6 (i := 113) rfl rfl
theorem wm_1424 : Cond.methodLink "WeekBoatsLaw" 164 ⟨"WeekBoats", "call", "(III)I"⟩ ∈ lw_gd := wk_6 (i := 114) (by decide +kernel) rfl
theorem wm_1425 : Cond.instanceMethod ⟨"WeekBoats", "call", "(III)I"⟩ ∈ lw_gd := wk_6 (i := 115) (by decide +kernel) rfl
theorem wm_1426 : Cond.selects "WeekBoats" ⟨"WeekBoats", "call", "(III)I"⟩ ⟨"WeekBoats", "call", "(III)I"⟩ ∈ lw_gd := wk_6 (i := 116) (by decide +kernel) rfl
set_option maxRecDepth 100000 in
theorem wm_1427 : Cond.code ⟨"WeekBoats", "call", "(III)I"⟩ prog_1_method_45_code 4 (some .int) ∈ lw_gd := wk_6 (i := 117) rfl rfl
theorem wm_1428 : Cond.methodLink "WeekBoats" 365 ⟨"WeekBoats$Vans", "addCall", "(III)I"⟩ ∈ lw_gd := wk_6 (i := 118) (by decide +kernel) rfl
theorem wm_1429 : Cond.instanceMethod ⟨"WeekBoats$Vans", "addCall", "(III)I"⟩ ∈ lw_gd := wk_6 (i := 119) (by decide +kernel) rfl
theorem wm_1430 : Cond.selects "WeekBoats$Vans" ⟨"WeekBoats$Vans", "addCall", "(III)I"⟩ ⟨"WeekBoats$Vans", "addCall", "(III)I"⟩ ∈ lw_gd := wk_6 (i := 120) (by decide +kernel) rfl
set_option maxRecDepth 100000 in
theorem wm_1431 : Cond.code ⟨"WeekBoats$Vans", "addCall", "(III)I"⟩ prog_10_method_8_code 4 (some .int) ∈ lw_gd := wk_6 (i := 121) rfl rfl
theorem wm_1432 : Cond.methodLink "WeekBoatsLaw" 168 ⟨"WeekBoats", "taken", "(III)I"⟩ ∈ lw_gd := wk_6 (i := 122) (by decide +kernel) rfl
theorem wm_1433 : Cond.instanceMethod ⟨"WeekBoats", "taken", "(III)I"⟩ ∈ lw_gd := wk_6 (i := 123) (by decide +kernel) rfl
theorem wm_1434 : Cond.selects "WeekBoats" ⟨"WeekBoats", "taken", "(III)I"⟩ ⟨"WeekBoats", "taken", "(III)I"⟩ ∈ lw_gd := wk_6 (i := 124) (by decide +kernel) rfl
set_option maxRecDepth 100000 in
theorem wm_1435 : Cond.code ⟨"WeekBoats", "taken", "(III)I"⟩ prog_1_method_46_code 4 (some .int) ∈ lw_gd := wk_6 (i := 125) rfl rfl
theorem wm_1436 : Cond.methodLink "WeekBoats" 368 ⟨"WeekBoats$Vans", "takeCalls", "(II)V"⟩ ∈ lw_gd := wk_6 (i := 126) (by decide +kernel) rfl
theorem wm_1437 : Cond.instanceMethod ⟨"WeekBoats$Vans", "takeCalls", "(II)V"⟩ ∈ lw_gd := wk_6 (i := 127) (by decide +kernel) rfl
theorem wm_1438 : Cond.selects "WeekBoats$Vans" ⟨"WeekBoats$Vans", "takeCalls", "(II)V"⟩ ⟨"WeekBoats$Vans", "takeCalls", "(II)V"⟩ ∈ lw_gd := wk_6 (i := 128) (by decide +kernel) rfl
set_option maxRecDepth 100000 in
theorem wm_1439 : Cond.code ⟨"WeekBoats$Vans", "takeCalls", "(II)V"⟩ prog_10_method_9_code 6 none ∈ lw_gd := wk_6 (i := 129) rfl rfl
theorem wm_1440 : Cond.methodLink "WeekBoats$Vans" 74 ⟨"java/util/Arrays", "fill", "([II)V"⟩ ∈ lw_gd := wk_6 (i := 130) (by decide +kernel) rfl
theorem wm_1441 : Cond.methodLink "WeekBoats$Vans" 89 ⟨"WeekBoats$Vans", "comesAt", "(II)I"⟩ ∈ lw_gd := wk_6 (i := 131) (by decide +kernel) rfl
theorem wm_1443 : Cond.instanceMethod ⟨"WeekBoats$Vans", "comesAt", "(II)I"⟩ ∈ lw_gd := wk_6 (i := 133) (by decide +kernel) rfl
set_option maxRecDepth 100000 in
theorem wm_1444 : Cond.code ⟨"WeekBoats$Vans", "comesAt", "(II)I"⟩ prog_10_method_10_code 3 (some .int) ∈ lw_gd := wk_6 (i := 134) rfl rfl
theorem wm_1445 : Cond.methodLink "WeekBoats" 381 ⟨"WeekBoats$Vans", "takerOf", "(I)I"⟩ ∈ lw_gd := wk_6 (i := 135) (by decide +kernel) rfl
theorem wm_1446 : Cond.instanceMethod ⟨"WeekBoats$Vans", "takerOf", "(I)I"⟩ ∈ lw_gd := wk_6 (i := 136) (by decide +kernel) rfl
theorem wm_1447 : Cond.selects "WeekBoats$Vans" ⟨"WeekBoats$Vans", "takerOf", "(I)I"⟩ ⟨"WeekBoats$Vans", "takerOf", "(I)I"⟩ ∈ lw_gd := wk_6 (i := 137) (by decide +kernel) rfl
set_option maxRecDepth 100000 in
theorem wm_1448 : Cond.code ⟨"WeekBoats$Vans", "takerOf", "(I)I"⟩ prog_10_method_11_code 2 (some .int) ∈ lw_gd := wk_6 (i := 138) rfl rfl
theorem wm_1450 : Cond.methodLink "WeekBoatsLaw" 172 ⟨"WeekBoats", "left", "(IIIII)I"⟩ ∈ lw_gd := wk_6 (i := 140) (by decide +kernel) rfl
theorem wm_1451 : Cond.instanceMethod ⟨"WeekBoats", "left", "(IIIII)I"⟩ ∈ lw_gd := wk_6 (i := 141) (by decide +kernel) rfl
theorem wm_1452 : Cond.selects "WeekBoats" ⟨"WeekBoats", "left", "(IIIII)I"⟩ ⟨"WeekBoats", "left", "(IIIII)I"⟩ ∈ lw_gd := wk_6 (i := 142) (by decide +kernel) rfl
set_option maxRecDepth 100000 in
theorem wm_1453 : Cond.code ⟨"WeekBoats", "left", "(IIIII)I"⟩ prog_1_method_47_code 7 (some .int) ∈ lw_gd := wk_6 (i := 143) rfl rfl
theorem wm_1454 : Cond.methodLink "WeekBoats" 384 ⟨"WeekBoats", "isWeather", "(IIII)Z"⟩ ∈ lw_gd := wk_6 (i := 144) (by decide +kernel) rfl
theorem wm_1455 : Cond.static ⟨"WeekBoats", "isWeather", "(IIII)Z"⟩ ∈ lw_gd := wk_6 (i := 145) (by decide +kernel) rfl
set_option maxRecDepth 100000 in
theorem wm_1456 : Cond.code ⟨"WeekBoats", "isWeather", "(IIII)Z"⟩ prog_1_method_48_code 4 (some .boolean) ∈ lw_gd := wk_6 (i := 146) rfl rfl
theorem wm_1457 : Cond.methodLink "WeekBoats" 387 ⟨"WeekBoats$Rain", "start", "(II)V"⟩ ∈ lw_gd := wk_6 (i := 147) (by decide +kernel) rfl
theorem wm_1458 : Cond.instanceMethod ⟨"WeekBoats$Rain", "start", "(II)V"⟩ ∈ lw_gd := wk_6 (i := 148) (by decide +kernel) rfl
theorem wm_1459 : Cond.selects "WeekBoats$Rain" ⟨"WeekBoats$Rain", "start", "(II)V"⟩ ⟨"WeekBoats$Rain", "start", "(II)V"⟩ ∈ lw_gd := wk_6 (i := 149) (by decide +kernel) rfl
set_option maxRecDepth 100000 in
theorem wm_1460 : Cond.code ⟨"WeekBoats$Rain", "start", "(II)V"⟩ prog_7_method_2_code 3 none ∈ lw_gd := wk_6 (i := 150) rfl rfl
theorem wm_1461 : Cond.methodLink "WeekBoats$Rain" 18 ⟨"java/util/Arrays", "fill", "([II)V"⟩ ∈ lw_gd := wk_6 (i := 151) (by decide +kernel) rfl
theorem wm_1462 : Cond.constant "WeekBoats$Rain" 24 1000000 ∈ lw_gd := wk_6 (i := 152) (by decide +kernel) rfl
theorem wm_1463 : Cond.methodLink "WeekBoats" 390 ⟨"WeekBoats$Rain", "passDay", "(IIII)V"⟩ ∈ lw_gd := wk_6 (i := 153) (by decide +kernel) rfl
theorem wm_1464 : Cond.instanceMethod ⟨"WeekBoats$Rain", "passDay", "(IIII)V"⟩ ∈ lw_gd := wk_6 (i := 154) (by decide +kernel) rfl
theorem wm_1465 : Cond.selects "WeekBoats$Rain" ⟨"WeekBoats$Rain", "passDay", "(IIII)V"⟩ ⟨"WeekBoats$Rain", "passDay", "(IIII)V"⟩ ∈ lw_gd := wk_6 (i := 155) (by decide +kernel) rfl
set_option maxRecDepth 100000 in
theorem wm_1466 : Cond.code ⟨"WeekBoats$Rain", "passDay", "(IIII)V"⟩ prog_7_method_3_code 8 none ∈ lw_gd := wk_6 (i := 156) rfl rfl
theorem wm_1467 : Cond.methodLink "WeekBoats$Rain" 29 ⟨"java/lang/Math", "max", "(II)I"⟩ ∈ lw_gd := wk_6 (i := 157) (by decide +kernel) rfl
theorem wm_1468 : Cond.methodLink "WeekBoats$Rain" 35 ⟨"java/lang/Math", "min", "(II)I"⟩ ∈ lw_gd := wk_6 (i := 158) (by decide +kernel) rfl
theorem wm_1469 : Cond.methodLink "WeekBoatsLaw" 176 ⟨"WeekBoats", "shuts", "(IIII)I"⟩ ∈ lw_gd := wk_6 (i := 159) (by decide +kernel) rfl
theorem wm_1470 : Cond.instanceMethod ⟨"WeekBoats", "shuts", "(IIII)I"⟩ ∈ lw_gd := wk_6 (i := 160) (by decide +kernel) rfl
theorem wm_1471 : Cond.selects "WeekBoats" ⟨"WeekBoats", "shuts", "(IIII)I"⟩ ⟨"WeekBoats", "shuts", "(IIII)I"⟩ ∈ lw_gd := wk_6 (i := 161) (by decide +kernel) rfl
set_option maxRecDepth 100000 in
theorem wm_1472 : Cond.code ⟨"WeekBoats", "shuts", "(IIII)I"⟩ prog_1_method_49_code 6 (some .int) ∈ lw_gd := wk_6 (i := 162) rfl rfl
theorem wm_1473 : Cond.constant "WeekBoats" 397 500000 ∈ lw_gd := wk_6 (i := 163) (by decide +kernel) rfl
theorem wm_1474 : Cond.methodLink "WeekBoatsLaw" 180 ⟨"WeekBoats", "price", "(IIZ)I"⟩ ∈ lw_gd := wk_6 (i := 164) (by decide +kernel) rfl
theorem wm_1475 : Cond.instanceMethod ⟨"WeekBoats", "price", "(IIZ)I"⟩ ∈ lw_gd := wk_6 (i := 165) (by decide +kernel) rfl
theorem wm_1476 : Cond.selects "WeekBoats" ⟨"WeekBoats", "price", "(IIZ)I"⟩ ⟨"WeekBoats", "price", "(IIZ)I"⟩ ∈ lw_gd := wk_6 (i := 166) (by decide +kernel) rfl
set_option maxRecDepth 100000 in
theorem wm_1477 : Cond.code ⟨"WeekBoats", "price", "(IIZ)I"⟩ prog_1_method_50_code 5 (some .int) ∈ lw_gd := wk_6 (i := 167) rfl rfl
theorem wm_1478 : Cond.methodLink "WeekBoats" 398 ⟨"WeekBoats$Boats", "priceLine", "(IIZ)I"⟩ ∈ lw_gd := wk_6 (i := 168) (by decide +kernel) rfl
theorem wm_1479 : Cond.methodLink "WeekBoats" 402 ⟨"WeekBoats$Rules", "valueOf", "(I)I"⟩ ∈ lw_gd := wk_6 (i := 169) (by decide +kernel) rfl
theorem wm_1480 : Cond.methodLink "WeekBoatsLaw" 185 ⟨"WeekBoats", "held", "(IIII)I"⟩ ∈ lw_gd := wk_6 (i := 170) (by decide +kernel) rfl
theorem wm_1481 : Cond.instanceMethod ⟨"WeekBoats", "held", "(IIII)I"⟩ ∈ lw_gd := wk_6 (i := 171) (by decide +kernel) rfl
theorem wm_1482 : Cond.selects "WeekBoats" ⟨"WeekBoats", "held", "(IIII)I"⟩ ⟨"WeekBoats", "held", "(IIII)I"⟩ ∈ lw_gd := wk_6 (i := 172) (by decide +kernel) rfl
set_option maxRecDepth 100000 in
theorem wm_1483 : Cond.code ⟨"WeekBoats", "held", "(IIII)I"⟩ prog_1_method_51_code 6 (some .int) ∈ lw_gd := wk_6 (i := 173) rfl rfl
theorem wm_1484 : Cond.methodLink "WeekBoats" 405 ⟨"WeekBoats$Boats", "holdLine", "(IIII)I"⟩ ∈ lw_gd := wk_6 (i := 174) (by decide +kernel) rfl
theorem wm_1485 : Cond.instanceMethod ⟨"WeekBoats$Boats", "holdLine", "(IIII)I"⟩ ∈ lw_gd := wk_6 (i := 175) (by decide +kernel) rfl
theorem wm_1486 : Cond.selects "WeekBoats$Boats" ⟨"WeekBoats$Boats", "holdLine", "(IIII)I"⟩ ⟨"WeekBoats$Boats", "holdLine", "(IIII)I"⟩ ∈ lw_gd := wk_6 (i := 176) (by decide +kernel) rfl
set_option maxRecDepth 100000 in
theorem wm_1487 : Cond.code ⟨"WeekBoats$Boats", "holdLine", "(IIII)I"⟩ prog_2_method_14_code 5 (some .int) ∈ lw_gd := wk_6 (i := 177) rfl rfl
theorem wm_1488 : Cond.methodLink "WeekBoatsLaw" 189 ⟨"WeekBoats", "look", "(I)I"⟩ ∈ lw_gd := wk_6 (i := 178) (by decide +kernel) rfl
theorem wm_1489 : Cond.instanceMethod ⟨"WeekBoats", "look", "(I)I"⟩ ∈ lw_gd := wk_6 (i := 179) (by decide +kernel) rfl
theorem wm_1490 : Cond.selects "WeekBoats" ⟨"WeekBoats", "look", "(I)I"⟩ ⟨"WeekBoats", "look", "(I)I"⟩ ∈ lw_gd := wk_6 (i := 180) (by decide +kernel) rfl
set_option maxRecDepth 100000 in
theorem wm_1491 : Cond.code ⟨"WeekBoats", "look", "(I)I"⟩ prog_1_method_52_code 2 (some .int) ∈ lw_gd := wk_6 (i := 181) rfl rfl
theorem wm_1494 : Cond.methodLink "WeekBoatsLaw" 12 ⟨"WeekBoatsModel", "<init>", "()V"⟩ ∈ lw_gd := wk_6 (i := 184) (by decide +kernel) rfl
theorem wm_1495 : Cond.instanceMethod ⟨"WeekBoatsModel", "<init>", "()V"⟩ ∈ lw_gd := wk_6 (i := 185) (by decide +kernel) rfl
theorem wm_1497 : Cond.methodLink "WeekBoatsModel" 7 ⟨"java/lang/Object", "<init>", "()V"⟩ ∈ lw_gd := wk_6 (i := 187) (by decide +kernel) rfl
theorem wm_1498 : Cond.fieldLink "WeekBoatsModel" 13 "WeekBoatsModel" "miles" "[I" ∈ lw_gd := wk_6 (i := 188) (by decide +kernel) rfl
theorem wm_1499 : Cond.fieldLink "WeekBoatsModel" 17 "WeekBoatsModel" "locks" "[I" ∈ lw_gd := wk_6 (i := 189) (by decide +kernel) rfl
theorem wm_1500 : Cond.fieldLink "WeekBoatsModel" 20 "WeekBoatsModel" "road" "[I" ∈ lw_gd := wk_6 (i := 190) (by decide +kernel) rfl
theorem wm_1501 : Cond.fieldLink "WeekBoatsModel" 23 "WeekBoatsModel" "stopAt" "[I" ∈ lw_gd := wk_6 (i := 191) (by decide +kernel) rfl
theorem wm_1502 : Cond.fieldLink "WeekBoatsModel" 26 "WeekBoatsModel" "stopFrom" "[I" ∈ lw_gd := wk_6 (i := 192) (by decide +kernel) rfl
theorem wm_1503 : Cond.fieldLink "WeekBoatsModel" 29 "WeekBoatsModel" "stopTo" "[I" ∈ lw_gd := wk_6 (i := 193) (by decide +kernel) rfl
theorem wm_1504 : Cond.fieldLink "WeekBoatsModel" 32 "WeekBoatsModel" "berthsOf" "[I" ∈ lw_gd := wk_6 (i := 194) (by decide +kernel) rfl
theorem wm_1505 : Cond.fieldLink "WeekBoatsModel" 35 "WeekBoatsModel" "ageOf" "[I" ∈ lw_gd := wk_6 (i := 195) (by decide +kernel) rfl
theorem wm_1506 : Cond.fieldLink "WeekBoatsModel" 38 "WeekBoatsModel" "homeOf" "[I" ∈ lw_gd := wk_6 (i := 196) (by decide +kernel) rfl
theorem wm_1507 : Cond.fieldLink "WeekBoatsModel" 41 "WeekBoatsModel" "taughtOf" "[I" ∈ lw_gd := wk_6 (i := 197) (by decide +kernel) rfl
theorem wm_1508 : Cond.fieldLink "WeekBoatsModel" 44 "WeekBoatsModel" "water" "I" ∈ lw_gd := wk_6 (i := 198) (by decide +kernel) rfl
theorem wm_1509 : Cond.fieldLink "WeekBoatsModel" 232 "WeekBoatsModel" "stops" "I" ∈ lw_gd := wk_6 (i := 199) (by decide +kernel) rfl
theorem wm_1510 : Cond.fieldLink "WeekBoatsModel" 235 "WeekBoatsModel" "boats" "I" ∈ lw_gd := wk_6 (i := 200) (by decide +kernel) rfl
theorem wm_1511 : Cond.fieldLink "WeekBoatsModel" 48 "WeekBoatsModel" "lineSort" "[I" ∈ lw_gd := wk_6 (i := 201) (by decide +kernel) rfl
theorem wm_1512 : Cond.fieldLink "WeekBoatsModel" 51 "WeekBoatsModel" "lineOne" "[I" ∈ lw_gd := wk_6 (i := 202) (by decide +kernel) rfl
theorem wm_1513 : Cond.fieldLink "WeekBoatsModel" 54 "WeekBoatsModel" "lineTwo" "[I" ∈ lw_gd := wk_6 (i := 203) (by decide +kernel) rfl
theorem wm_1514 : Cond.fieldLink "WeekBoatsModel" 57 "WeekBoatsModel" "from" "[I" ∈ lw_gd := wk_6 (i := 204) (by decide +kernel) rfl
theorem wm_1515 : Cond.fieldLink "WeekBoatsModel" 60 "WeekBoatsModel" "mid" "[I" ∈ lw_gd := wk_6 (i := 205) (by decide +kernel) rfl
theorem wm_1516 : Cond.fieldLink "WeekBoatsModel" 63 "WeekBoatsModel" "to" "[I" ∈ lw_gd := wk_6 (i := 206) (by decide +kernel) rfl
theorem wm_1517 : Cond.fieldLink "WeekBoatsModel" 66 "WeekBoatsModel" "step" "[I" ∈ lw_gd := wk_6 (i := 207) (by decide +kernel) rfl
theorem wm_1518 : Cond.fieldLink "WeekBoatsModel" 69 "WeekBoatsModel" "freshSort" "[I" ∈ lw_gd := wk_6 (i := 208) (by decide +kernel) rfl
theorem wm_1519 : Cond.fieldLink "WeekBoatsModel" 72 "WeekBoatsModel" "freshOne" "[I" ∈ lw_gd := wk_6 (i := 209) (by decide +kernel) rfl
theorem wm_1520 : Cond.fieldLink "WeekBoatsModel" 75 "WeekBoatsModel" "freshTwo" "[I" ∈ lw_gd := wk_6 (i := 210) (by decide +kernel) rfl
theorem wm_1521 : Cond.fieldLink "WeekBoatsModel" 78 "WeekBoatsModel" "freshFrom" "[I" ∈ lw_gd := wk_6 (i := 211) (by decide +kernel) rfl
theorem wm_1522 : Cond.fieldLink "WeekBoatsModel" 81 "WeekBoatsModel" "freshMid" "[I" ∈ lw_gd := wk_6 (i := 212) (by decide +kernel) rfl
theorem wm_1523 : Cond.fieldLink "WeekBoatsModel" 84 "WeekBoatsModel" "freshTo" "[I" ∈ lw_gd := wk_6 (i := 213) (by decide +kernel) rfl
theorem wm_1524 : Cond.fieldLink "WeekBoatsModel" 87 "WeekBoatsModel" "freshStep" "[I" ∈ lw_gd := wk_6 (i := 214) (by decide +kernel) rfl
theorem wm_1525 : Cond.fieldLink "WeekBoatsModel" 90 "WeekBoatsModel" "tunnel" "[I" ∈ lw_gd := wk_6 (i := 215) (by decide +kernel) rfl
theorem wm_1526 : Cond.fieldLink "WeekBoatsModel" 93 "WeekBoatsModel" "freshTunnel" "[I" ∈ lw_gd := wk_6 (i := 216) (by decide +kernel) rfl
theorem wm_1527 : Cond.fieldLink "WeekBoatsModel" 96 "WeekBoatsModel" "hasTunnel" "[Z" ∈ lw_gd := wk_6 (i := 217) (by decide +kernel) rfl
theorem wm_1528 : Cond.fieldLink "WeekBoatsModel" 100 "WeekBoatsModel" "freshHas" "[Z" ∈ lw_gd := wk_6 (i := 218) (by decide +kernel) rfl
theorem wm_1529 : Cond.fieldLink "WeekBoatsModel" 103 "WeekBoatsModel" "tape" "[I" ∈ lw_gd := wk_6 (i := 219) (by decide +kernel) rfl
theorem wm_1530 : Cond.fieldLink "WeekBoatsModel" 106 "WeekBoatsModel" "pile" "[I" ∈ lw_gd := wk_6 (i := 220) (by decide +kernel) rfl
theorem wm_1531 : Cond.fieldLink "WeekBoatsModel" 109 "WeekBoatsModel" "facts" "[I" ∈ lw_gd := wk_6 (i := 221) (by decide +kernel) rfl
theorem wm_1532 : Cond.fieldLink "WeekBoatsModel" 390 "WeekBoatsModel" "lines" "I" ∈ lw_gd := wk_6 (i := 222) (by decide +kernel) rfl
theorem wm_1533 : Cond.fieldLink "WeekBoatsModel" 375 "WeekBoatsModel" "freshLines" "I" ∈ lw_gd := wk_6 (i := 223) (by decide +kernel) rfl
theorem wm_1534 : Cond.fieldLink "WeekBoatsModel" 333 "WeekBoatsModel" "steps" "I" ∈ lw_gd := wk_6 (i := 224) (by decide +kernel) rfl
theorem wm_1535 : Cond.fieldLink "WeekBoatsModel" 242 "WeekBoatsModel" "taped" "I" ∈ lw_gd := wk_6 (i := 225) (by decide +kernel) rfl
theorem wm_1536 : Cond.fieldLink "WeekBoatsModel" 245 "WeekBoatsModel" "at" "I" ∈ lw_gd := wk_6 (i := 226) (by decide +kernel) rfl
theorem wm_1537 : Cond.fieldLink "WeekBoatsModel" 306 "WeekBoatsModel" "token" "I" ∈ lw_gd := wk_6 (i := 227) (by decide +kernel) rfl
theorem wm_1538 : Cond.fieldLink "WeekBoatsModel" 248 "WeekBoatsModel" "tokenAt" "I" ∈ lw_gd := wk_6 (i := 228) (by decide +kernel) rfl
theorem wm_1539 : Cond.fieldLink "WeekBoatsModel" 318 "WeekBoatsModel" "value" "I" ∈ lw_gd := wk_6 (i := 229) (by decide +kernel) rfl
theorem wm_1540 : Cond.fieldLink "WeekBoatsModel" 321 "WeekBoatsModel" "wrong" "I" ∈ lw_gd := wk_6 (i := 230) (by decide +kernel) rfl
theorem wm_1541 : Cond.fieldLink "WeekBoatsModel" 324 "WeekBoatsModel" "wrongAt" "I" ∈ lw_gd := wk_6 (i := 231) (by decide +kernel) rfl
theorem wm_1542 : Cond.fieldLink "WeekBoatsModel" 384 "WeekBoatsModel" "faultKind" "I" ∈ lw_gd := wk_6 (i := 232) (by decide +kernel) rfl
theorem wm_1543 : Cond.fieldLink "WeekBoatsModel" 336 "WeekBoatsModel" "depth" "I" ∈ lw_gd := wk_6 (i := 233) (by decide +kernel) rfl
theorem wm_1544 : Cond.fieldLink "WeekBoatsModel" 112 "WeekBoatsModel" "faultPlace" "I" ∈ lw_gd := wk_6 (i := 234) (by decide +kernel) rfl
theorem wm_1545 : Cond.fieldLink "WeekBoatsModel" 421 "WeekBoatsModel" "counts" "Z" ∈ lw_gd := wk_6 (i := 235) (by decide +kernel) rfl
theorem wm_1546 : Cond.fieldLink "WeekBoatsModel" 425 "WeekBoatsModel" "harmed" "I" ∈ lw_gd := wk_6 (i := 236) (by decide +kernel) rfl
theorem wm_1547 : Cond.fieldLink "WeekBoatsModel" 444 "WeekBoatsModel" "trips" "I" ∈ lw_gd := wk_6 (i := 237) (by decide +kernel) rfl
theorem wm_1548 : Cond.fieldLink "WeekBoatsModel" 115 "WeekBoatsModel" "tripBoat" "[I" ∈ lw_gd := wk_6 (i := 238) (by decide +kernel) rfl
theorem wm_1549 : Cond.fieldLink "WeekBoatsModel" 118 "WeekBoatsModel" "tripFrom" "[I" ∈ lw_gd := wk_6 (i := 239) (by decide +kernel) rfl
theorem wm_1550 : Cond.fieldLink "WeekBoatsModel" 121 "WeekBoatsModel" "tripTo" "[I" ∈ lw_gd := wk_7 (i := 0) (by decide +kernel) rfl
theorem wm_1551 : Cond.fieldLink "WeekBoatsModel" 124 "WeekBoatsModel" "tripTime" "[I" ∈ lw_gd := wk_7 (i := 1) (by decide +kernel) rfl
theorem wm_1552 : Cond.fieldLink "WeekBoatsModel" 127 "WeekBoatsModel" "tripDue" "[I" ∈ lw_gd := wk_7 (i := 2) (by decide +kernel) rfl
theorem wm_1553 : Cond.fieldLink "WeekBoatsModel" 130 "WeekBoatsModel" "isPump" "[Z" ∈ lw_gd := wk_7 (i := 3) (by decide +kernel) rfl
theorem wm_1554 : Cond.fieldLink "WeekBoatsModel" 133 "WeekBoatsModel" "logMany" "[I" ∈ lw_gd := wk_7 (i := 4) (by decide +kernel) rfl
theorem wm_1555 : Cond.fieldLink "WeekBoatsModel" 136 "WeekBoatsModel" "logPoint" "[I" ∈ lw_gd := wk_7 (i := 5) (by decide +kernel) rfl
theorem wm_1556 : Cond.fieldLink "WeekBoatsModel" 139 "WeekBoatsModel" "logTime" "[I" ∈ lw_gd := wk_7 (i := 6) (by decide +kernel) rfl
theorem wm_1557 : Cond.fieldLink "WeekBoatsModel" 475 "WeekBoatsModel" "queued" "I" ∈ lw_gd := wk_7 (i := 7) (by decide +kernel) rfl
theorem wm_1558 : Cond.fieldLink "WeekBoatsModel" 142 "WeekBoatsModel" "comesAt" "[I" ∈ lw_gd := wk_7 (i := 8) (by decide +kernel) rfl
theorem wm_1559 : Cond.fieldLink "WeekBoatsModel" 145 "WeekBoatsModel" "goesWay" "[I" ∈ lw_gd := wk_7 (i := 9) (by decide +kernel) rfl
theorem wm_1560 : Cond.fieldLink "WeekBoatsModel" 148 "WeekBoatsModel" "order" "[I" ∈ lw_gd := wk_7 (i := 10) (by decide +kernel) rfl
theorem wm_1561 : Cond.fieldLink "WeekBoatsModel" 151 "WeekBoatsModel" "best" "[I" ∈ lw_gd := wk_7 (i := 11) (by decide +kernel) rfl
theorem wm_1562 : Cond.fieldLink "WeekBoatsModel" 481 "WeekBoatsModel" "bestWait" "I" ∈ lw_gd := wk_7 (i := 12) (by decide +kernel) rfl
theorem wm_1563 : Cond.fieldLink "WeekBoatsModel" 493 "WeekBoatsModel" "bookings" "I" ∈ lw_gd := wk_7 (i := 13) (by decide +kernel) rfl
theorem wm_1564 : Cond.fieldLink "WeekBoatsModel" 496 "WeekBoatsModel" "served" "I" ∈ lw_gd := wk_7 (i := 14) (by decide +kernel) rfl
theorem wm_1565 : Cond.fieldLink "WeekBoatsModel" 499 "WeekBoatsModel" "atHome" "I" ∈ lw_gd := wk_7 (i := 15) (by decide +kernel) rfl
theorem wm_1566 : Cond.fieldLink "WeekBoatsModel" 154 "WeekBoatsModel" "bookFrom" "[I" ∈ lw_gd := wk_7 (i := 16) (by decide +kernel) rfl
theorem wm_1567 : Cond.fieldLink "WeekBoatsModel" 157 "WeekBoatsModel" "bookTo" "[I" ∈ lw_gd := wk_7 (i := 17) (by decide +kernel) rfl
theorem wm_1568 : Cond.fieldLink "WeekBoatsModel" 160 "WeekBoatsModel" "bookWeek" "[I" ∈ lw_gd := wk_7 (i := 18) (by decide +kernel) rfl
theorem wm_1569 : Cond.fieldLink "WeekBoatsModel" 163 "WeekBoatsModel" "bookBerths" "[I" ∈ lw_gd := wk_7 (i := 19) (by decide +kernel) rfl
theorem wm_1570 : Cond.fieldLink "WeekBoatsModel" 166 "WeekBoatsModel" "goneThrough" "[I" ∈ lw_gd := wk_7 (i := 20) (by decide +kernel) rfl
