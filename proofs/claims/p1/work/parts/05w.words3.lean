theorem wm_1147 : Cond.code ⟨"WeekBoats", "enough", "(IIIII)I"⟩ prog_1_method_25_code 8 (some .int) ∈ lw_gd := wmP (i := 1147) (by decide +kernel) rfl
theorem wm_1148 : Cond.methodLink "WeekBoatsLaw" 90 ⟨"WeekBoats", "trip", "(IIIII)I"⟩ ∈ lw_gd := wmP (i := 1148) (by decide +kernel) rfl
theorem wm_1149 : Cond.instanceMethod ⟨"WeekBoats", "trip", "(IIIII)I"⟩ ∈ lw_gd := wmP (i := 1149) (by decide +kernel) rfl
theorem wm_1150 : Cond.selects "WeekBoats" ⟨"WeekBoats", "trip", "(IIIII)I"⟩ ⟨"WeekBoats", "trip", "(IIIII)I"⟩ ∈ lw_gd := wmP (i := 1150) (by decide +kernel) rfl
theorem wm_1151 : Cond.code ⟨"WeekBoats", "trip", "(IIIII)I"⟩ prog_1_method_26_code 6 (some .int) ∈ lw_gd := wmP (i := 1151) (by decide +kernel) rfl
theorem wm_1152 : Cond.methodLink "WeekBoats" 219 ⟨"WeekBoats$Trips", "add", "(IIIII)I"⟩ ∈ lw_gd := wmP (i := 1152) (by decide +kernel) rfl
theorem wm_1153 : Cond.instanceMethod ⟨"WeekBoats$Trips", "add", "(IIIII)I"⟩ ∈ lw_gd := wmP (i := 1153) (by decide +kernel) rfl
theorem wm_1154 : Cond.selects "WeekBoats$Trips" ⟨"WeekBoats$Trips", "add", "(IIIII)I"⟩ ⟨"WeekBoats$Trips", "add", "(IIIII)I"⟩ ∈ lw_gd := wmP (i := 1154) (by decide +kernel) rfl
theorem wm_1155 : Cond.code ⟨"WeekBoats$Trips", "add", "(IIIII)I"⟩ prog_9_method_2_code 6 (some .int) ∈ lw_gd := wmP (i := 1155) (by decide +kernel) rfl
theorem wm_1156 : Cond.methodLink "WeekBoatsLaw" 94 ⟨"WeekBoats", "late", "(I)I"⟩ ∈ lw_gd := wmP (i := 1156) (by decide +kernel) rfl
theorem wm_1157 : Cond.instanceMethod ⟨"WeekBoats", "late", "(I)I"⟩ ∈ lw_gd := wmP (i := 1157) (by decide +kernel) rfl
theorem wm_1158 : Cond.selects "WeekBoats" ⟨"WeekBoats", "late", "(I)I"⟩ ⟨"WeekBoats", "late", "(I)I"⟩ ∈ lw_gd := wmP (i := 1158) (by decide +kernel) rfl
theorem wm_1159 : Cond.code ⟨"WeekBoats", "late", "(I)I"⟩ prog_1_method_27_code 2 (some .int) ∈ lw_gd := wmP (i := 1159) (by decide +kernel) rfl
theorem wm_1160 : Cond.methodLink "WeekBoats" 222 ⟨"WeekBoats$Trips", "howManyLate", "()I"⟩ ∈ lw_gd := wmP (i := 1160) (by decide +kernel) rfl
theorem wm_1161 : Cond.instanceMethod ⟨"WeekBoats$Trips", "howManyLate", "()I"⟩ ∈ lw_gd := wmP (i := 1161) (by decide +kernel) rfl
theorem wm_1162 : Cond.selects "WeekBoats$Trips" ⟨"WeekBoats$Trips", "howManyLate", "()I"⟩ ⟨"WeekBoats$Trips", "howManyLate", "()I"⟩ ∈ lw_gd := wmP (i := 1162) (by decide +kernel) rfl
theorem wm_1163 : Cond.code ⟨"WeekBoats$Trips", "howManyLate", "()I"⟩ prog_9_method_4_code 3 (some .int) ∈ lw_gd := wmP (i := 1163) (by decide +kernel) rfl
theorem wm_1164 : Cond.methodLink "WeekBoatsLaw" 98 ⟨"WeekBoats", "log", "(III)I"⟩ ∈ lw_gd := wmP (i := 1164) (by decide +kernel) rfl
theorem wm_1165 : Cond.instanceMethod ⟨"WeekBoats", "log", "(III)I"⟩ ∈ lw_gd := wmP (i := 1165) (by decide +kernel) rfl
theorem wm_1166 : Cond.selects "WeekBoats" ⟨"WeekBoats", "log", "(III)I"⟩ ⟨"WeekBoats", "log", "(III)I"⟩ ∈ lw_gd := wmP (i := 1166) (by decide +kernel) rfl
theorem wm_1167 : Cond.code ⟨"WeekBoats", "log", "(III)I"⟩ prog_1_method_28_code 4 (some .int) ∈ lw_gd := wmP (i := 1167) (by decide +kernel) rfl
theorem wm_1168 : Cond.methodLink "WeekBoats" 225 ⟨"WeekBoats$Boats", "addLog", "(III)I"⟩ ∈ lw_gd := wmP (i := 1168) (by decide +kernel) rfl
theorem wm_1169 : Cond.instanceMethod ⟨"WeekBoats$Boats", "addLog", "(III)I"⟩ ∈ lw_gd := wmP (i := 1169) (by decide +kernel) rfl
theorem wm_1170 : Cond.selects "WeekBoats$Boats" ⟨"WeekBoats$Boats", "addLog", "(III)I"⟩ ⟨"WeekBoats$Boats", "addLog", "(III)I"⟩ ∈ lw_gd := wmP (i := 1170) (by decide +kernel) rfl
theorem wm_1171 : Cond.code ⟨"WeekBoats$Boats", "addLog", "(III)I"⟩ prog_2_method_3_code 5 (some .int) ∈ lw_gd := wmP (i := 1171) (by decide +kernel) rfl
theorem wm_1172 : Cond.methodLink "WeekBoatsLaw" 102 ⟨"WeekBoats", "could", "(IIII)I"⟩ ∈ lw_gd := wmP (i := 1172) (by decide +kernel) rfl
theorem wm_1173 : Cond.instanceMethod ⟨"WeekBoats", "could", "(IIII)I"⟩ ∈ lw_gd := wmP (i := 1173) (by decide +kernel) rfl
theorem wm_1174 : Cond.selects "WeekBoats" ⟨"WeekBoats", "could", "(IIII)I"⟩ ⟨"WeekBoats", "could", "(IIII)I"⟩ ∈ lw_gd := wmP (i := 1174) (by decide +kernel) rfl
theorem wm_1175 : Cond.code ⟨"WeekBoats", "could", "(IIII)I"⟩ prog_1_method_29_code 5 (some .int) ∈ lw_gd := wmP (i := 1175) (by decide +kernel) rfl
theorem wm_1176 : Cond.methodLink "WeekBoats" 229 ⟨"WeekBoats$Boats", "canHaveBeen", "(IIII)Z"⟩ ∈ lw_gd := wmP (i := 1176) (by decide +kernel) rfl
theorem wm_1177 : Cond.instanceMethod ⟨"WeekBoats$Boats", "canHaveBeen", "(IIII)Z"⟩ ∈ lw_gd := wmP (i := 1177) (by decide +kernel) rfl
theorem wm_1178 : Cond.selects "WeekBoats$Boats" ⟨"WeekBoats$Boats", "canHaveBeen", "(IIII)Z"⟩ ⟨"WeekBoats$Boats", "canHaveBeen", "(IIII)Z"⟩ ∈ lw_gd := wmP (i := 1178) (by decide +kernel) rfl
theorem wm_1179 : Cond.code ⟨"WeekBoats$Boats", "canHaveBeen", "(IIII)Z"⟩ prog_2_method_6_code 6 (some .boolean) ∈ lw_gd := wmP (i := 1179) (by decide +kernel) rfl
theorem wm_1180 : Cond.methodLink "WeekBoats$Boats" 54 ⟨"WeekBoats$Boats", "canBetween", "(IIIII)Z"⟩ ∈ lw_gd := wmP (i := 1180) (by decide +kernel) rfl
theorem wm_1182 : Cond.instanceMethod ⟨"WeekBoats$Boats", "canBetween", "(IIIII)Z"⟩ ∈ lw_gd := wmP (i := 1182) (by decide +kernel) rfl
theorem wm_1183 : Cond.code ⟨"WeekBoats$Boats", "canBetween", "(IIIII)Z"⟩ prog_2_method_7_code 12 (some .boolean) ∈ lw_gd := wmP (i := 1183) (by decide +kernel) rfl
theorem wm_1184 : Cond.methodLink "WeekBoats$Boats" 58 ⟨"WeekBoats$Boats", "placeOf", "(II)I"⟩ ∈ lw_gd := wmP (i := 1184) (by decide +kernel) rfl
theorem wm_1186 : Cond.instanceMethod ⟨"WeekBoats$Boats", "placeOf", "(II)I"⟩ ∈ lw_gd := wmP (i := 1186) (by decide +kernel) rfl
theorem wm_1187 : Cond.code ⟨"WeekBoats$Boats", "placeOf", "(II)I"⟩ prog_2_method_4_code 3 (some .int) ∈ lw_gd := wmP (i := 1187) (by decide +kernel) rfl
theorem wm_1188 : Cond.methodLink "WeekBoats$Boats" 62 ⟨"WeekBoats$Boats", "timeOf", "(II)I"⟩ ∈ lw_gd := wmP (i := 1188) (by decide +kernel) rfl
theorem wm_1190 : Cond.instanceMethod ⟨"WeekBoats$Boats", "timeOf", "(II)I"⟩ ∈ lw_gd := wmP (i := 1190) (by decide +kernel) rfl
theorem wm_1191 : Cond.code ⟨"WeekBoats$Boats", "timeOf", "(II)I"⟩ prog_2_method_5_code 3 (some .int) ∈ lw_gd := wmP (i := 1191) (by decide +kernel) rfl
theorem wm_1192 : Cond.methodLink "WeekBoats$Boats" 65 ⟨"WeekBoats$Voyage", "comesTo", "(IIIIZ)I"⟩ ∈ lw_gd := wmP (i := 1192) (by decide +kernel) rfl
theorem wm_1193 : Cond.methodLink "WeekBoatsLaw" 106 ⟨"WeekBoats", "whose", "(IIII)I"⟩ ∈ lw_gd := wmP (i := 1193) (by decide +kernel) rfl
theorem wm_1194 : Cond.instanceMethod ⟨"WeekBoats", "whose", "(IIII)I"⟩ ∈ lw_gd := wmP (i := 1194) (by decide +kernel) rfl
theorem wm_1195 : Cond.selects "WeekBoats" ⟨"WeekBoats", "whose", "(IIII)I"⟩ ⟨"WeekBoats", "whose", "(IIII)I"⟩ ∈ lw_gd := wmP (i := 1195) (by decide +kernel) rfl
theorem wm_1196 : Cond.code ⟨"WeekBoats", "whose", "(IIII)I"⟩ prog_1_method_30_code 8 (some .int) ∈ lw_gd := wmP (i := 1196) (by decide +kernel) rfl
theorem wm_1197 : Cond.methodLink "WeekBoats" 232 ⟨"java/lang/Integer", "bitCount", "(I)I"⟩ ∈ lw_gd := wmP (i := 1197) (by decide +kernel) rfl
theorem wm_1198 : Cond.static ⟨"java/lang/Integer", "bitCount", "(I)I"⟩ ∈ lw_gd := wmP (i := 1198) (by decide +kernel) rfl
theorem wm_1199 : Cond.code ⟨"java/lang/Integer", "bitCount", "(I)I"⟩ prog_16_method_49_code 1 (some .int) ∈ lw_gd := wmP (i := 1199) (by decide +kernel) rfl
theorem wm_1200 : Cond.constant "java/lang/Integer" 265 1431655765 ∈ lw_gd := wmP (i := 1200) (by decide +kernel) rfl
theorem wm_1201 : Cond.constant "java/lang/Integer" 266 858993459 ∈ lw_gd := wmP (i := 1201) (by decide +kernel) rfl
theorem wm_1202 : Cond.constant "java/lang/Integer" 267 252645135 ∈ lw_gd := wmP (i := 1202) (by decide +kernel) rfl
theorem wm_1203 : Cond.methodLink "WeekBoatsLaw" 110 ⟨"WeekBoats", "tonight", "(II)I"⟩ ∈ lw_gd := wmP (i := 1203) (by decide +kernel) rfl
theorem wm_1204 : Cond.instanceMethod ⟨"WeekBoats", "tonight", "(II)I"⟩ ∈ lw_gd := wmP (i := 1204) (by decide +kernel) rfl
theorem wm_1205 : Cond.selects "WeekBoats" ⟨"WeekBoats", "tonight", "(II)I"⟩ ⟨"WeekBoats", "tonight", "(II)I"⟩ ∈ lw_gd := wmP (i := 1205) (by decide +kernel) rfl
theorem wm_1206 : Cond.code ⟨"WeekBoats", "tonight", "(II)I"⟩ prog_1_method_31_code 4 (some .int) ∈ lw_gd := wmP (i := 1206) (by decide +kernel) rfl
theorem wm_1207 : Cond.methodLink "WeekBoats" 237 ⟨"WeekBoats$Boats", "settleTonight", "(I)V"⟩ ∈ lw_gd := wmP (i := 1207) (by decide +kernel) rfl
theorem wm_1208 : Cond.instanceMethod ⟨"WeekBoats$Boats", "settleTonight", "(I)V"⟩ ∈ lw_gd := wmP (i := 1208) (by decide +kernel) rfl
theorem wm_1209 : Cond.selects "WeekBoats$Boats" ⟨"WeekBoats$Boats", "settleTonight", "(I)V"⟩ ⟨"WeekBoats$Boats", "settleTonight", "(I)V"⟩ ∈ lw_gd := wmP (i := 1209) (by decide +kernel) rfl
theorem wm_1210 : Cond.code ⟨"WeekBoats$Boats", "settleTonight", "(I)V"⟩ prog_2_method_8_code 6 none ∈ lw_gd := wmP (i := 1210) (by decide +kernel) rfl
theorem wm_1211 : Cond.methodLink "WeekBoats$Boats" 76 ⟨"java/util/Arrays", "fill", "([II)V"⟩ ∈ lw_gd := wmP (i := 1211) (by decide +kernel) rfl
theorem wm_1212 : Cond.methodLink "WeekBoats$Boats" 82 ⟨"WeekBoats$Boats", "lastLog", "(II)I"⟩ ∈ lw_gd := wmP (i := 1212) (by decide +kernel) rfl
theorem wm_1214 : Cond.instanceMethod ⟨"WeekBoats$Boats", "lastLog", "(II)I"⟩ ∈ lw_gd := wmP (i := 1214) (by decide +kernel) rfl
theorem wm_1215 : Cond.code ⟨"WeekBoats$Boats", "lastLog", "(II)I"⟩ prog_2_method_9_code 5 (some .int) ∈ lw_gd := wmP (i := 1215) (by decide +kernel) rfl
theorem wm_1216 : Cond.methodLink "WeekBoats$Boats" 85 ⟨"WeekBoats$Voyage", "reach", "(III)V"⟩ ∈ lw_gd := wmP (i := 1216) (by decide +kernel) rfl
theorem wm_1217 : Cond.methodLink "WeekBoats$Boats" 89 ⟨"WeekBoats$Voyage", "reached", "(I)I"⟩ ∈ lw_gd := wmP (i := 1217) (by decide +kernel) rfl
theorem wm_1218 : Cond.methodLink "WeekBoats" 243 ⟨"WeekBoats$Boats", "crowd", "()I"⟩ ∈ lw_gd := wmP (i := 1218) (by decide +kernel) rfl
theorem wm_1219 : Cond.instanceMethod ⟨"WeekBoats$Boats", "crowd", "()I"⟩ ∈ lw_gd := wmP (i := 1219) (by decide +kernel) rfl
theorem wm_1220 : Cond.selects "WeekBoats$Boats" ⟨"WeekBoats$Boats", "crowd", "()I"⟩ ⟨"WeekBoats$Boats", "crowd", "()I"⟩ ∈ lw_gd := wmP (i := 1220) (by decide +kernel) rfl
theorem wm_1221 : Cond.code ⟨"WeekBoats$Boats", "crowd", "()I"⟩ prog_2_method_10_code 3 (some .int) ∈ lw_gd := wmP (i := 1221) (by decide +kernel) rfl
theorem wm_1222 : Cond.methodLink "WeekBoats$Boats" 93 ⟨"java/lang/Integer", "bitCount", "(I)I"⟩ ∈ lw_gd := wmP (i := 1222) (by decide +kernel) rfl
theorem wm_1223 : Cond.methodLink "WeekBoatsLaw" 114 ⟨"WeekBoats", "queue", "(II)I"⟩ ∈ lw_gd := wmP (i := 1223) (by decide +kernel) rfl
theorem wm_1224 : Cond.instanceMethod ⟨"WeekBoats", "queue", "(II)I"⟩ ∈ lw_gd := wmP (i := 1224) (by decide +kernel) rfl
theorem wm_1225 : Cond.selects "WeekBoats" ⟨"WeekBoats", "queue", "(II)I"⟩ ⟨"WeekBoats", "queue", "(II)I"⟩ ∈ lw_gd := wmP (i := 1225) (by decide +kernel) rfl
theorem wm_1226 : Cond.code ⟨"WeekBoats", "queue", "(II)I"⟩ prog_1_method_32_code 3 (some .int) ∈ lw_gd := wmP (i := 1226) (by decide +kernel) rfl
theorem wm_1227 : Cond.methodLink "WeekBoats" 246 ⟨"WeekBoats$LockQueue", "clear", "()V"⟩ ∈ lw_gd := wmP (i := 1227) (by decide +kernel) rfl
theorem wm_1228 : Cond.instanceMethod ⟨"WeekBoats$LockQueue", "clear", "()V"⟩ ∈ lw_gd := wmP (i := 1228) (by decide +kernel) rfl
theorem wm_1229 : Cond.selects "WeekBoats$LockQueue" ⟨"WeekBoats$LockQueue", "clear", "()V"⟩ ⟨"WeekBoats$LockQueue", "clear", "()V"⟩ ∈ lw_gd := wmP (i := 1229) (by decide +kernel) rfl
theorem wm_1230 : Cond.code ⟨"WeekBoats$LockQueue", "clear", "()V"⟩ prog_5_method_2_code 1 none ∈ lw_gd := wmP (i := 1230) (by decide +kernel) rfl
theorem wm_1231 : Cond.methodLink "WeekBoats" 249 ⟨"WeekBoats$LockQueue", "add", "(II)I"⟩ ∈ lw_gd := wmP (i := 1231) (by decide +kernel) rfl
theorem wm_1232 : Cond.instanceMethod ⟨"WeekBoats$LockQueue", "add", "(II)I"⟩ ∈ lw_gd := wmP (i := 1232) (by decide +kernel) rfl
theorem wm_1233 : Cond.selects "WeekBoats$LockQueue" ⟨"WeekBoats$LockQueue", "add", "(II)I"⟩ ⟨"WeekBoats$LockQueue", "add", "(II)I"⟩ ∈ lw_gd := wmP (i := 1233) (by decide +kernel) rfl
theorem wm_1234 : Cond.code ⟨"WeekBoats$LockQueue", "add", "(II)I"⟩ prog_5_method_3_code 3 (some .int) ∈ lw_gd := wmP (i := 1234) (by decide +kernel) rfl
theorem wm_1235 : Cond.methodLink "WeekBoats$LockQueue" 34 ⟨"WeekBoats$LockQueue", "findBest", "()V"⟩ ∈ lw_gd := wmP (i := 1235) (by decide +kernel) rfl
theorem wm_1237 : Cond.instanceMethod ⟨"WeekBoats$LockQueue", "findBest", "()V"⟩ ∈ lw_gd := wmP (i := 1237) (by decide +kernel) rfl
theorem wm_1238 : Cond.code ⟨"WeekBoats$LockQueue", "findBest", "()V"⟩ prog_5_method_4_code 2 none ∈ lw_gd := wmP (i := 1238) (by decide +kernel) rfl
theorem wm_1239 : Cond.methodLink "WeekBoats$LockQueue" 37 ⟨"WeekBoats$LockQueue", "waitOf", "([I)I"⟩ ∈ lw_gd := wmP (i := 1239) (by decide +kernel) rfl
theorem wm_1241 : Cond.instanceMethod ⟨"WeekBoats$LockQueue", "waitOf", "([I)I"⟩ ∈ lw_gd := wmP (i := 1241) (by decide +kernel) rfl
theorem wm_1242 : Cond.code ⟨"WeekBoats$LockQueue", "waitOf", "([I)I"⟩ prog_5_method_5_code 6 (some .int) ∈ lw_gd := wmP (i := 1242) (by decide +kernel) rfl
theorem wm_1243 : Cond.methodLink "WeekBoats$LockQueue" 45 ⟨"java/lang/Math", "max", "(II)I"⟩ ∈ lw_gd := wmP (i := 1243) (by decide +kernel) rfl
theorem wm_1244 : Cond.methodLink "WeekBoats$LockQueue" 51 ⟨"WeekBoats$LockQueue", "minutesOf", "([II)I"⟩ ∈ lw_gd := wmP (i := 1244) (by decide +kernel) rfl
theorem wm_1246 : Cond.instanceMethod ⟨"WeekBoats$LockQueue", "minutesOf", "([II)I"⟩ ∈ lw_gd := wmP (i := 1246) (by decide +kernel) rfl
theorem wm_1247 : Cond.code ⟨"WeekBoats$LockQueue", "minutesOf", "([II)I"⟩ prog_5_method_6_code 3 (some .int) ∈ lw_gd := wmP (i := 1247) (by decide +kernel) rfl
theorem wm_1248 : Cond.methodLink "WeekBoats$LockQueue" 41 ⟨"WeekBoats$LockQueue", "putNext", "(LWeekBoats$LockQueue;IIII)V"⟩ ∈ lw_gd := wmP (i := 1248) (by decide +kernel) rfl
theorem wm_1249 : Cond.static ⟨"WeekBoats$LockQueue", "putNext", "(LWeekBoats$LockQueue;IIII)V"⟩ ∈ lw_gd := wmP (i := 1249) (by decide +kernel) rfl
theorem wm_1250 : Cond.code ⟨"WeekBoats$LockQueue", "putNext", "(LWeekBoats$LockQueue;IIII)V"⟩ prog_5_method_7_code 8 none ∈ lw_gd := wmP (i := 1250) (by decide +kernel) rfl
theorem wm_1251 : Cond.methodLink "WeekBoats$LockQueue" 55 ⟨"java/lang/System", "arraycopy", "(Ljava/lang/Object;ILjava/lang/Object;II)V"⟩ ∈ lw_gd := wmP (i := 1251) (by decide +kernel) rfl
theorem wm_1252 : Cond.methodLink "WeekBoatsLaw" 118 ⟨"WeekBoats", "lock", "(I)I"⟩ ∈ lw_gd := wmP (i := 1252) (by decide +kernel) rfl
theorem wm_1253 : Cond.instanceMethod ⟨"WeekBoats", "lock", "(I)I"⟩ ∈ lw_gd := wmP (i := 1253) (by decide +kernel) rfl
theorem wm_1254 : Cond.selects "WeekBoats" ⟨"WeekBoats", "lock", "(I)I"⟩ ⟨"WeekBoats", "lock", "(I)I"⟩ ∈ lw_gd := wmP (i := 1254) (by decide +kernel) rfl
theorem wm_1255 : Cond.code ⟨"WeekBoats", "lock", "(I)I"⟩ prog_1_method_33_code 2 (some .int) ∈ lw_gd := wmP (i := 1255) (by decide +kernel) rfl
theorem wm_1256 : Cond.methodLink "WeekBoats" 258 ⟨"WeekBoats$LockQueue", "lockfulsAsCome", "()I"⟩ ∈ lw_gd := wmP (i := 1256) (by decide +kernel) rfl
theorem wm_1257 : Cond.instanceMethod ⟨"WeekBoats$LockQueue", "lockfulsAsCome", "()I"⟩ ∈ lw_gd := wmP (i := 1257) (by decide +kernel) rfl
theorem wm_1258 : Cond.selects "WeekBoats$LockQueue" ⟨"WeekBoats$LockQueue", "lockfulsAsCome", "()I"⟩ ⟨"WeekBoats$LockQueue", "lockfulsAsCome", "()I"⟩ ∈ lw_gd := wmP (i := 1258) (by decide +kernel) rfl
theorem wm_1259 : Cond.code ⟨"WeekBoats$LockQueue", "lockfulsAsCome", "()I"⟩ prog_5_method_8_code 3 (some .int) ∈ lw_gd := wmP (i := 1259) (by decide +kernel) rfl
theorem wm_1260 : Cond.methodLink "WeekBoats" 261 ⟨"WeekBoats$LockQueue", "lockfulsAtBest", "()I"⟩ ∈ lw_gd := wmP (i := 1260) (by decide +kernel) rfl
theorem wm_1261 : Cond.instanceMethod ⟨"WeekBoats$LockQueue", "lockfulsAtBest", "()I"⟩ ∈ lw_gd := wmP (i := 1261) (by decide +kernel) rfl
theorem wm_1262 : Cond.selects "WeekBoats$LockQueue" ⟨"WeekBoats$LockQueue", "lockfulsAtBest", "()I"⟩ ⟨"WeekBoats$LockQueue", "lockfulsAtBest", "()I"⟩ ∈ lw_gd := wmP (i := 1262) (by decide +kernel) rfl
theorem wm_1263 : Cond.code ⟨"WeekBoats$LockQueue", "lockfulsAtBest", "()I"⟩ prog_5_method_9_code 3 (some .int) ∈ lw_gd := wmP (i := 1263) (by decide +kernel) rfl
theorem wm_1264 : Cond.methodLink "WeekBoats" 264 ⟨"WeekBoats$LockQueue", "atBest", "(I)I"⟩ ∈ lw_gd := wmP (i := 1264) (by decide +kernel) rfl
theorem wm_1265 : Cond.instanceMethod ⟨"WeekBoats$LockQueue", "atBest", "(I)I"⟩ ∈ lw_gd := wmP (i := 1265) (by decide +kernel) rfl
theorem wm_1266 : Cond.selects "WeekBoats$LockQueue" ⟨"WeekBoats$LockQueue", "atBest", "(I)I"⟩ ⟨"WeekBoats$LockQueue", "atBest", "(I)I"⟩ ∈ lw_gd := wmP (i := 1266) (by decide +kernel) rfl
theorem wm_1267 : Cond.code ⟨"WeekBoats$LockQueue", "atBest", "(I)I"⟩ prog_5_method_10_code 2 (some .int) ∈ lw_gd := wmP (i := 1267) (by decide +kernel) rfl
theorem wm_1269 : Cond.methodLink "WeekBoatsLaw" 122 ⟨"WeekBoats", "booking", "(IIII)I"⟩ ∈ lw_gd := wmP (i := 1269) (by decide +kernel) rfl
theorem wm_1270 : Cond.instanceMethod ⟨"WeekBoats", "booking", "(IIII)I"⟩ ∈ lw_gd := wmP (i := 1270) (by decide +kernel) rfl
theorem wm_1271 : Cond.selects "WeekBoats" ⟨"WeekBoats", "booking", "(IIII)I"⟩ ⟨"WeekBoats", "booking", "(IIII)I"⟩ ∈ lw_gd := wmP (i := 1271) (by decide +kernel) rfl
theorem wm_1272 : Cond.code ⟨"WeekBoats", "booking", "(IIII)I"⟩ prog_1_method_34_code 5 (some .int) ∈ lw_gd := wmP (i := 1272) (by decide +kernel) rfl
theorem wm_1273 : Cond.methodLink "WeekBoats" 267 ⟨"WeekBoats", "isWeek", "(I)Z"⟩ ∈ lw_gd := wmP (i := 1273) (by decide +kernel) rfl
theorem wm_1274 : Cond.static ⟨"WeekBoats", "isWeek", "(I)Z"⟩ ∈ lw_gd := wmP (i := 1274) (by decide +kernel) rfl
theorem wm_1275 : Cond.code ⟨"WeekBoats", "isWeek", "(I)Z"⟩ prog_1_method_5_code 1 (some .boolean) ∈ lw_gd := wmP (i := 1275) (by decide +kernel) rfl
theorem wm_1276 : Cond.methodLink "WeekBoats" 270 ⟨"WeekBoats$Bookings", "add", "(IIII)I"⟩ ∈ lw_gd := wmP (i := 1276) (by decide +kernel) rfl
theorem wm_1277 : Cond.instanceMethod ⟨"WeekBoats$Bookings", "add", "(IIII)I"⟩ ∈ lw_gd := wmP (i := 1277) (by decide +kernel) rfl
theorem wm_1278 : Cond.selects "WeekBoats$Bookings" ⟨"WeekBoats$Bookings", "add", "(IIII)I"⟩ ⟨"WeekBoats$Bookings", "add", "(IIII)I"⟩ ∈ lw_gd := wmP (i := 1278) (by decide +kernel) rfl
theorem wm_1279 : Cond.code ⟨"WeekBoats$Bookings", "add", "(IIII)I"⟩ prog_3_method_2_code 5 (some .int) ∈ lw_gd := wmP (i := 1279) (by decide +kernel) rfl
theorem wm_1280 : Cond.methodLink "WeekBoats$Bookings" 55 ⟨"WeekBoats$Bookings", "putInOrder", "()V"⟩ ∈ lw_gd := wmP (i := 1280) (by decide +kernel) rfl
theorem wm_1282 : Cond.instanceMethod ⟨"WeekBoats$Bookings", "putInOrder", "()V"⟩ ∈ lw_gd := wmP (i := 1282) (by decide +kernel) rfl
theorem wm_1283 : Cond.code ⟨"WeekBoats$Bookings", "putInOrder", "()V"⟩ prog_3_method_3_code 4 none ∈ lw_gd := wmP (i := 1283) (by decide +kernel) rfl
theorem wm_1284 : Cond.methodLink "WeekBoatsLaw" 126 ⟨"WeekBoats", "given", "(II)I"⟩ ∈ lw_gd := wmP (i := 1284) (by decide +kernel) rfl
theorem wm_1285 : Cond.instanceMethod ⟨"WeekBoats", "given", "(II)I"⟩ ∈ lw_gd := wmP (i := 1285) (by decide +kernel) rfl
theorem wm_1286 : Cond.selects "WeekBoats" ⟨"WeekBoats", "given", "(II)I"⟩ ⟨"WeekBoats", "given", "(II)I"⟩ ∈ lw_gd := wmP (i := 1286) (by decide +kernel) rfl
theorem wm_1287 : Cond.code ⟨"WeekBoats", "given", "(II)I"⟩ prog_1_method_35_code 3 (some .int) ∈ lw_gd := wmP (i := 1287) (by decide +kernel) rfl
theorem wm_1288 : Cond.methodLink "WeekBoats" 271 ⟨"WeekBoats", "hireFirst", "(I)V"⟩ ∈ lw_gd := wmP (i := 1288) (by decide +kernel) rfl
theorem wm_1290 : Cond.instanceMethod ⟨"WeekBoats", "hireFirst", "(I)V"⟩ ∈ lw_gd := wmP (i := 1290) (by decide +kernel) rfl
theorem wm_1291 : Cond.code ⟨"WeekBoats", "hireFirst", "(I)V"⟩ prog_1_method_36_code 3 none ∈ lw_gd := wmP (i := 1291) (by decide +kernel) rfl
theorem wm_1292 : Cond.methodLink "WeekBoats" 293 ⟨"WeekBoats$Bookings", "hire", "(III)V"⟩ ∈ lw_gd := wmP (i := 1292) (by decide +kernel) rfl
theorem wm_1293 : Cond.instanceMethod ⟨"WeekBoats$Bookings", "hire", "(III)V"⟩ ∈ lw_gd := wmP (i := 1293) (by decide +kernel) rfl
theorem wm_1294 : Cond.selects "WeekBoats$Bookings" ⟨"WeekBoats$Bookings", "hire", "(III)V"⟩ ⟨"WeekBoats$Bookings", "hire", "(III)V"⟩ ∈ lw_gd := wmP (i := 1294) (by decide +kernel) rfl
theorem wm_1295 : Cond.code ⟨"WeekBoats$Bookings", "hire", "(III)V"⟩ prog_3_method_4_code 4 none ∈ lw_gd := wmP (i := 1295) (by decide +kernel) rfl
theorem wm_1296 : Cond.methodLink "WeekBoats" 274 ⟨"WeekBoats$Bookings", "giveBest", "(I)V"⟩ ∈ lw_gd := wmP (i := 1296) (by decide +kernel) rfl
theorem wm_1297 : Cond.instanceMethod ⟨"WeekBoats$Bookings", "giveBest", "(I)V"⟩ ∈ lw_gd := wmP (i := 1297) (by decide +kernel) rfl
theorem wm_1298 : Cond.selects "WeekBoats$Bookings" ⟨"WeekBoats$Bookings", "giveBest", "(I)V"⟩ ⟨"WeekBoats$Bookings", "giveBest", "(I)V"⟩ ∈ lw_gd := wmP (i := 1298) (by decide +kernel) rfl
theorem wm_1299 : Cond.code ⟨"WeekBoats$Bookings", "giveBest", "(I)V"⟩ prog_3_method_5_code 3 none ∈ lw_gd := wmP (i := 1299) (by decide +kernel) rfl
theorem wm_1300 : Cond.methodLink "WeekBoats$Bookings" 58 ⟨"java/lang/Math", "min", "(II)I"⟩ ∈ lw_gd := wmP (i := 1300) (by decide +kernel) rfl
theorem wm_1301 : Cond.methodLink "WeekBoats$Bookings" 73 ⟨"WeekBoats$Bookings", "canEverBeGiven", "(I)Z"⟩ ∈ lw_gd := wmP (i := 1301) (by decide +kernel) rfl
theorem wm_1303 : Cond.instanceMethod ⟨"WeekBoats$Bookings", "canEverBeGiven", "(I)Z"⟩ ∈ lw_gd := wmP (i := 1303) (by decide +kernel) rfl
theorem wm_1304 : Cond.code ⟨"WeekBoats$Bookings", "canEverBeGiven", "(I)Z"⟩ prog_3_method_6_code 3 (some .boolean) ∈ lw_gd := wmP (i := 1304) (by decide +kernel) rfl
theorem wm_1305 : Cond.methodLink "WeekBoats$Bookings" 81 ⟨"WeekBoats$Bookings", "canCome", "(II)Z"⟩ ∈ lw_gd := wmP (i := 1305) (by decide +kernel) rfl
theorem wm_1307 : Cond.instanceMethod ⟨"WeekBoats$Bookings", "canCome", "(II)Z"⟩ ∈ lw_gd := wmP (i := 1307) (by decide +kernel) rfl
theorem wm_1308 : Cond.code ⟨"WeekBoats$Bookings", "canCome", "(II)Z"⟩ prog_3_method_7_code 4 (some .boolean) ∈ lw_gd := wmP (i := 1308) (by decide +kernel) rfl
theorem wm_1309 : Cond.methodLink "WeekBoats$Bookings" 77 ⟨"WeekBoats$Bookings", "giveNext", "(LWeekBoats$Bookings;II)V"⟩ ∈ lw_gd := wmP (i := 1309) (by decide +kernel) rfl
theorem wm_1310 : Cond.static ⟨"WeekBoats$Bookings", "giveNext", "(LWeekBoats$Bookings;II)V"⟩ ∈ lw_gd := wmP (i := 1310) (by decide +kernel) rfl
theorem wm_1311 : Cond.code ⟨"WeekBoats$Bookings", "giveNext", "(LWeekBoats$Bookings;II)V"⟩ prog_3_method_8_code 8 none ∈ lw_gd := wmP (i := 1311) (by decide +kernel) rfl
theorem wm_1312 : Cond.methodLink "WeekBoats$Bookings" 85 ⟨"WeekBoats$Bookings", "compare", "(I)V"⟩ ∈ lw_gd := wmP (i := 1312) (by decide +kernel) rfl
theorem wm_1314 : Cond.instanceMethod ⟨"WeekBoats$Bookings", "compare", "(I)V"⟩ ∈ lw_gd := wmP (i := 1314) (by decide +kernel) rfl
theorem wm_1315 : Cond.code ⟨"WeekBoats$Bookings", "compare", "(I)V"⟩ prog_3_method_10_code 4 none ∈ lw_gd := wmP (i := 1315) (by decide +kernel) rfl
theorem wm_1316 : Cond.methodLink "WeekBoats$Bookings" 92 ⟨"java/lang/System", "arraycopy", "(Ljava/lang/Object;ILjava/lang/Object;II)V"⟩ ∈ lw_gd := wmP (i := 1316) (by decide +kernel) rfl
theorem wm_1317 : Cond.methodLink "WeekBoats$Bookings" 89 ⟨"WeekBoats$Bookings", "canHave", "(II)Z"⟩ ∈ lw_gd := wmP (i := 1317) (by decide +kernel) rfl
theorem wm_1319 : Cond.instanceMethod ⟨"WeekBoats$Bookings", "canHave", "(II)Z"⟩ ∈ lw_gd := wmP (i := 1319) (by decide +kernel) rfl
theorem wm_1320 : Cond.code ⟨"WeekBoats$Bookings", "canHave", "(II)Z"⟩ prog_3_method_9_code 3 (some .boolean) ∈ lw_gd := wmP (i := 1320) (by decide +kernel) rfl
theorem wm_1321 : Cond.methodLink "WeekBoatsLaw" 130 ⟨"WeekBoats", "more", "(III)I"⟩ ∈ lw_gd := wmP (i := 1321) (by decide +kernel) rfl
theorem wm_1322 : Cond.instanceMethod ⟨"WeekBoats", "more", "(III)I"⟩ ∈ lw_gd := wmP (i := 1322) (by decide +kernel) rfl
theorem wm_1323 : Cond.selects "WeekBoats" ⟨"WeekBoats", "more", "(III)I"⟩ ⟨"WeekBoats", "more", "(III)I"⟩ ∈ lw_gd := wmP (i := 1323) (by decide +kernel) rfl
theorem wm_1324 : Cond.code ⟨"WeekBoats", "more", "(III)I"⟩ prog_1_method_37_code 5 (some .int) ∈ lw_gd := wmP (i := 1324) (by decide +kernel) rfl
theorem wm_1325 : Cond.methodLink "WeekBoatsLaw" 134 ⟨"WeekBoats", "gas", "(III)Z"⟩ ∈ lw_gd := wmP (i := 1325) (by decide +kernel) rfl
theorem wm_1326 : Cond.instanceMethod ⟨"WeekBoats", "gas", "(III)Z"⟩ ∈ lw_gd := wmP (i := 1326) (by decide +kernel) rfl
theorem wm_1327 : Cond.selects "WeekBoats" ⟨"WeekBoats", "gas", "(III)Z"⟩ ⟨"WeekBoats", "gas", "(III)Z"⟩ ∈ lw_gd := wmP (i := 1327) (by decide +kernel) rfl
theorem wm_1328 : Cond.code ⟨"WeekBoats", "gas", "(III)Z"⟩ prog_1_method_38_code 4 (some .boolean) ∈ lw_gd := wmP (i := 1328) (by decide +kernel) rfl
theorem wm_1329 : Cond.methodLink "WeekBoats" 296 ⟨"WeekBoats$Yard", "tellDock", "(III)Z"⟩ ∈ lw_gd := wmP (i := 1329) (by decide +kernel) rfl
theorem wm_1330 : Cond.instanceMethod ⟨"WeekBoats$Yard", "tellDock", "(III)Z"⟩ ∈ lw_gd := wmP (i := 1330) (by decide +kernel) rfl
theorem wm_1331 : Cond.selects "WeekBoats$Yard" ⟨"WeekBoats$Yard", "tellDock", "(III)Z"⟩ ⟨"WeekBoats$Yard", "tellDock", "(III)Z"⟩ ∈ lw_gd := wmP (i := 1331) (by decide +kernel) rfl
theorem wm_1332 : Cond.code ⟨"WeekBoats$Yard", "tellDock", "(III)Z"⟩ prog_12_method_2_code 4 (some .boolean) ∈ lw_gd := wmP (i := 1332) (by decide +kernel) rfl
theorem wm_1333 : Cond.methodLink "WeekBoats$Yard" 42 ⟨"WeekBoats$Yard", "othersInDock", "(I)I"⟩ ∈ lw_gd := wmP (i := 1333) (by decide +kernel) rfl
theorem wm_1335 : Cond.instanceMethod ⟨"WeekBoats$Yard", "othersInDock", "(I)I"⟩ ∈ lw_gd := wmP (i := 1335) (by decide +kernel) rfl
theorem wm_1336 : Cond.code ⟨"WeekBoats$Yard", "othersInDock", "(I)I"⟩ prog_12_method_3_code 4 (some .int) ∈ lw_gd := wmP (i := 1336) (by decide +kernel) rfl
theorem wm_1337 : Cond.methodLink "WeekBoatsLaw" 139 ⟨"WeekBoats", "dock", "(I)I"⟩ ∈ lw_gd := wmP (i := 1337) (by decide +kernel) rfl
theorem wm_1338 : Cond.instanceMethod ⟨"WeekBoats", "dock", "(I)I"⟩ ∈ lw_gd := wmP (i := 1338) (by decide +kernel) rfl
theorem wm_1339 : Cond.selects "WeekBoats" ⟨"WeekBoats", "dock", "(I)I"⟩ ⟨"WeekBoats", "dock", "(I)I"⟩ ∈ lw_gd := wmP (i := 1339) (by decide +kernel) rfl
theorem wm_1340 : Cond.code ⟨"WeekBoats", "dock", "(I)I"⟩ prog_1_method_39_code 2 (some .int) ∈ lw_gd := wmP (i := 1340) (by decide +kernel) rfl
theorem wm_1341 : Cond.methodLink "WeekBoats" 299 ⟨"WeekBoats$Yard", "orderDock", "()V"⟩ ∈ lw_gd := wmP (i := 1341) (by decide +kernel) rfl
theorem wm_1342 : Cond.instanceMethod ⟨"WeekBoats$Yard", "orderDock", "()V"⟩ ∈ lw_gd := wmP (i := 1342) (by decide +kernel) rfl
theorem wm_1343 : Cond.selects "WeekBoats$Yard" ⟨"WeekBoats$Yard", "orderDock", "()V"⟩ ⟨"WeekBoats$Yard", "orderDock", "()V"⟩ ∈ lw_gd := wmP (i := 1343) (by decide +kernel) rfl
theorem wm_1344 : Cond.code ⟨"WeekBoats$Yard", "orderDock", "()V"⟩ prog_12_method_4_code 3 none ∈ lw_gd := wmP (i := 1344) (by decide +kernel) rfl
theorem wm_1345 : Cond.methodLink "WeekBoats$Yard" 50 ⟨"WeekBoats$Yard", "chooseNext", "(I)V"⟩ ∈ lw_gd := wmP (i := 1345) (by decide +kernel) rfl
theorem wm_1347 : Cond.instanceMethod ⟨"WeekBoats$Yard", "chooseNext", "(I)V"⟩ ∈ lw_gd := wmP (i := 1347) (by decide +kernel) rfl
theorem wm_1348 : Cond.code ⟨"WeekBoats$Yard", "chooseNext", "(I)V"⟩ prog_12_method_5_code 7 none ∈ lw_gd := wmP (i := 1348) (by decide +kernel) rfl
theorem wm_1349 : Cond.methodLink "WeekBoats$Yard" 54 ⟨"WeekBoats$Yard", "isBetter", "(III)Z"⟩ ∈ lw_gd := wmP (i := 1349) (by decide +kernel) rfl
theorem wm_1351 : Cond.instanceMethod ⟨"WeekBoats$Yard", "isBetter", "(III)Z"⟩ ∈ lw_gd := wmP (i := 1351) (by decide +kernel) rfl
theorem wm_1352 : Cond.code ⟨"WeekBoats$Yard", "isBetter", "(III)Z"⟩ prog_12_method_6_code 4 (some .boolean) ∈ lw_gd := wmP (i := 1352) (by decide +kernel) rfl
theorem wm_1353 : Cond.methodLink "WeekBoats" 311 ⟨"WeekBoats$Yard", "dockedAt", "(I)I"⟩ ∈ lw_gd := wmP (i := 1353) (by decide +kernel) rfl
theorem wm_1354 : Cond.instanceMethod ⟨"WeekBoats$Yard", "dockedAt", "(I)I"⟩ ∈ lw_gd := wmP (i := 1354) (by decide +kernel) rfl
theorem wm_1355 : Cond.selects "WeekBoats$Yard" ⟨"WeekBoats$Yard", "dockedAt", "(I)I"⟩ ⟨"WeekBoats$Yard", "dockedAt", "(I)I"⟩ ∈ lw_gd := wmP (i := 1355) (by decide +kernel) rfl
theorem wm_1356 : Cond.code ⟨"WeekBoats$Yard", "dockedAt", "(I)I"⟩ prog_12_method_7_code 4 (some .int) ∈ lw_gd := wmP (i := 1356) (by decide +kernel) rfl
theorem wm_1358 : Cond.methodLink "WeekBoatsLaw" 143 ⟨"WeekBoats", "job", "(I)I"⟩ ∈ lw_gd := wmP (i := 1358) (by decide +kernel) rfl
theorem wm_1359 : Cond.instanceMethod ⟨"WeekBoats", "job", "(I)I"⟩ ∈ lw_gd := wmP (i := 1359) (by decide +kernel) rfl
theorem wm_1360 : Cond.selects "WeekBoats" ⟨"WeekBoats", "job", "(I)I"⟩ ⟨"WeekBoats", "job", "(I)I"⟩ ∈ lw_gd := wmP (i := 1360) (by decide +kernel) rfl
theorem wm_1361 : Cond.code ⟨"WeekBoats", "job", "(I)I"⟩ prog_1_method_40_code 2 (some .int) ∈ lw_gd := wmP (i := 1361) (by decide +kernel) rfl
theorem wm_1362 : Cond.methodLink "WeekBoats" 317 ⟨"WeekBoats$Yard", "addJob", "(I)I"⟩ ∈ lw_gd := wmP (i := 1362) (by decide +kernel) rfl
theorem wm_1363 : Cond.instanceMethod ⟨"WeekBoats$Yard", "addJob", "(I)I"⟩ ∈ lw_gd := wmP (i := 1363) (by decide +kernel) rfl
theorem wm_1364 : Cond.selects "WeekBoats$Yard" ⟨"WeekBoats$Yard", "addJob", "(I)I"⟩ ⟨"WeekBoats$Yard", "addJob", "(I)I"⟩ ∈ lw_gd := wmP (i := 1364) (by decide +kernel) rfl
theorem wm_1365 : Cond.code ⟨"WeekBoats$Yard", "addJob", "(I)I"⟩ prog_12_method_8_code 2 (some .int) ∈ lw_gd := wmP (i := 1365) (by decide +kernel) rfl
theorem wm_1366 : Cond.methodLink "WeekBoatsLaw" 147 ⟨"WeekBoats", "turned", "(II)I"⟩ ∈ lw_gd := wmP (i := 1366) (by decide +kernel) rfl
theorem wm_1367 : Cond.instanceMethod ⟨"WeekBoats", "turned", "(II)I"⟩ ∈ lw_gd := wmP (i := 1367) (by decide +kernel) rfl
theorem wm_1368 : Cond.selects "WeekBoats" ⟨"WeekBoats", "turned", "(II)I"⟩ ⟨"WeekBoats", "turned", "(II)I"⟩ ∈ lw_gd := wmP (i := 1368) (by decide +kernel) rfl
theorem wm_1369 : Cond.code ⟨"WeekBoats", "turned", "(II)I"⟩ prog_1_method_41_code 3 (some .int) ∈ lw_gd := wmP (i := 1369) (by decide +kernel) rfl
theorem wm_1370 : Cond.methodLink "WeekBoats" 320 ⟨"WeekBoats$Yard", "workInOrder", "(I)V"⟩ ∈ lw_gd := wmP (i := 1370) (by decide +kernel) rfl
theorem wm_1371 : Cond.instanceMethod ⟨"WeekBoats$Yard", "workInOrder", "(I)V"⟩ ∈ lw_gd := wmP (i := 1371) (by decide +kernel) rfl
theorem wm_1372 : Cond.selects "WeekBoats$Yard" ⟨"WeekBoats$Yard", "workInOrder", "(I)V"⟩ ⟨"WeekBoats$Yard", "workInOrder", "(I)V"⟩ ∈ lw_gd := wmP (i := 1372) (by decide +kernel) rfl
theorem wm_1373 : Cond.code ⟨"WeekBoats$Yard", "workInOrder", "(I)V"⟩ prog_12_method_9_code 5 none ∈ lw_gd := wmP (i := 1373) (by decide +kernel) rfl
theorem wm_1374 : Cond.methodLink "WeekBoats$Yard" 64 ⟨"java/util/Arrays", "fill", "([II)V"⟩ ∈ lw_gd := wmP (i := 1374) (by decide +kernel) rfl
theorem wm_1375 : Cond.methodLink "WeekBoats$Yard" 76 ⟨"java/lang/Math", "max", "(II)I"⟩ ∈ lw_gd := wmP (i := 1375) (by decide +kernel) rfl
theorem wm_1376 : Cond.methodLink "WeekBoats" 329 ⟨"WeekBoats$Yard", "shareBest", "(I)V"⟩ ∈ lw_gd := wmP (i := 1376) (by decide +kernel) rfl
theorem wm_1377 : Cond.instanceMethod ⟨"WeekBoats$Yard", "shareBest", "(I)V"⟩ ∈ lw_gd := wmP (i := 1377) (by decide +kernel) rfl
theorem wm_1378 : Cond.selects "WeekBoats$Yard" ⟨"WeekBoats$Yard", "shareBest", "(I)V"⟩ ⟨"WeekBoats$Yard", "shareBest", "(I)V"⟩ ∈ lw_gd := wmP (i := 1378) (by decide +kernel) rfl
theorem wm_1379 : Cond.code ⟨"WeekBoats$Yard", "shareBest", "(I)V"⟩ prog_12_method_10_code 2 none ∈ lw_gd := wmP (i := 1379) (by decide +kernel) rfl
theorem wm_1380 : Cond.methodLink "WeekBoats$Yard" 85 ⟨"WeekBoats$Yard", "shareNext", "(LWeekBoats$Yard;III)V"⟩ ∈ lw_gd := wmP (i := 1380) (by decide +kernel) rfl
theorem wm_1381 : Cond.static ⟨"WeekBoats$Yard", "shareNext", "(LWeekBoats$Yard;III)V"⟩ ∈ lw_gd := wmP (i := 1381) (by decide +kernel) rfl
theorem wm_1382 : Cond.code ⟨"WeekBoats$Yard", "shareNext", "(LWeekBoats$Yard;III)V"⟩ prog_12_method_11_code 5 none ∈ lw_gd := wmP (i := 1382) (by decide +kernel) rfl
theorem wm_1383 : Cond.methodLink "WeekBoats$Yard" 89 ⟨"java/lang/System", "arraycopy", "(Ljava/lang/Object;ILjava/lang/Object;II)V"⟩ ∈ lw_gd := wmP (i := 1383) (by decide +kernel) rfl
theorem wm_1384 : Cond.methodLink "WeekBoatsLaw" 151 ⟨"WeekBoats", "weight", "(II)Z"⟩ ∈ lw_gd := wmP (i := 1384) (by decide +kernel) rfl
theorem wm_1385 : Cond.instanceMethod ⟨"WeekBoats", "weight", "(II)Z"⟩ ∈ lw_gd := wmP (i := 1385) (by decide +kernel) rfl
theorem wm_1386 : Cond.selects "WeekBoats" ⟨"WeekBoats", "weight", "(II)Z"⟩ ⟨"WeekBoats", "weight", "(II)Z"⟩ ∈ lw_gd := wmP (i := 1386) (by decide +kernel) rfl
theorem wm_1387 : Cond.code ⟨"WeekBoats", "weight", "(II)Z"⟩ prog_1_method_42_code 3 (some .boolean) ∈ lw_gd := wmP (i := 1387) (by decide +kernel) rfl
theorem wm_1388 : Cond.methodLink "WeekBoatsLaw" 156 ⟨"WeekBoats", "van", "(I)I"⟩ ∈ lw_gd := wmP (i := 1388) (by decide +kernel) rfl
theorem wm_1389 : Cond.instanceMethod ⟨"WeekBoats", "van", "(I)I"⟩ ∈ lw_gd := wmP (i := 1389) (by decide +kernel) rfl
theorem wm_1390 : Cond.selects "WeekBoats" ⟨"WeekBoats", "van", "(I)I"⟩ ⟨"WeekBoats", "van", "(I)I"⟩ ∈ lw_gd := wmP (i := 1390) (by decide +kernel) rfl
theorem wm_1391 : Cond.code ⟨"WeekBoats", "van", "(I)I"⟩ prog_1_method_43_code 3 (some .int) ∈ lw_gd := wmP (i := 1391) (by decide +kernel) rfl
theorem wm_1392 : Cond.methodLink "WeekBoats" 341 ⟨"WeekBoats$Vans", "measure", "()V"⟩ ∈ lw_gd := wmP (i := 1392) (by decide +kernel) rfl
theorem wm_1393 : Cond.instanceMethod ⟨"WeekBoats$Vans", "measure", "()V"⟩ ∈ lw_gd := wmP (i := 1393) (by decide +kernel) rfl
theorem wm_1394 : Cond.selects "WeekBoats$Vans" ⟨"WeekBoats$Vans", "measure", "()V"⟩ ⟨"WeekBoats$Vans", "measure", "()V"⟩ ∈ lw_gd := wmP (i := 1394) (by decide +kernel) rfl
theorem wm_1395 : Cond.code ⟨"WeekBoats$Vans", "measure", "()V"⟩ prog_10_method_2_code 2 none ∈ lw_gd := wmP (i := 1395) (by decide +kernel) rfl
theorem wm_1396 : Cond.methodLink "WeekBoats" 344 ⟨"WeekBoats$Vans", "bestPoint", "()I"⟩ ∈ lw_gd := wmP (i := 1396) (by decide +kernel) rfl
theorem wm_1397 : Cond.instanceMethod ⟨"WeekBoats$Vans", "bestPoint", "()I"⟩ ∈ lw_gd := wmP (i := 1397) (by decide +kernel) rfl
theorem wm_1398 : Cond.selects "WeekBoats$Vans" ⟨"WeekBoats$Vans", "bestPoint", "()I"⟩ ⟨"WeekBoats$Vans", "bestPoint", "()I"⟩ ∈ lw_gd := wmP (i := 1398) (by decide +kernel) rfl
theorem wm_1399 : Cond.code ⟨"WeekBoats$Vans", "bestPoint", "()I"⟩ prog_10_method_5_code 3 (some .int) ∈ lw_gd := wmP (i := 1399) (by decide +kernel) rfl
theorem wm_1400 : Cond.methodLink "WeekBoats$Vans" 58 ⟨"WeekBoats$Vans", "sumFrom", "(II)I"⟩ ∈ lw_gd := wmP (i := 1400) (by decide +kernel) rfl
theorem wm_1401 : Cond.instanceMethod ⟨"WeekBoats$Vans", "sumFrom", "(II)I"⟩ ∈ lw_gd := wmP (i := 1401) (by decide +kernel) rfl
theorem wm_1402 : Cond.selects "WeekBoats$Vans" ⟨"WeekBoats$Vans", "sumFrom", "(II)I"⟩ ⟨"WeekBoats$Vans", "sumFrom", "(II)I"⟩ ∈ lw_gd := wmP (i := 1402) (by decide +kernel) rfl
theorem wm_1403 : Cond.code ⟨"WeekBoats$Vans", "sumFrom", "(II)I"⟩ prog_10_method_4_code 5 (some .int) ∈ lw_gd := wmP (i := 1403) (by decide +kernel) rfl
theorem wm_1404 : Cond.methodLink "WeekBoats$Vans" 51 ⟨"WeekBoats$Vans", "minutes", "(II)I"⟩ ∈ lw_gd := wmP (i := 1404) (by decide +kernel) rfl
theorem wm_1406 : Cond.instanceMethod ⟨"WeekBoats$Vans", "minutes", "(II)I"⟩ ∈ lw_gd := wmP (i := 1406) (by decide +kernel) rfl
theorem wm_1407 : Cond.code ⟨"WeekBoats$Vans", "minutes", "(II)I"⟩ prog_10_method_3_code 3 (some .int) ∈ lw_gd := wmP (i := 1407) (by decide +kernel) rfl
theorem wm_1408 : Cond.methodLink "WeekBoats$Vans" 45 ⟨"java/lang/Math", "abs", "(I)I"⟩ ∈ lw_gd := wmP (i := 1408) (by decide +kernel) rfl
theorem wm_1409 : Cond.methodLink "WeekBoats$Vans" 55 ⟨"java/lang/Math", "min", "(II)I"⟩ ∈ lw_gd := wmP (i := 1409) (by decide +kernel) rfl
theorem wm_1410 : Cond.methodLink "WeekBoats" 347 ⟨"WeekBoats$Vans", "sumFrom", "(II)I"⟩ ∈ lw_gd := wmP (i := 1410) (by decide +kernel) rfl
theorem wm_1411 : Cond.methodLink "WeekBoats" 350 ⟨"WeekBoats$Vans", "worstFrom", "(I)I"⟩ ∈ lw_gd := wmP (i := 1411) (by decide +kernel) rfl
theorem wm_1412 : Cond.instanceMethod ⟨"WeekBoats$Vans", "worstFrom", "(I)I"⟩ ∈ lw_gd := wmP (i := 1412) (by decide +kernel) rfl
theorem wm_1413 : Cond.selects "WeekBoats$Vans" ⟨"WeekBoats$Vans", "worstFrom", "(I)I"⟩ ⟨"WeekBoats$Vans", "worstFrom", "(I)I"⟩ ∈ lw_gd := wmP (i := 1413) (by decide +kernel) rfl
theorem wm_1414 : Cond.code ⟨"WeekBoats$Vans", "worstFrom", "(I)I"⟩ prog_10_method_6_code 4 (some .int) ∈ lw_gd := wmP (i := 1414) (by decide +kernel) rfl
theorem wm_1415 : Cond.methodLink "WeekBoats$Vans" 61 ⟨"java/lang/Math", "max", "(II)I"⟩ ∈ lw_gd := wmP (i := 1415) (by decide +kernel) rfl
theorem wm_1416 : Cond.methodLink "WeekBoatsLaw" 160 ⟨"WeekBoats", "vans", "(I)I"⟩ ∈ lw_gd := wmP (i := 1416) (by decide +kernel) rfl
theorem wm_1417 : Cond.instanceMethod ⟨"WeekBoats", "vans", "(I)I"⟩ ∈ lw_gd := wmP (i := 1417) (by decide +kernel) rfl
theorem wm_1418 : Cond.selects "WeekBoats" ⟨"WeekBoats", "vans", "(I)I"⟩ ⟨"WeekBoats", "vans", "(I)I"⟩ ∈ lw_gd := wmP (i := 1418) (by decide +kernel) rfl
theorem wm_1419 : Cond.code ⟨"WeekBoats", "vans", "(I)I"⟩ prog_1_method_44_code 2 (some .int) ∈ lw_gd := wmP (i := 1419) (by decide +kernel) rfl
theorem wm_1420 : Cond.methodLink "WeekBoats" 353 ⟨"WeekBoats$Vans", "findCouple", "()V"⟩ ∈ lw_gd := wmP (i := 1420) (by decide +kernel) rfl
theorem wm_1421 : Cond.instanceMethod ⟨"WeekBoats$Vans", "findCouple", "()V"⟩ ∈ lw_gd := wmP (i := 1421) (by decide +kernel) rfl
theorem wm_1422 : Cond.selects "WeekBoats$Vans" ⟨"WeekBoats$Vans", "findCouple", "()V"⟩ ⟨"WeekBoats$Vans", "findCouple", "()V"⟩ ∈ lw_gd := wmP (i := 1422) (by decide +kernel) rfl
theorem wm_1423 : Cond.code ⟨"WeekBoats$Vans", "findCouple", "()V"⟩ prog_10_method_7_code 4 none ∈ lw_gd := wmP (i := 1423) (by decide +kernel) rfl
theorem wm_1424 : Cond.methodLink "WeekBoatsLaw" 164 ⟨"WeekBoats", "call", "(III)I"⟩ ∈ lw_gd := wmP (i := 1424) (by decide +kernel) rfl
theorem wm_1425 : Cond.instanceMethod ⟨"WeekBoats", "call", "(III)I"⟩ ∈ lw_gd := wmP (i := 1425) (by decide +kernel) rfl
theorem wm_1426 : Cond.selects "WeekBoats" ⟨"WeekBoats", "call", "(III)I"⟩ ⟨"WeekBoats", "call", "(III)I"⟩ ∈ lw_gd := wmP (i := 1426) (by decide +kernel) rfl
theorem wm_1427 : Cond.code ⟨"WeekBoats", "call", "(III)I"⟩ prog_1_method_45_code 4 (some .int) ∈ lw_gd := wmP (i := 1427) (by decide +kernel) rfl
theorem wm_1428 : Cond.methodLink "WeekBoats" 365 ⟨"WeekBoats$Vans", "addCall", "(III)I"⟩ ∈ lw_gd := wmP (i := 1428) (by decide +kernel) rfl
theorem wm_1429 : Cond.instanceMethod ⟨"WeekBoats$Vans", "addCall", "(III)I"⟩ ∈ lw_gd := wmP (i := 1429) (by decide +kernel) rfl
theorem wm_1430 : Cond.selects "WeekBoats$Vans" ⟨"WeekBoats$Vans", "addCall", "(III)I"⟩ ⟨"WeekBoats$Vans", "addCall", "(III)I"⟩ ∈ lw_gd := wmP (i := 1430) (by decide +kernel) rfl
theorem wm_1431 : Cond.code ⟨"WeekBoats$Vans", "addCall", "(III)I"⟩ prog_10_method_8_code 4 (some .int) ∈ lw_gd := wmP (i := 1431) (by decide +kernel) rfl
theorem wm_1432 : Cond.methodLink "WeekBoatsLaw" 168 ⟨"WeekBoats", "taken", "(III)I"⟩ ∈ lw_gd := wmP (i := 1432) (by decide +kernel) rfl
theorem wm_1433 : Cond.instanceMethod ⟨"WeekBoats", "taken", "(III)I"⟩ ∈ lw_gd := wmP (i := 1433) (by decide +kernel) rfl
theorem wm_1434 : Cond.selects "WeekBoats" ⟨"WeekBoats", "taken", "(III)I"⟩ ⟨"WeekBoats", "taken", "(III)I"⟩ ∈ lw_gd := wmP (i := 1434) (by decide +kernel) rfl
theorem wm_1435 : Cond.code ⟨"WeekBoats", "taken", "(III)I"⟩ prog_1_method_46_code 4 (some .int) ∈ lw_gd := wmP (i := 1435) (by decide +kernel) rfl
theorem wm_1436 : Cond.methodLink "WeekBoats" 368 ⟨"WeekBoats$Vans", "takeCalls", "(II)V"⟩ ∈ lw_gd := wmP (i := 1436) (by decide +kernel) rfl
theorem wm_1437 : Cond.instanceMethod ⟨"WeekBoats$Vans", "takeCalls", "(II)V"⟩ ∈ lw_gd := wmP (i := 1437) (by decide +kernel) rfl
theorem wm_1438 : Cond.selects "WeekBoats$Vans" ⟨"WeekBoats$Vans", "takeCalls", "(II)V"⟩ ⟨"WeekBoats$Vans", "takeCalls", "(II)V"⟩ ∈ lw_gd := wmP (i := 1438) (by decide +kernel) rfl
theorem wm_1439 : Cond.code ⟨"WeekBoats$Vans", "takeCalls", "(II)V"⟩ prog_10_method_9_code 6 none ∈ lw_gd := wmP (i := 1439) (by decide +kernel) rfl
theorem wm_1440 : Cond.methodLink "WeekBoats$Vans" 74 ⟨"java/util/Arrays", "fill", "([II)V"⟩ ∈ lw_gd := wmP (i := 1440) (by decide +kernel) rfl
theorem wm_1441 : Cond.methodLink "WeekBoats$Vans" 89 ⟨"WeekBoats$Vans", "comesAt", "(II)I"⟩ ∈ lw_gd := wmP (i := 1441) (by decide +kernel) rfl
theorem wm_1443 : Cond.instanceMethod ⟨"WeekBoats$Vans", "comesAt", "(II)I"⟩ ∈ lw_gd := wmP (i := 1443) (by decide +kernel) rfl
theorem wm_1444 : Cond.code ⟨"WeekBoats$Vans", "comesAt", "(II)I"⟩ prog_10_method_10_code 3 (some .int) ∈ lw_gd := wmP (i := 1444) (by decide +kernel) rfl
theorem wm_1445 : Cond.methodLink "WeekBoats" 381 ⟨"WeekBoats$Vans", "takerOf", "(I)I"⟩ ∈ lw_gd := wmP (i := 1445) (by decide +kernel) rfl
theorem wm_1446 : Cond.instanceMethod ⟨"WeekBoats$Vans", "takerOf", "(I)I"⟩ ∈ lw_gd := wmP (i := 1446) (by decide +kernel) rfl
theorem wm_1447 : Cond.selects "WeekBoats$Vans" ⟨"WeekBoats$Vans", "takerOf", "(I)I"⟩ ⟨"WeekBoats$Vans", "takerOf", "(I)I"⟩ ∈ lw_gd := wmP (i := 1447) (by decide +kernel) rfl
theorem wm_1448 : Cond.code ⟨"WeekBoats$Vans", "takerOf", "(I)I"⟩ prog_10_method_11_code 2 (some .int) ∈ lw_gd := wmP (i := 1448) (by decide +kernel) rfl
theorem wm_1450 : Cond.methodLink "WeekBoatsLaw" 172 ⟨"WeekBoats", "left", "(IIIII)I"⟩ ∈ lw_gd := wmP (i := 1450) (by decide +kernel) rfl
theorem wm_1451 : Cond.instanceMethod ⟨"WeekBoats", "left", "(IIIII)I"⟩ ∈ lw_gd := wmP (i := 1451) (by decide +kernel) rfl
theorem wm_1452 : Cond.selects "WeekBoats" ⟨"WeekBoats", "left", "(IIIII)I"⟩ ⟨"WeekBoats", "left", "(IIIII)I"⟩ ∈ lw_gd := wmP (i := 1452) (by decide +kernel) rfl
theorem wm_1453 : Cond.code ⟨"WeekBoats", "left", "(IIIII)I"⟩ prog_1_method_47_code 7 (some .int) ∈ lw_gd := wmP (i := 1453) (by decide +kernel) rfl
theorem wm_1454 : Cond.methodLink "WeekBoats" 384 ⟨"WeekBoats", "isWeather", "(IIII)Z"⟩ ∈ lw_gd := wmP (i := 1454) (by decide +kernel) rfl
theorem wm_1455 : Cond.static ⟨"WeekBoats", "isWeather", "(IIII)Z"⟩ ∈ lw_gd := wmP (i := 1455) (by decide +kernel) rfl
theorem wm_1456 : Cond.code ⟨"WeekBoats", "isWeather", "(IIII)Z"⟩ prog_1_method_48_code 4 (some .boolean) ∈ lw_gd := wmP (i := 1456) (by decide +kernel) rfl
theorem wm_1457 : Cond.methodLink "WeekBoats" 387 ⟨"WeekBoats$Rain", "start", "(II)V"⟩ ∈ lw_gd := wmP (i := 1457) (by decide +kernel) rfl
theorem wm_1458 : Cond.instanceMethod ⟨"WeekBoats$Rain", "start", "(II)V"⟩ ∈ lw_gd := wmP (i := 1458) (by decide +kernel) rfl
theorem wm_1459 : Cond.selects "WeekBoats$Rain" ⟨"WeekBoats$Rain", "start", "(II)V"⟩ ⟨"WeekBoats$Rain", "start", "(II)V"⟩ ∈ lw_gd := wmP (i := 1459) (by decide +kernel) rfl
theorem wm_1460 : Cond.code ⟨"WeekBoats$Rain", "start", "(II)V"⟩ prog_7_method_2_code 3 none ∈ lw_gd := wmP (i := 1460) (by decide +kernel) rfl
theorem wm_1461 : Cond.methodLink "WeekBoats$Rain" 18 ⟨"java/util/Arrays", "fill", "([II)V"⟩ ∈ lw_gd := wmP (i := 1461) (by decide +kernel) rfl
theorem wm_1462 : Cond.constant "WeekBoats$Rain" 24 1000000 ∈ lw_gd := wmP (i := 1462) (by decide +kernel) rfl
theorem wm_1463 : Cond.methodLink "WeekBoats" 390 ⟨"WeekBoats$Rain", "passDay", "(IIII)V"⟩ ∈ lw_gd := wmP (i := 1463) (by decide +kernel) rfl
theorem wm_1464 : Cond.instanceMethod ⟨"WeekBoats$Rain", "passDay", "(IIII)V"⟩ ∈ lw_gd := wmP (i := 1464) (by decide +kernel) rfl
theorem wm_1465 : Cond.selects "WeekBoats$Rain" ⟨"WeekBoats$Rain", "passDay", "(IIII)V"⟩ ⟨"WeekBoats$Rain", "passDay", "(IIII)V"⟩ ∈ lw_gd := wmP (i := 1465) (by decide +kernel) rfl
theorem wm_1466 : Cond.code ⟨"WeekBoats$Rain", "passDay", "(IIII)V"⟩ prog_7_method_3_code 8 none ∈ lw_gd := wmP (i := 1466) (by decide +kernel) rfl
theorem wm_1467 : Cond.methodLink "WeekBoats$Rain" 29 ⟨"java/lang/Math", "max", "(II)I"⟩ ∈ lw_gd := wmP (i := 1467) (by decide +kernel) rfl
theorem wm_1468 : Cond.methodLink "WeekBoats$Rain" 35 ⟨"java/lang/Math", "min", "(II)I"⟩ ∈ lw_gd := wmP (i := 1468) (by decide +kernel) rfl
theorem wm_1469 : Cond.methodLink "WeekBoatsLaw" 176 ⟨"WeekBoats", "shuts", "(IIII)I"⟩ ∈ lw_gd := wmP (i := 1469) (by decide +kernel) rfl
theorem wm_1470 : Cond.instanceMethod ⟨"WeekBoats", "shuts", "(IIII)I"⟩ ∈ lw_gd := wmP (i := 1470) (by decide +kernel) rfl
theorem wm_1471 : Cond.selects "WeekBoats" ⟨"WeekBoats", "shuts", "(IIII)I"⟩ ⟨"WeekBoats", "shuts", "(IIII)I"⟩ ∈ lw_gd := wmP (i := 1471) (by decide +kernel) rfl
theorem wm_1472 : Cond.code ⟨"WeekBoats", "shuts", "(IIII)I"⟩ prog_1_method_49_code 6 (some .int) ∈ lw_gd := wmP (i := 1472) (by decide +kernel) rfl
theorem wm_1473 : Cond.constant "WeekBoats" 397 500000 ∈ lw_gd := wmP (i := 1473) (by decide +kernel) rfl
theorem wm_1474 : Cond.methodLink "WeekBoatsLaw" 180 ⟨"WeekBoats", "price", "(IIZ)I"⟩ ∈ lw_gd := wmP (i := 1474) (by decide +kernel) rfl
theorem wm_1475 : Cond.instanceMethod ⟨"WeekBoats", "price", "(IIZ)I"⟩ ∈ lw_gd := wmP (i := 1475) (by decide +kernel) rfl
theorem wm_1476 : Cond.selects "WeekBoats" ⟨"WeekBoats", "price", "(IIZ)I"⟩ ⟨"WeekBoats", "price", "(IIZ)I"⟩ ∈ lw_gd := wmP (i := 1476) (by decide +kernel) rfl
theorem wm_1477 : Cond.code ⟨"WeekBoats", "price", "(IIZ)I"⟩ prog_1_method_50_code 5 (some .int) ∈ lw_gd := wmP (i := 1477) (by decide +kernel) rfl
theorem wm_1478 : Cond.methodLink "WeekBoats" 398 ⟨"WeekBoats$Boats", "priceLine", "(IIZ)I"⟩ ∈ lw_gd := wmP (i := 1478) (by decide +kernel) rfl
theorem wm_1479 : Cond.methodLink "WeekBoats" 402 ⟨"WeekBoats$Rules", "valueOf", "(I)I"⟩ ∈ lw_gd := wmP (i := 1479) (by decide +kernel) rfl
theorem wm_1480 : Cond.methodLink "WeekBoatsLaw" 185 ⟨"WeekBoats", "held", "(IIII)I"⟩ ∈ lw_gd := wmP (i := 1480) (by decide +kernel) rfl
theorem wm_1481 : Cond.instanceMethod ⟨"WeekBoats", "held", "(IIII)I"⟩ ∈ lw_gd := wmP (i := 1481) (by decide +kernel) rfl
theorem wm_1482 : Cond.selects "WeekBoats" ⟨"WeekBoats", "held", "(IIII)I"⟩ ⟨"WeekBoats", "held", "(IIII)I"⟩ ∈ lw_gd := wmP (i := 1482) (by decide +kernel) rfl
theorem wm_1483 : Cond.code ⟨"WeekBoats", "held", "(IIII)I"⟩ prog_1_method_51_code 6 (some .int) ∈ lw_gd := wmP (i := 1483) (by decide +kernel) rfl
theorem wm_1484 : Cond.methodLink "WeekBoats" 405 ⟨"WeekBoats$Boats", "holdLine", "(IIII)I"⟩ ∈ lw_gd := wmP (i := 1484) (by decide +kernel) rfl
theorem wm_1485 : Cond.instanceMethod ⟨"WeekBoats$Boats", "holdLine", "(IIII)I"⟩ ∈ lw_gd := wmP (i := 1485) (by decide +kernel) rfl
theorem wm_1486 : Cond.selects "WeekBoats$Boats" ⟨"WeekBoats$Boats", "holdLine", "(IIII)I"⟩ ⟨"WeekBoats$Boats", "holdLine", "(IIII)I"⟩ ∈ lw_gd := wmP (i := 1486) (by decide +kernel) rfl
theorem wm_1487 : Cond.code ⟨"WeekBoats$Boats", "holdLine", "(IIII)I"⟩ prog_2_method_14_code 5 (some .int) ∈ lw_gd := wmP (i := 1487) (by decide +kernel) rfl
theorem wm_1488 : Cond.methodLink "WeekBoatsLaw" 189 ⟨"WeekBoats", "look", "(I)I"⟩ ∈ lw_gd := wmP (i := 1488) (by decide +kernel) rfl
theorem wm_1489 : Cond.instanceMethod ⟨"WeekBoats", "look", "(I)I"⟩ ∈ lw_gd := wmP (i := 1489) (by decide +kernel) rfl
theorem wm_1490 : Cond.selects "WeekBoats" ⟨"WeekBoats", "look", "(I)I"⟩ ⟨"WeekBoats", "look", "(I)I"⟩ ∈ lw_gd := wmP (i := 1490) (by decide +kernel) rfl
theorem wm_1491 : Cond.code ⟨"WeekBoats", "look", "(I)I"⟩ prog_1_method_52_code 2 (some .int) ∈ lw_gd := wmP (i := 1491) (by decide +kernel) rfl
theorem wm_1494 : Cond.methodLink "WeekBoatsLaw" 12 ⟨"WeekBoatsModel", "<init>", "()V"⟩ ∈ lw_gd := wmP (i := 1494) (by decide +kernel) rfl
theorem wm_1495 : Cond.instanceMethod ⟨"WeekBoatsModel", "<init>", "()V"⟩ ∈ lw_gd := wmP (i := 1495) (by decide +kernel) rfl
theorem wm_1497 : Cond.methodLink "WeekBoatsModel" 7 ⟨"java/lang/Object", "<init>", "()V"⟩ ∈ lw_gd := wmP (i := 1497) (by decide +kernel) rfl
theorem wm_1498 : Cond.fieldLink "WeekBoatsModel" 13 "WeekBoatsModel" "miles" "[I" ∈ lw_gd := wmP (i := 1498) (by decide +kernel) rfl
theorem wm_1499 : Cond.fieldLink "WeekBoatsModel" 17 "WeekBoatsModel" "locks" "[I" ∈ lw_gd := wmP (i := 1499) (by decide +kernel) rfl
theorem wm_1500 : Cond.fieldLink "WeekBoatsModel" 20 "WeekBoatsModel" "road" "[I" ∈ lw_gd := wmP (i := 1500) (by decide +kernel) rfl
theorem wm_1501 : Cond.fieldLink "WeekBoatsModel" 23 "WeekBoatsModel" "stopAt" "[I" ∈ lw_gd := wmP (i := 1501) (by decide +kernel) rfl
theorem wm_1502 : Cond.fieldLink "WeekBoatsModel" 26 "WeekBoatsModel" "stopFrom" "[I" ∈ lw_gd := wmP (i := 1502) (by decide +kernel) rfl
theorem wm_1503 : Cond.fieldLink "WeekBoatsModel" 29 "WeekBoatsModel" "stopTo" "[I" ∈ lw_gd := wmP (i := 1503) (by decide +kernel) rfl
theorem wm_1504 : Cond.fieldLink "WeekBoatsModel" 32 "WeekBoatsModel" "berthsOf" "[I" ∈ lw_gd := wmP (i := 1504) (by decide +kernel) rfl
theorem wm_1505 : Cond.fieldLink "WeekBoatsModel" 35 "WeekBoatsModel" "ageOf" "[I" ∈ lw_gd := wmP (i := 1505) (by decide +kernel) rfl
theorem wm_1506 : Cond.fieldLink "WeekBoatsModel" 38 "WeekBoatsModel" "homeOf" "[I" ∈ lw_gd := wmP (i := 1506) (by decide +kernel) rfl
theorem wm_1507 : Cond.fieldLink "WeekBoatsModel" 41 "WeekBoatsModel" "taughtOf" "[I" ∈ lw_gd := wmP (i := 1507) (by decide +kernel) rfl
theorem wm_1508 : Cond.fieldLink "WeekBoatsModel" 44 "WeekBoatsModel" "water" "I" ∈ lw_gd := wmP (i := 1508) (by decide +kernel) rfl
theorem wm_1509 : Cond.fieldLink "WeekBoatsModel" 232 "WeekBoatsModel" "stops" "I" ∈ lw_gd := wmP (i := 1509) (by decide +kernel) rfl
theorem wm_1510 : Cond.fieldLink "WeekBoatsModel" 235 "WeekBoatsModel" "boats" "I" ∈ lw_gd := wmP (i := 1510) (by decide +kernel) rfl
theorem wm_1511 : Cond.fieldLink "WeekBoatsModel" 48 "WeekBoatsModel" "lineSort" "[I" ∈ lw_gd := wmP (i := 1511) (by decide +kernel) rfl
theorem wm_1512 : Cond.fieldLink "WeekBoatsModel" 51 "WeekBoatsModel" "lineOne" "[I" ∈ lw_gd := wmP (i := 1512) (by decide +kernel) rfl
theorem wm_1513 : Cond.fieldLink "WeekBoatsModel" 54 "WeekBoatsModel" "lineTwo" "[I" ∈ lw_gd := wmP (i := 1513) (by decide +kernel) rfl
theorem wm_1514 : Cond.fieldLink "WeekBoatsModel" 57 "WeekBoatsModel" "from" "[I" ∈ lw_gd := wmP (i := 1514) (by decide +kernel) rfl
theorem wm_1515 : Cond.fieldLink "WeekBoatsModel" 60 "WeekBoatsModel" "mid" "[I" ∈ lw_gd := wmP (i := 1515) (by decide +kernel) rfl
theorem wm_1516 : Cond.fieldLink "WeekBoatsModel" 63 "WeekBoatsModel" "to" "[I" ∈ lw_gd := wmP (i := 1516) (by decide +kernel) rfl
theorem wm_1517 : Cond.fieldLink "WeekBoatsModel" 66 "WeekBoatsModel" "step" "[I" ∈ lw_gd := wmP (i := 1517) (by decide +kernel) rfl
theorem wm_1518 : Cond.fieldLink "WeekBoatsModel" 69 "WeekBoatsModel" "freshSort" "[I" ∈ lw_gd := wmP (i := 1518) (by decide +kernel) rfl
theorem wm_1519 : Cond.fieldLink "WeekBoatsModel" 72 "WeekBoatsModel" "freshOne" "[I" ∈ lw_gd := wmP (i := 1519) (by decide +kernel) rfl
theorem wm_1520 : Cond.fieldLink "WeekBoatsModel" 75 "WeekBoatsModel" "freshTwo" "[I" ∈ lw_gd := wmP (i := 1520) (by decide +kernel) rfl
theorem wm_1521 : Cond.fieldLink "WeekBoatsModel" 78 "WeekBoatsModel" "freshFrom" "[I" ∈ lw_gd := wmP (i := 1521) (by decide +kernel) rfl
theorem wm_1522 : Cond.fieldLink "WeekBoatsModel" 81 "WeekBoatsModel" "freshMid" "[I" ∈ lw_gd := wmP (i := 1522) (by decide +kernel) rfl
theorem wm_1523 : Cond.fieldLink "WeekBoatsModel" 84 "WeekBoatsModel" "freshTo" "[I" ∈ lw_gd := wmP (i := 1523) (by decide +kernel) rfl
theorem wm_1524 : Cond.fieldLink "WeekBoatsModel" 87 "WeekBoatsModel" "freshStep" "[I" ∈ lw_gd := wmP (i := 1524) (by decide +kernel) rfl
theorem wm_1525 : Cond.fieldLink "WeekBoatsModel" 90 "WeekBoatsModel" "tunnel" "[I" ∈ lw_gd := wmP (i := 1525) (by decide +kernel) rfl
theorem wm_1526 : Cond.fieldLink "WeekBoatsModel" 93 "WeekBoatsModel" "freshTunnel" "[I" ∈ lw_gd := wmP (i := 1526) (by decide +kernel) rfl
theorem wm_1527 : Cond.fieldLink "WeekBoatsModel" 96 "WeekBoatsModel" "hasTunnel" "[Z" ∈ lw_gd := wmP (i := 1527) (by decide +kernel) rfl
theorem wm_1528 : Cond.fieldLink "WeekBoatsModel" 100 "WeekBoatsModel" "freshHas" "[Z" ∈ lw_gd := wmP (i := 1528) (by decide +kernel) rfl
theorem wm_1529 : Cond.fieldLink "WeekBoatsModel" 103 "WeekBoatsModel" "tape" "[I" ∈ lw_gd := wmP (i := 1529) (by decide +kernel) rfl
theorem wm_1530 : Cond.fieldLink "WeekBoatsModel" 106 "WeekBoatsModel" "pile" "[I" ∈ lw_gd := wmP (i := 1530) (by decide +kernel) rfl
theorem wm_1531 : Cond.fieldLink "WeekBoatsModel" 109 "WeekBoatsModel" "facts" "[I" ∈ lw_gd := wmP (i := 1531) (by decide +kernel) rfl
theorem wm_1532 : Cond.fieldLink "WeekBoatsModel" 390 "WeekBoatsModel" "lines" "I" ∈ lw_gd := wmP (i := 1532) (by decide +kernel) rfl
theorem wm_1533 : Cond.fieldLink "WeekBoatsModel" 375 "WeekBoatsModel" "freshLines" "I" ∈ lw_gd := wmP (i := 1533) (by decide +kernel) rfl
theorem wm_1534 : Cond.fieldLink "WeekBoatsModel" 333 "WeekBoatsModel" "steps" "I" ∈ lw_gd := wmP (i := 1534) (by decide +kernel) rfl
theorem wm_1535 : Cond.fieldLink "WeekBoatsModel" 242 "WeekBoatsModel" "taped" "I" ∈ lw_gd := wmP (i := 1535) (by decide +kernel) rfl
theorem wm_1536 : Cond.fieldLink "WeekBoatsModel" 245 "WeekBoatsModel" "at" "I" ∈ lw_gd := wmP (i := 1536) (by decide +kernel) rfl
theorem wm_1537 : Cond.fieldLink "WeekBoatsModel" 306 "WeekBoatsModel" "token" "I" ∈ lw_gd := wmP (i := 1537) (by decide +kernel) rfl
theorem wm_1538 : Cond.fieldLink "WeekBoatsModel" 248 "WeekBoatsModel" "tokenAt" "I" ∈ lw_gd := wmP (i := 1538) (by decide +kernel) rfl
theorem wm_1539 : Cond.fieldLink "WeekBoatsModel" 318 "WeekBoatsModel" "value" "I" ∈ lw_gd := wmP (i := 1539) (by decide +kernel) rfl
theorem wm_1540 : Cond.fieldLink "WeekBoatsModel" 321 "WeekBoatsModel" "wrong" "I" ∈ lw_gd := wmP (i := 1540) (by decide +kernel) rfl
theorem wm_1541 : Cond.fieldLink "WeekBoatsModel" 324 "WeekBoatsModel" "wrongAt" "I" ∈ lw_gd := wmP (i := 1541) (by decide +kernel) rfl
theorem wm_1542 : Cond.fieldLink "WeekBoatsModel" 384 "WeekBoatsModel" "faultKind" "I" ∈ lw_gd := wmP (i := 1542) (by decide +kernel) rfl
theorem wm_1543 : Cond.fieldLink "WeekBoatsModel" 336 "WeekBoatsModel" "depth" "I" ∈ lw_gd := wmP (i := 1543) (by decide +kernel) rfl
theorem wm_1544 : Cond.fieldLink "WeekBoatsModel" 112 "WeekBoatsModel" "faultPlace" "I" ∈ lw_gd := wmP (i := 1544) (by decide +kernel) rfl
theorem wm_1545 : Cond.fieldLink "WeekBoatsModel" 421 "WeekBoatsModel" "counts" "Z" ∈ lw_gd := wmP (i := 1545) (by decide +kernel) rfl
theorem wm_1546 : Cond.fieldLink "WeekBoatsModel" 425 "WeekBoatsModel" "harmed" "I" ∈ lw_gd := wmP (i := 1546) (by decide +kernel) rfl
theorem wm_1547 : Cond.fieldLink "WeekBoatsModel" 444 "WeekBoatsModel" "trips" "I" ∈ lw_gd := wmP (i := 1547) (by decide +kernel) rfl
theorem wm_1548 : Cond.fieldLink "WeekBoatsModel" 115 "WeekBoatsModel" "tripBoat" "[I" ∈ lw_gd := wmP (i := 1548) (by decide +kernel) rfl
theorem wm_1549 : Cond.fieldLink "WeekBoatsModel" 118 "WeekBoatsModel" "tripFrom" "[I" ∈ lw_gd := wmP (i := 1549) (by decide +kernel) rfl
theorem wm_1550 : Cond.fieldLink "WeekBoatsModel" 121 "WeekBoatsModel" "tripTo" "[I" ∈ lw_gd := wmP (i := 1550) (by decide +kernel) rfl
theorem wm_1551 : Cond.fieldLink "WeekBoatsModel" 124 "WeekBoatsModel" "tripTime" "[I" ∈ lw_gd := wmP (i := 1551) (by decide +kernel) rfl
theorem wm_1552 : Cond.fieldLink "WeekBoatsModel" 127 "WeekBoatsModel" "tripDue" "[I" ∈ lw_gd := wmP (i := 1552) (by decide +kernel) rfl
theorem wm_1553 : Cond.fieldLink "WeekBoatsModel" 130 "WeekBoatsModel" "isPump" "[Z" ∈ lw_gd := wmP (i := 1553) (by decide +kernel) rfl
theorem wm_1554 : Cond.fieldLink "WeekBoatsModel" 133 "WeekBoatsModel" "logMany" "[I" ∈ lw_gd := wmP (i := 1554) (by decide +kernel) rfl
theorem wm_1555 : Cond.fieldLink "WeekBoatsModel" 136 "WeekBoatsModel" "logPoint" "[I" ∈ lw_gd := wmP (i := 1555) (by decide +kernel) rfl
theorem wm_1556 : Cond.fieldLink "WeekBoatsModel" 139 "WeekBoatsModel" "logTime" "[I" ∈ lw_gd := wmP (i := 1556) (by decide +kernel) rfl
theorem wm_1557 : Cond.fieldLink "WeekBoatsModel" 475 "WeekBoatsModel" "queued" "I" ∈ lw_gd := wmP (i := 1557) (by decide +kernel) rfl
theorem wm_1558 : Cond.fieldLink "WeekBoatsModel" 142 "WeekBoatsModel" "comesAt" "[I" ∈ lw_gd := wmP (i := 1558) (by decide +kernel) rfl
theorem wm_1559 : Cond.fieldLink "WeekBoatsModel" 145 "WeekBoatsModel" "goesWay" "[I" ∈ lw_gd := wmP (i := 1559) (by decide +kernel) rfl
theorem wm_1560 : Cond.fieldLink "WeekBoatsModel" 148 "WeekBoatsModel" "order" "[I" ∈ lw_gd := wmP (i := 1560) (by decide +kernel) rfl
theorem wm_1561 : Cond.fieldLink "WeekBoatsModel" 151 "WeekBoatsModel" "best" "[I" ∈ lw_gd := wmP (i := 1561) (by decide +kernel) rfl
theorem wm_1562 : Cond.fieldLink "WeekBoatsModel" 481 "WeekBoatsModel" "bestWait" "I" ∈ lw_gd := wmP (i := 1562) (by decide +kernel) rfl
theorem wm_1563 : Cond.fieldLink "WeekBoatsModel" 493 "WeekBoatsModel" "bookings" "I" ∈ lw_gd := wmP (i := 1563) (by decide +kernel) rfl
theorem wm_1564 : Cond.fieldLink "WeekBoatsModel" 496 "WeekBoatsModel" "served" "I" ∈ lw_gd := wmP (i := 1564) (by decide +kernel) rfl
theorem wm_1565 : Cond.fieldLink "WeekBoatsModel" 499 "WeekBoatsModel" "atHome" "I" ∈ lw_gd := wmP (i := 1565) (by decide +kernel) rfl
theorem wm_1566 : Cond.fieldLink "WeekBoatsModel" 154 "WeekBoatsModel" "bookFrom" "[I" ∈ lw_gd := wmP (i := 1566) (by decide +kernel) rfl
theorem wm_1567 : Cond.fieldLink "WeekBoatsModel" 157 "WeekBoatsModel" "bookTo" "[I" ∈ lw_gd := wmP (i := 1567) (by decide +kernel) rfl
theorem wm_1568 : Cond.fieldLink "WeekBoatsModel" 160 "WeekBoatsModel" "bookWeek" "[I" ∈ lw_gd := wmP (i := 1568) (by decide +kernel) rfl
theorem wm_1569 : Cond.fieldLink "WeekBoatsModel" 163 "WeekBoatsModel" "bookBerths" "[I" ∈ lw_gd := wmP (i := 1569) (by decide +kernel) rfl
theorem wm_1570 : Cond.fieldLink "WeekBoatsModel" 166 "WeekBoatsModel" "goneThrough" "[I" ∈ lw_gd := wmP (i := 1570) (by decide +kernel) rfl
