section
/-! the law's words -/
theorem wsL_law_in : ∀ w ∈ wsL_law, w ∈ lw_tbl := fun _ h => (List.mem_filter.mp h).1
theorem wsL_law_at {s : State} {b : Nat} (h : ∀ w ∈ lw_tbl, w.before #[Value.ref b] s = true) : ∀ w ∈ wsL_law, w.before #[Value.ref b] s = true := fun w hw => h w (wsL_law_in w hw)
theorem gL_law_X10_init : GoodIn wsL_law (wsX10_init) := gl_c t_w1049 (gl_t)
theorem gL_law_X11_init : GoodIn wsL_law (wsX11_init) := gl_c t_w1050 (gl_t)
theorem gL_law_X10_feed : GoodIn wsL_law (wsV RL 13 RX10 yX10_feed wsX10_feed) := gl_c t_w1054 (gl_c t_w1053 (gl_c t_w1052 (gl_c t_w317 (gl_c t_w1051 (gl_t)))))
theorem gL_law_X11_feed : GoodIn wsL_law (wsV RL 17 RX11 yX11_feed wsX11_feed) := gl_c t_w1058 (gl_c t_w1057 (gl_c t_w1056 (gl_c t_w510 (gl_c t_w1055 (gl_t)))))
theorem gL_law_X10_cut : GoodIn wsL_law (wsV RL 18 RX10 yX10_cut wsX10_cut) := gl_c t_w1062 (gl_c t_w1061 (gl_c t_w1060 (gl_c t_w317 (gl_c t_w1059 (gl_t)))))
theorem gL_law_X11_cut : GoodIn wsL_law (wsV RL 22 RX11 yX11_cut wsX11_cut) := gl_c t_w1066 (gl_c t_w1065 (gl_c t_w1064 (gl_c t_w510 (gl_c t_w1063 (gl_t)))))
theorem gL_law_X10_level : GoodIn wsL_law (wsV RL 23 RX10 yX10_level wsX10_level) := gl_c t_w1070 (gl_c t_w1069 (gl_c t_w1068 (gl_c t_w317 (gl_c t_w1067 (gl_t)))))
theorem gL_law_X11_level : GoodIn wsL_law (wsV RL 27 RX11 yX11_level wsX11_level) := gl_c t_w1074 (gl_c t_w1073 (gl_c t_w1072 (gl_c t_w510 (gl_c t_w1071 (gl_t)))))
theorem gL_law_X10_key : GoodIn wsL_law (wsV RL 28 RX10 yX10_key wsX10_key) := gl_c t_w1078 (gl_c t_w1077 (gl_c t_w1076 (gl_c t_w317 (gl_c t_w1075 (gl_t)))))
theorem gL_law_X11_key : GoodIn wsL_law (wsV RL 31 RX11 yX11_key wsX11_key) := gl_c t_w1082 (gl_c t_w1081 (gl_c t_w1080 (gl_c t_w510 (gl_c t_w1079 (gl_t)))))
theorem gL_law_X10_name : GoodIn wsL_law (wsV RL 32 RX10 yX10_name wsX10_name) := gl_c t_w1086 (gl_c t_w1085 (gl_c t_w1084 (gl_c t_w317 (gl_c t_w1083 (gl_t)))))
theorem gL_law_X11_name : GoodIn wsL_law (wsV RL 35 RX11 yX11_name wsX11_name) := gl_c t_w1090 (gl_c t_w1089 (gl_c t_w1088 (gl_c t_w510 (gl_c t_w1087 (gl_t)))))
theorem gL_law_X10_named : GoodIn wsL_law (wsV RL 36 RX10 yX10_named wsX10_named) := gl_c t_w1094 (gl_c t_w1093 (gl_c t_w1092 (gl_c t_w317 (gl_c t_w1091 (gl_t)))))
theorem gL_law_X11_named : GoodIn wsL_law (wsV RL 39 RX11 yX11_named wsX11_named) := gl_c t_w1098 (gl_c t_w1097 (gl_c t_w1096 (gl_c t_w510 (gl_c t_w1095 (gl_t)))))
theorem gL_law_X10_edge : GoodIn wsL_law (wsV RL 40 RX10 yX10_edge wsX10_edge) := gl_c t_w1102 (gl_c t_w1101 (gl_c t_w1100 (gl_c t_w317 (gl_c t_w1099 (gl_t)))))
theorem gL_law_X11_edge : GoodIn wsL_law (wsV RL 44 RX11 yX11_edge wsX11_edge) := gl_c t_w1106 (gl_c t_w1105 (gl_c t_w1104 (gl_c t_w510 (gl_c t_w1103 (gl_t)))))
theorem gL_law_X10_middle : GoodIn wsL_law (wsV RL 45 RX10 yX10_middle wsX10_middle) := gl_c t_w1110 (gl_c t_w1109 (gl_c t_w1108 (gl_c t_w317 (gl_c t_w1107 (gl_t)))))
theorem gL_law_X11_middle : GoodIn wsL_law (wsV RL 48 RX11 yX11_middle wsX11_middle) := gl_c t_w1114 (gl_c t_w1113 (gl_c t_w1112 (gl_c t_w510 (gl_c t_w1111 (gl_t)))))
theorem gL_law_X10_at : GoodIn wsL_law (wsV RL 49 RX10 yX10_at wsX10_at) := gl_c t_w1118 (gl_c t_w1117 (gl_c t_w1116 (gl_c t_w317 (gl_c t_w1115 (gl_t)))))
theorem gL_law_X11_at : GoodIn wsL_law (wsV RL 52 RX11 yX11_at wsX11_at) := gl_c t_w1122 (gl_c t_w1121 (gl_c t_w1120 (gl_c t_w510 (gl_c t_w1119 (gl_t)))))
theorem gL_law_X10_keyAt : GoodIn wsL_law (wsV RL 53 RX10 yX10_keyAt wsX10_keyAt) := gl_c t_w1126 (gl_c t_w1125 (gl_c t_w1124 (gl_c t_w317 (gl_c t_w1123 (gl_t)))))
theorem gL_law_X11_keyAt : GoodIn wsL_law (wsV RL 56 RX11 yX11_keyAt wsX11_keyAt) := gl_c t_w1130 (gl_c t_w1129 (gl_c t_w1128 (gl_c t_w510 (gl_c t_w1127 (gl_t)))))
theorem gL_law_X10_parent : GoodIn wsL_law (wsV RL 57 RX10 yX10_parent wsX10_parent) := gl_c t_w1134 (gl_c t_w1133 (gl_c t_w1132 (gl_c t_w317 (gl_c t_w1131 (gl_t)))))
theorem gL_law_X11_parent : GoodIn wsL_law (wsV RL 60 RX11 yX11_parent wsX11_parent) := gl_c t_w1138 (gl_c t_w1137 (gl_c t_w1136 (gl_c t_w510 (gl_c t_w1135 (gl_t)))))
theorem gL_law_X10_child : GoodIn wsL_law (wsV RL 61 RX10 yX10_child wsX10_child) := gl_c t_w1142 (gl_c t_w1141 (gl_c t_w1140 (gl_c t_w317 (gl_c t_w1139 (gl_t)))))
theorem gL_law_X11_child : GoodIn wsL_law (wsV RL 65 RX11 yX11_child wsX11_child) := gl_c t_w1146 (gl_c t_w1145 (gl_c t_w1144 (gl_c t_w510 (gl_c t_w1143 (gl_t)))))
theorem gL_law_X10_common : GoodIn wsL_law (wsV RL 66 RX10 yX10_common wsX10_common) := gl_c t_w1150 (gl_c t_w1149 (gl_c t_w1148 (gl_c t_w317 (gl_c t_w1147 (gl_t)))))
theorem gL_law_X11_common_ : GoodIn wsL_law (wsV RL 69 RX11 yX11_common_ wsX11_common_) := gl_c t_w1154 (gl_c t_w1153 (gl_c t_w1152 (gl_c t_w510 (gl_c t_w1151 (gl_t)))))
theorem gL_law_X10_neighbour : GoodIn wsL_law (wsV RL 70 RX10 yX10_neighbour wsX10_neighbour) := gl_c t_w1155 (gl_c t_w456 (gl_c t_w455 (gl_c t_w317 (gl_c t_w454 (gl_t)))))
theorem gL_law_X11_neighbour : GoodIn wsL_law (wsV RL 73 RX11 yX11_neighbour wsX11_neighbour) := gl_c t_w1159 (gl_c t_w1158 (gl_c t_w1157 (gl_c t_w510 (gl_c t_w1156 (gl_t)))))
theorem gL_law_X10_around : GoodIn wsL_law (wsV RL 74 RX10 yX10_around wsX10_around) := gl_c t_w1163 (gl_c t_w1162 (gl_c t_w1161 (gl_c t_w317 (gl_c t_w1160 (gl_t)))))
theorem gL_law_X11_around : GoodIn wsL_law (wsV RL 77 RX11 yX11_around wsX11_around) := gl_c t_w1167 (gl_c t_w1166 (gl_c t_w1165 (gl_c t_w510 (gl_c t_w1164 (gl_t)))))
theorem gL_law_X10_side : GoodIn wsL_law (wsV RL 78 RX10 yX10_side wsX10_side) := gl_c t_w1171 (gl_c t_w1170 (gl_c t_w1169 (gl_c t_w317 (gl_c t_w1168 (gl_t)))))
theorem gL_law_X11_side : GoodIn wsL_law (wsV RL 81 RX11 yX11_side wsX11_side) := gl_c t_w1175 (gl_c t_w1174 (gl_c t_w1173 (gl_c t_w510 (gl_c t_w1172 (gl_t)))))
theorem gL_law_X10_steps : GoodIn wsL_law (wsV RL 82 RX10 yX10_steps wsX10_steps) := gl_c t_w1176 (gl_c t_w460 (gl_c t_w459 (gl_c t_w317 (gl_c t_w458 (gl_t)))))
theorem gL_law_X11_steps : GoodIn wsL_law (wsV RL 85 RX11 yX11_steps wsX11_steps) := gl_c t_w1180 (gl_c t_w1179 (gl_c t_w1178 (gl_c t_w510 (gl_c t_w1177 (gl_t)))))
theorem gL_law_X10_way : GoodIn wsL_law (wsV RL 86 RX10 yX10_way wsX10_way) := gl_c t_w1184 (gl_c t_w1183 (gl_c t_w1182 (gl_c t_w317 (gl_c t_w1181 (gl_t)))))
theorem gL_law_X11_way : GoodIn wsL_law (wsV RL 89 RX11 yX11_way wsX11_way) := gl_c t_w1188 (gl_c t_w1187 (gl_c t_w1186 (gl_c t_w510 (gl_c t_w1185 (gl_t)))))
theorem gL_law_X10_reach : GoodIn wsL_law (wsV RL 90 RX10 yX10_reach wsX10_reach) := gl_c t_w1192 (gl_c t_w1191 (gl_c t_w1190 (gl_c t_w317 (gl_c t_w1189 (gl_t)))))
theorem gL_law_X11_reach : GoodIn wsL_law (wsV RL 93 RX11 yX11_reach wsX11_reach) := gl_c t_w1196 (gl_c t_w1195 (gl_c t_w1194 (gl_c t_w510 (gl_c t_w1193 (gl_t)))))
theorem gL_law_X10_farthest : GoodIn wsL_law (wsV RL 94 RX10 yX10_farthest wsX10_farthest) := gl_c t_w1200 (gl_c t_w1199 (gl_c t_w1198 (gl_c t_w317 (gl_c t_w1197 (gl_t)))))
theorem gL_law_X11_farthest : GoodIn wsL_law (wsV RL 97 RX11 yX11_farthest wsX11_farthest) := gl_c t_w1204 (gl_c t_w1203 (gl_c t_w1202 (gl_c t_w510 (gl_c t_w1201 (gl_t)))))
theorem gL_law_X10_corners : GoodIn wsL_law (wsV RL 98 RX10 yX10_corners wsX10_corners) := gl_c t_w1208 (gl_c t_w1207 (gl_c t_w1206 (gl_c t_w317 (gl_c t_w1205 (gl_t)))))
theorem gL_law_X11_corners : GoodIn wsL_law (wsV RL 101 RX11 yX11_corners wsX11_corners) := gl_c t_w1212 (gl_c t_w1211 (gl_c t_w1210 (gl_c t_w510 (gl_c t_w1209 (gl_t)))))
theorem gL_law_X10_jog : GoodIn wsL_law (wsV RL 102 RX10 yX10_jog wsX10_jog) := gl_c t_w1216 (gl_c t_w1215 (gl_c t_w1214 (gl_c t_w317 (gl_c t_w1213 (gl_t)))))
theorem gL_law_X11_jog : GoodIn wsL_law (wsV RL 105 RX11 yX11_jog wsX11_jog) := gl_c t_w1220 (gl_c t_w1219 (gl_c t_w1218 (gl_c t_w510 (gl_c t_w1217 (gl_t)))))
theorem gL_law_X10_box : GoodIn wsL_law (wsV RL 106 RX10 yX10_box wsX10_box) := gl_c t_w1224 (gl_c t_w1223 (gl_c t_w1222 (gl_c t_w317 (gl_c t_w1221 (gl_t)))))
theorem gL_law_X11_box : GoodIn wsL_law (wsV RL 110 RX11 yX11_box wsX11_box) := gl_c t_w1228 (gl_c t_w1227 (gl_c t_w1226 (gl_c t_w510 (gl_c t_w1225 (gl_t)))))
theorem gL_law_X10_cover : GoodIn wsL_law (wsV RL 111 RX10 yX10_cover wsX10_cover) := gl_c t_w1232 (gl_c t_w1231 (gl_c t_w1230 (gl_c t_w317 (gl_c t_w1229 (gl_t)))))
theorem gL_law_X11_cover : GoodIn wsL_law (wsV RL 114 RX11 yX11_cover wsX11_cover) := gl_c t_w1236 (gl_c t_w1235 (gl_c t_w1234 (gl_c t_w510 (gl_c t_w1233 (gl_t)))))
theorem gL_law_X10_between : GoodIn wsL_law (wsV RL 115 RX10 yX10_between wsX10_between) := gl_c t_w1237 (gl_c t_w464 (gl_c t_w463 (gl_c t_w317 (gl_c t_w462 (gl_t)))))
theorem gL_law_X11_between : GoodIn wsL_law (wsV RL 118 RX11 yX11_between wsX11_between) := gl_c t_w1241 (gl_c t_w1240 (gl_c t_w1239 (gl_c t_w510 (gl_c t_w1238 (gl_t)))))
theorem gL_law_X10_wider : GoodIn wsL_law (wsV RL 119 RX10 yX10_wider wsX10_wider) := gl_c t_w1245 (gl_c t_w1244 (gl_c t_w1243 (gl_c t_w317 (gl_c t_w1242 (gl_t)))))
theorem gL_law_X11_wider : GoodIn wsL_law (wsV RL 122 RX11 yX11_wider wsX11_wider) := gl_c t_w1249 (gl_c t_w1248 (gl_c t_w1247 (gl_c t_w510 (gl_c t_w1246 (gl_t)))))
theorem gL_law_X10_before : GoodIn wsL_law (wsV RL 123 RX10 yX10_before wsX10_before) := gl_c t_w1253 (gl_c t_w1252 (gl_c t_w1251 (gl_c t_w317 (gl_c t_w1250 (gl_t)))))
theorem gL_law_X11_before : GoodIn wsL_law (wsV RL 126 RX11 yX11_before wsX11_before) := gl_c t_w1257 (gl_c t_w1256 (gl_c t_w1255 (gl_c t_w510 (gl_c t_w1254 (gl_t)))))
theorem gL_law_X10_moved : GoodIn wsL_law (wsV RL 127 RX10 yX10_moved wsX10_moved) := gl_c t_w1261 (gl_c t_w1260 (gl_c t_w1259 (gl_c t_w317 (gl_c t_w1258 (gl_t)))))
theorem gL_law_X11_moved : GoodIn wsL_law (wsV RL 130 RX11 yX11_moved wsX11_moved) := gl_c t_w1265 (gl_c t_w1264 (gl_c t_w1263 (gl_c t_w510 (gl_c t_w1262 (gl_t)))))
theorem gL_law_X10_ask : GoodIn wsL_law (wsV RL 131 RX10 yX10_ask wsX10_ask) := gl_c t_w1269 (gl_c t_w1268 (gl_c t_w1267 (gl_c t_w317 (gl_c t_w1266 (gl_t)))))
theorem gL_law_X11_ask : GoodIn wsL_law (wsV RL 135 RX11 yX11_ask wsX11_ask) := gl_c t_w1273 (gl_c t_w1272 (gl_c t_w1271 (gl_c t_w510 (gl_c t_w1270 (gl_t)))))
theorem gL_law_X10_store : GoodIn wsL_law (wsV RL 136 RX10 yX10_store wsX10_store) := gl_c t_w1277 (gl_c t_w1276 (gl_c t_w1275 (gl_c t_w317 (gl_c t_w1274 (gl_t)))))
theorem gL_law_X11_store : GoodIn wsL_law (wsV RL 139 RX11 yX11_store wsX11_store) := gl_c t_w1281 (gl_c t_w1280 (gl_c t_w1279 (gl_c t_w510 (gl_c t_w1278 (gl_t)))))
theorem gL_law_X10_drop : GoodIn wsL_law (wsV RL 140 RX10 yX10_drop wsX10_drop) := gl_c t_w1285 (gl_c t_w1284 (gl_c t_w1283 (gl_c t_w317 (gl_c t_w1282 (gl_t)))))
theorem gL_law_X11_drop : GoodIn wsL_law (wsV RL 143 RX11 yX11_drop wsX11_drop) := gl_c t_w1289 (gl_c t_w1288 (gl_c t_w1287 (gl_c t_w510 (gl_c t_w1286 (gl_t)))))
theorem gL_law_X10_piece : GoodIn wsL_law (wsV RL 144 RX10 yX10_piece wsX10_piece) := gl_c t_w1293 (gl_c t_w1292 (gl_c t_w1291 (gl_c t_w317 (gl_c t_w1290 (gl_t)))))
theorem gL_law_X11_piece : GoodIn wsL_law (wsV RL 147 RX11 yX11_piece wsX11_piece) := gl_c t_w1297 (gl_c t_w1296 (gl_c t_w1295 (gl_c t_w510 (gl_c t_w1294 (gl_t)))))
theorem gL_law_X10_shown : GoodIn wsL_law (wsV RL 148 RX10 yX10_shown wsX10_shown) := gl_c t_w1301 (gl_c t_w1300 (gl_c t_w1299 (gl_c t_w317 (gl_c t_w1298 (gl_t)))))
theorem gL_law_X11_shown : GoodIn wsL_law (wsV RL 151 RX11 yX11_shown wsX11_shown) := gl_c t_w1305 (gl_c t_w1304 (gl_c t_w1303 (gl_c t_w510 (gl_c t_w1302 (gl_t)))))
theorem gL_law_X10_lacks : GoodIn wsL_law (wsV RL 152 RX10 yX10_lacks wsX10_lacks) := gl_c t_w1309 (gl_c t_w1308 (gl_c t_w1307 (gl_c t_w317 (gl_c t_w1306 (gl_t)))))
theorem gL_law_X11_lacks : GoodIn wsL_law (wsV RL 156 RX11 yX11_lacks wsX11_lacks) := gl_c t_w1313 (gl_c t_w1312 (gl_c t_w1311 (gl_c t_w510 (gl_c t_w1310 (gl_t)))))
theorem gL_law_X10_years : GoodIn wsL_law (wsV RL 157 RX10 yX10_years wsX10_years) := gl_c t_w1317 (gl_c t_w1316 (gl_c t_w1315 (gl_c t_w317 (gl_c t_w1314 (gl_t)))))
theorem gL_law_X11_years : GoodIn wsL_law (wsV RL 160 RX11 yX11_years wsX11_years) := gl_c t_w1321 (gl_c t_w1320 (gl_c t_w1319 (gl_c t_w510 (gl_c t_w1318 (gl_t)))))
theorem gL_law_X10_renew : GoodIn wsL_law (wsV RL 161 RX10 yX10_renew wsX10_renew) := gl_c t_w1325 (gl_c t_w1324 (gl_c t_w1323 (gl_c t_w317 (gl_c t_w1322 (gl_t)))))
theorem gL_law_X11_renew : GoodIn wsL_law (wsV RL 164 RX11 yX11_renew wsX11_renew) := gl_c t_w1329 (gl_c t_w1328 (gl_c t_w1327 (gl_c t_w510 (gl_c t_w1326 (gl_t)))))
theorem gL_law_X10_oldest : GoodIn wsL_law (wsV RL 165 RX10 yX10_oldest wsX10_oldest) := gl_c t_w1333 (gl_c t_w1332 (gl_c t_w1331 (gl_c t_w317 (gl_c t_w1330 (gl_t)))))
theorem gL_law_X11_oldest : GoodIn wsL_law (wsV RL 168 RX11 yX11_oldest wsX11_oldest) := gl_c t_w1337 (gl_c t_w1336 (gl_c t_w1335 (gl_c t_w510 (gl_c t_w1334 (gl_t)))))
theorem gL_law_X10_tidy : GoodIn wsL_law (wsV RL 169 RX10 yX10_tidy wsX10_tidy) := gl_c t_w1341 (gl_c t_w1340 (gl_c t_w1339 (gl_c t_w317 (gl_c t_w1338 (gl_t)))))
theorem gL_law_X11_tidy : GoodIn wsL_law (wsV RL 173 RX11 yX11_tidy wsX11_tidy) := gl_c t_w1345 (gl_c t_w1344 (gl_c t_w1343 (gl_c t_w510 (gl_c t_w1342 (gl_t)))))
theorem gL_law_X10_changes : GoodIn wsL_law (wsV RL 174 RX10 yX10_changes wsX10_changes) := gl_c t_w1349 (gl_c t_w1348 (gl_c t_w1347 (gl_c t_w317 (gl_c t_w1346 (gl_t)))))
theorem gL_law_X11_changes : GoodIn wsL_law (wsV RL 177 RX11 yX11_changes wsX11_changes) := gl_c t_w1353 (gl_c t_w1352 (gl_c t_w1351 (gl_c t_w510 (gl_c t_w1350 (gl_t)))))
theorem gL_law_X10_drawn : GoodIn wsL_law (wsV RL 178 RX10 yX10_drawn wsX10_drawn) := gl_c t_w1357 (gl_c t_w1356 (gl_c t_w1355 (gl_c t_w317 (gl_c t_w1354 (gl_t)))))
theorem gL_law_X11_drawn : GoodIn wsL_law (wsV RL 181 RX11 yX11_drawn wsX11_drawn) := gl_c t_w1361 (gl_c t_w1360 (gl_c t_w1359 (gl_c t_w510 (gl_c t_w1358 (gl_t)))))
theorem gL_law_X10_bands : GoodIn wsL_law (wsV RL 182 RX10 yX10_bands wsX10_bands) := gl_c t_w1365 (gl_c t_w1364 (gl_c t_w1363 (gl_c t_w317 (gl_c t_w1362 (gl_t)))))
theorem gL_law_X11_bands : GoodIn wsL_law (wsV RL 185 RX11 yX11_bands wsX11_bands) := gl_c t_w1369 (gl_c t_w1368 (gl_c t_w1367 (gl_c t_w510 (gl_c t_w1366 (gl_t)))))
theorem gL_law_X10_count : GoodIn wsL_law (wsV RL 186 RX10 yX10_count wsX10_count) := gl_c t_w1373 (gl_c t_w1372 (gl_c t_w1371 (gl_c t_w317 (gl_c t_w1370 (gl_t)))))
theorem gL_law_X11_count : GoodIn wsL_law (wsV RL 189 RX11 yX11_count wsX11_count) := gl_c t_w1377 (gl_c t_w1376 (gl_c t_w1375 (gl_c t_w510 (gl_c t_w1374 (gl_t)))))
theorem gL_law_X10_keep : GoodIn wsL_law (wsV RL 190 RX10 yX10_keep wsX10_keep) := gl_c t_w1381 (gl_c t_w1380 (gl_c t_w1379 (gl_c t_w317 (gl_c t_w1378 (gl_t)))))
theorem gL_law_X11_keep : GoodIn wsL_law (wsV RL 193 RX11 yX11_keep wsX11_keep) := gl_c t_w1385 (gl_c t_w1384 (gl_c t_w1383 (gl_c t_w510 (gl_c t_w1382 (gl_t)))))
theorem gL_law_X10_undo : GoodIn wsL_law (wsV RL 194 RX10 yX10_undo wsX10_undo) := gl_c t_w1389 (gl_c t_w1388 (gl_c t_w1387 (gl_c t_w317 (gl_c t_w1386 (gl_t)))))
theorem gL_law_X11_undo : GoodIn wsL_law (wsV RL 197 RX11 yX11_undo wsX11_undo) := gl_c t_w1393 (gl_c t_w1392 (gl_c t_w1391 (gl_c t_w510 (gl_c t_w1390 (gl_t)))))
end
section
/-! THE CLAIM OUT OF ONE WALK OF THE LAW'S BODY. Your part is whole_start (and what it stands on); all else here is the same for every law, but numbers. -/
def R_law : String := "SheetNamesLaw"
def lw_P (b : Addr) (xs : List Int32) (args : Array Value) (s : State) : Prop := args = #[.ref b] ∧ s.IntsAt b xs ∧ xs.length ≤ 4096 ∧ (Jvm.Cond.and given_1 narrow_1).before args s = true
def lw_Q (_ : Array Value) (s : State) (o : Outcome) (t : State) : Prop := o = .returned (some (.int 1)) ∧ Framed s o t [] 600000 7302250
def lw_Z (below : List Frame) (a : Array Value) (s : State) : State → Prop := fun t => ∃ o, t.status = .running ∧ Ended t below o ∧ lw_Q a s o t
/-- the law's own end, with 1 on the stack, nothing written that was there before, its room as the claim has it -/
theorem lw_ret {p : Program} {l : Launch} {e : Env} {s : State} {m : MethodId} {below : List Frame} {meth : Method} {c : Code} {b : Nat} (hx : p.tables.exec = Jvm.exec) (hb : c.code = code) (hr : meth.sig.returnType = ret) (hlocks : meth.locks = false) {pc : Nat} {H : Heap} {ls : Array Slot} (hdg : decode code pc = .ok (.ireturn, 1)) : W p l e room_1 s m #[Value.ref b] below meth c H [] 600000 7302250 (lw_Z below #[Value.ref b] s) (F0 m pc ls [.int 1]) := by
  intro T hT X
  obtain ⟨fs, hret, hrun, hended, hW, hframe⟩ := X.leave (v := some (.int 1)) (hlocks := hlocks) (fun h => by rw [hr] at h; cases h)
  have hmeth' : T.vm.method? m = some meth := X.method'
  refine ⟨T.setFrames fs, ?_, .returned (some (.int 1)), hrun, hended, rfl, ⟨_, rfl⟩, hW, hframe⟩
  jvm_step X.here [X.here.top, hx, hb, hdg, hmeth', hr, ret, narrow_b1]
  (try refine ⟨rfl, ?_⟩); (try refine ⟨rfl, ?_⟩)
  first | (intro acts; rw [hret _ acts rfl rfl rfl]) | rw [hret _ _ rfl rfl rfl]
  exact Steps.refl _
/-- what holds at the law's entry: the machine, the code, the tables' words (any of lw_tbl by 'hts w (by decide +kernel)'), the script of L ints xs at the cell b, what the Statement gives of the start (any of its parts by flat_of_before) -/
def lw_At (p : Program) (s : State) (m : MethodId) (meth : Method) (c : Code) (b L : Nat) (xs : Nat → Int32) : Prop :=
  p.tables.exec = Jvm.exec ∧ c.code = code ∧ meth.sig.returnType = ret ∧ c.maxLocals = 4 ∧ s.vm.findClass R_law = some m.cls ∧ (∀ w ∈ lw_tbl, w.before #[Value.ref b] s = true) ∧ va_X b L xs s s.heap ∧ b < s.heap.size ∧ meth.locks = false ∧ (Jvm.Cond.and given_1 narrow_1).before #[Value.ref b] s = true
end
section
/-! the law: what holds in it; from a place on with any good state -/
def lL_C (p : Program) (l : Launch) (e : Env) (s : State) (m : MethodId) (below : List Frame) (meth : Method) (c : Code) (b L : Nat) (xs : Nat → Int32) (D : va_G) (ci : Nat → ClassId) (sa : Nat → Nat) : Prop := p.tables.exec = Jvm.exec ∧ c.code = cL_law ∧ c.maxLocals = 4 ∧ s.vm.findClass RL = some m.cls ∧ (∀ w ∈ wsL_law, w.before #[Value.ref b] s = true) ∧ va_X b L xs s s.heap ∧ b < s.heap.size ∧ va_K D vwCl (q_tys ci) s ∧ q_Z (fun q : Nat => s.heap.size ≤ q) sa s ∧ meth.sig.returnType = ret ∧ meth.locks = false ∧ L ≤ 4096
def lL_go (p : Program) (l : Launch) (e : Env) (s : State) (m : MethodId) (below : List Frame) (meth : Method) (c : Code) (b L : Nat) (xs : Nat → Int32) (D : va_G) (ci : Nat → ClassId) (sa : Nat → Nat) (a_x a_m : Nat) (ls : Array Slot) (pc : Nat) : Prop := ∀ (WX WM : va_W) (t : Nat) (tb : Nat → Nat) (n s0 : Nat) (sv : l_T) (kv : Nat → l_T) (H : Heap) (locs : List Loc) (cells slots : Nat), XI ci a_x WX t tb n s0 sv kv → MI ci a_m WM t tb s0 sv kv → va_P D vwCl (WX ++ WM) H → va_D (fun q : Nat => s.heap.size ≤ q) (WX ++ WM) → va_S (fun q : Nat => s.heap.size ≤ q) s.heap H locs → cells ≤ 200 + n → 1000 * slots ≤ 45000000 + n * n + 2000 * n → W p l e room_1 s m #[Value.ref b] below meth c H locs cells slots (lw_Z below #[Value.ref b] s) (F0 m pc ls [])
theorem XI.hd {ci : Nat → ClassId} {a_x t n s0 : Nat} {tb : Nat → Nat} {Wd : va_W} {sv : l_T} {kv : Nat → l_T} (h : XI ci a_x Wd t tb n s0 sv kv) (R : va_W) : ∃ fs, (Wd ++ R)[0]? = some (a_x, .inr (10, fs)) := by
  obtain ⟨a, u, f, xk, ka, ku, kf, rfl, -⟩ := h
  exact ⟨_, rfl⟩
theorem XI.n {ci : Nat → ClassId} {a_x t n s0 : Nat} {tb : Nat → Nat} {Wd : va_W} {sv : l_T} {kv : Nat → l_T} (h : XI ci a_x Wd t tb n s0 sv kv) : (n = 0 ∨ ∃ k, n = 2130 * k + 2) ∧ n ≤ 20000 := by
  obtain ⟨a, u, f, xk, ka, ku, kf, -, -, hn, -⟩ := h
  exact hn
theorem MI.hd {ci : Nat → ClassId} {a_m t s0 : Nat} {tb : Nat → Nat} {Wd : va_W} {sv : l_T} {kv : Nat → l_T} (h : MI ci a_m Wd t tb s0 sv kv) (R : va_W) : ∃ fs, (Wd ++ R)[0]? = some (a_m, .inr (11, fs)) := by
  obtain ⟨a, u, v, f, h2, rfl, -⟩ := h
  exact ⟨_, rfl⟩
theorem l_swP {D : va_G} {cl : List vw_C} {W1 W2 : va_W} {H : Heap} (h : va_P D cl (W1 ++ W2) H) : va_P D cl (W2 ++ W1) H := va_P.swap (a := []) h
theorem l_swD {A : Nat → Prop} {W1 W2 : va_W} (h : va_D A (W1 ++ W2)) : va_D A (W2 ++ W1) := va_D.swap (a := []) h
theorem l_in {i j L : Nat} (h : i + 8 ≤ L) (hj : j < 8) (hL : L ≤ 4096) : vp_in (nI i + nI j) L := by
  show ¬ (nI i + nI j < 0 ∨ L ≤ (nI i + nI j).toNatClampNeg)
  rw [nI_add]
  have e : (nI (i + j)).toNatClampNeg = i + j := nI_clamp (by omega)
  rw [e]
  rintro (z | z)
  · exact z_lt0 (by omega) z
  · omega
theorem l_rm {n cells slots mc ms : Nat} (hn : n ≤ 20000) (hc : cells ≤ 200 + n) (hs : 1000 * slots ≤ 45000000 + n * n + 2000 * n) (h1 : mc ≤ 2) (h2 : ms ≤ 40000) : cells + mc ≤ room_1.cells ∧ slots + ms ≤ room_1.slots := by
  have h3 : n * n ≤ 20000 * 20000 := Nat.mul_le_mul hn hn
  show cells + mc ≤ 600000 ∧ slots + ms ≤ 7302250
  omega
theorem l_sqn {x y : Nat} (h : x + 2130 ≤ y) : x * x + 4260 * x ≤ y * y := by
  have h2 : (x + 2130) * (x + 2130) ≤ y * y := Nat.mul_le_mul h h
  rw [Nat.add_mul, Nat.mul_add] at h2
  generalize y * y = v at *
  generalize x * x = u at *
  omega
theorem l_pot {n nL cells slots : Nat} (hn : n = 0 ∨ ∃ k, n = 2130 * k + 2) (hL : ∃ k, nL = 2130 * k + 2) (h : n < nL) (hc : cells ≤ 200 + n) (hs : 1000 * slots ≤ 45000000 + n * n + 2000 * n) : cells + 2 ≤ 200 + nL ∧ 1000 * (slots + (nL + nL)) ≤ 45000000 + nL * nL + 2000 * nL := by
  rcases hn with h0 | ⟨j, hj⟩
  · subst h0
    generalize nL * nL = v at *
    obtain ⟨k, hk⟩ := hL
    omega
  · have h1 : n + 2130 ≤ nL := by
      obtain ⟨k, hk⟩ := hL
      omega
    have h2 := l_sqn h1
    generalize nL * nL = v at *
    generalize n * n = u at *
    omega
end
