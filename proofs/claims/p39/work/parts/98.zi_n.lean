/-! the law's cases -/
theorem law_22 (p : Program) (l : Launch) (e : Env) (s : State) (m : MethodId) (below : List Frame) (meth : Method) (c : Code) (b L : Nat) (xs : Nat → Int32) (D : va_G) (ci : Nat → ClassId) (sa : Nat → Nat) {a_x a_m i : Nat} {ls : Array Slot} (C0 : lL_C p l e s m below meth c b L xs D ci sa) (hi : i + 8 ≤ L) (hl : lv_has ls 4 [(3, .int (nI i)), (2, .ref a_m), (1, .ref a_x), (0, .ref b)]) (hgo : lL_go p l e s m below meth c b L xs D ci sa a_x a_m ls 2146) : lL_go p l e s m below meth c b L xs D ci sa a_x a_m ls 1210 := by
  obtain ⟨hx, hb, hml, hown, hts, hX, hbl, hK, hZ, hret, hlocks, hL⟩ := C0
  intro WX WM t n s0 sv kv H locs cells slots hXI hMI hP hD hS hc hs
  have hA : ∀ q : Nat, s.heap.size ≤ q → (fun q : Nat => s.heap.size ≤ q) q := fun _ h => h
  have hbA : ¬ (fun q : Nat => s.heap.size ≤ q) b := Nat.not_le.mpr hbl
  have hn := hXI.n
  have hok := hXI.ok
  refine lv_aload_n (pc := 1210) hx hb dL_law_1210 rfl (lv_at hl 2 rfl) ?_
  refine lv_aload_n (pc := 1211) hx hb dL_law_1211 rfl (lv_at hl 3 rfl) ?_
  refine lv_iload_n (pc := 1212) hx hb dL_law_1212 rfl (lv_at hl 0 rfl) ?_
  refine lv_iconst (pc := 1213) (v := nI 1) hx hb dL_law_1213 (by decide) ?_
  refine lv_iadd (pc := 1214) hx hb dL_law_1214 ?_
  refine va_sld (pc := 1215) hx hb hX hbl hbA hS (l_in hi (show 1 < 8 by decide) hL) dL_law_1215 ?_
  refine lv_aload_n (pc := 1216) hx hb dL_law_1216 rfl (lv_at hl 3 rfl) ?_
  refine lv_iload_n (pc := 1217) hx hb dL_law_1217 rfl (lv_at hl 0 rfl) ?_
  refine lv_iconst (pc := 1218) (v := nI 2) hx hb dL_law_1218 (by decide) ?_
  refine lv_iadd (pc := 1219) hx hb dL_law_1219 ?_
  refine va_sld (pc := 1220) hx hb hX hbl hbA hS (l_in hi (show 2 < 8 by decide) hL) dL_law_1220 ?_
  refine lv_aload_n (pc := 1221) hx hb dL_law_1221 rfl (lv_at hl 3 rfl) ?_
  refine lv_iload_n (pc := 1222) hx hb dL_law_1222 rfl (lv_at hl 0 rfl) ?_
  refine lv_iconst (pc := 1223) (v := nI 3) hx hb dL_law_1223 (by decide) ?_
  refine lv_iadd (pc := 1224) hx hb dL_law_1224 ?_
  refine va_sld (pc := 1225) hx hb hX hbl hbA hS (l_in hi (show 3 < 8 by decide) hL) dL_law_1225 ?_
  refine lv_aload_n (pc := 1226) hx hb dL_law_1226 rfl (lv_at hl 3 rfl) ?_
  refine lv_iload_n (pc := 1227) hx hb dL_law_1227 rfl (lv_at hl 0 rfl) ?_
  refine lv_iconst (pc := 1228) (v := nI 4) hx hb dL_law_1228 (by decide) ?_
  refine lv_iadd (pc := 1229) hx hb dL_law_1229 ?_
  refine va_sld (pc := 1230) hx hb hX hbl hbA hS (l_in hi (show 4 < 8 by decide) hL) dL_law_1230 ?_
  refine lv_aload_n (pc := 1231) hx hb dL_law_1231 rfl (lv_at hl 3 rfl) ?_
  refine lv_iload_n (pc := 1232) hx hb dL_law_1232 rfl (lv_at hl 0 rfl) ?_
  refine lv_iconst (pc := 1233) (v := nI 5) hx hb dL_law_1233 (by decide) ?_
  refine lv_iadd (pc := 1234) hx hb dL_law_1234 ?_
  refine va_sld (pc := 1235) hx hb hX hbl hbA hS (l_in hi (show 5 < 8 by decide) hL) dL_law_1235 ?_
  refine lv_aload_n (pc := 1236) hx hb dL_law_1236 rfl (lv_at hl 3 rfl) ?_
  refine lv_iload_n (pc := 1237) hx hb dL_law_1237 rfl (lv_at hl 0 rfl) ?_
  refine lv_bipush (pc := 1238) (v := nI 6) hx hb dL_law_1238 (by decide) ?_
  refine lv_iadd (pc := 1240) hx hb dL_law_1240 ?_
  refine va_sld (pc := 1241) hx hb hX hbl hbA hS (l_in hi (show 6 < 8 by decide) hL) dL_law_1241 ?_
  obtain ⟨r, hM1⟩ := l_X_box l D ci (fun q : Nat => s.heap.size ≤ q) sa WM hXI (xs (nI i + nI 1).toNatClampNeg) (xs (nI i + nI 2).toNatClampNeg) (xs (nI i + nI 3).toNatClampNeg) (xs (nI i + nI 4).toNatClampNeg) (xs (nI i + nI 5).toNatClampNeg) (xs (nI i + nI 6).toNatClampNeg)
  obtain ⟨fs, hh⟩ := hXI.hd WM
  refine q_call (pc := 1242) (va_runV (As := [.int (xs (nI i + nI 1).toNatClampNeg), .int (xs (nI i + nI 2).toNatClampNeg), .int (xs (nI i + nI 3).toNatClampNeg), .int (xs (nI i + nI 4).toNatClampNeg), .int (xs (nI i + nI 5).toNatClampNeg), .int (xs (nI i + nI 6).toNatClampNeg)]) (rest := []) ⟨hx, hb, hml, hown, hts⟩ hM1 (cwV 6 hts gL_law_X10_box rfl rfl rfl (by decide +kernel) ⟨Nat.le_of_ble_eq_true rfl, Nat.le_of_ble_eq_true rfl⟩) (q_preV (n1 := 0) (is1 := []) hK hA hZ hP hD hS rfl ⟨rfl, rfl, rfl⟩ 0 hh rfl) rfl rfl hl.1 rfl (lv_room (Nat.le_of_ble_eq_true rfl)) dL_law_1242 (l_rm hn.2 hc hs (Nat.zero_le _) (Nat.zero_le _))) hS (fun t2 locs _ hB hS => ?_)
  obtain ⟨WX, hXI, hP, hD⟩ := hB
  refine lv_pop (pc := 1245) hx hb dL_law_1245 rfl ?_
  have hP := l_swP hP
  have hD := l_swD hD
  refine lv_aload_n (pc := 1246) hx hb dL_law_1246 rfl (lv_at hl 1 rfl) ?_
  refine lv_aload_n (pc := 1247) hx hb dL_law_1247 rfl (lv_at hl 3 rfl) ?_
  refine lv_iload_n (pc := 1248) hx hb dL_law_1248 rfl (lv_at hl 0 rfl) ?_
  refine lv_iconst (pc := 1249) (v := nI 1) hx hb dL_law_1249 (by decide) ?_
  refine lv_iadd (pc := 1250) hx hb dL_law_1250 ?_
  refine va_sld (pc := 1251) hx hb hX hbl hbA hS (l_in hi (show 1 < 8 by decide) hL) dL_law_1251 ?_
  refine lv_aload_n (pc := 1252) hx hb dL_law_1252 rfl (lv_at hl 3 rfl) ?_
  refine lv_iload_n (pc := 1253) hx hb dL_law_1253 rfl (lv_at hl 0 rfl) ?_
  refine lv_iconst (pc := 1254) (v := nI 2) hx hb dL_law_1254 (by decide) ?_
  refine lv_iadd (pc := 1255) hx hb dL_law_1255 ?_
  refine va_sld (pc := 1256) hx hb hX hbl hbA hS (l_in hi (show 2 < 8 by decide) hL) dL_law_1256 ?_
  refine lv_aload_n (pc := 1257) hx hb dL_law_1257 rfl (lv_at hl 3 rfl) ?_
  refine lv_iload_n (pc := 1258) hx hb dL_law_1258 rfl (lv_at hl 0 rfl) ?_
  refine lv_iconst (pc := 1259) (v := nI 3) hx hb dL_law_1259 (by decide) ?_
  refine lv_iadd (pc := 1260) hx hb dL_law_1260 ?_
  refine va_sld (pc := 1261) hx hb hX hbl hbA hS (l_in hi (show 3 < 8 by decide) hL) dL_law_1261 ?_
  refine lv_aload_n (pc := 1262) hx hb dL_law_1262 rfl (lv_at hl 3 rfl) ?_
  refine lv_iload_n (pc := 1263) hx hb dL_law_1263 rfl (lv_at hl 0 rfl) ?_
  refine lv_iconst (pc := 1264) (v := nI 4) hx hb dL_law_1264 (by decide) ?_
  refine lv_iadd (pc := 1265) hx hb dL_law_1265 ?_
  refine va_sld (pc := 1266) hx hb hX hbl hbA hS (l_in hi (show 4 < 8 by decide) hL) dL_law_1266 ?_
  refine lv_aload_n (pc := 1267) hx hb dL_law_1267 rfl (lv_at hl 3 rfl) ?_
  refine lv_iload_n (pc := 1268) hx hb dL_law_1268 rfl (lv_at hl 0 rfl) ?_
  refine lv_iconst (pc := 1269) (v := nI 5) hx hb dL_law_1269 (by decide) ?_
  refine lv_iadd (pc := 1270) hx hb dL_law_1270 ?_
  refine va_sld (pc := 1271) hx hb hX hbl hbA hS (l_in hi (show 5 < 8 by decide) hL) dL_law_1271 ?_
  refine lv_aload_n (pc := 1272) hx hb dL_law_1272 rfl (lv_at hl 3 rfl) ?_
  refine lv_iload_n (pc := 1273) hx hb dL_law_1273 rfl (lv_at hl 0 rfl) ?_
  refine lv_bipush (pc := 1274) (v := nI 6) hx hb dL_law_1274 (by decide) ?_
  refine lv_iadd (pc := 1276) hx hb dL_law_1276 ?_
  refine va_sld (pc := 1277) hx hb hX hbl hbA hS (l_in hi (show 6 < 8 by decide) hL) dL_law_1277 ?_
  obtain ⟨r2, hM2⟩ := l_M_box l D ci (fun q : Nat => s.heap.size ≤ q) sa WX hMI (xs (nI i + nI 1).toNatClampNeg) (xs (nI i + nI 2).toNatClampNeg) (xs (nI i + nI 3).toNatClampNeg) (xs (nI i + nI 4).toNatClampNeg) (xs (nI i + nI 5).toNatClampNeg) (xs (nI i + nI 6).toNatClampNeg)
  obtain ⟨fs, hh⟩ := hMI.hd WX
  refine q_call (pc := 1278) (va_runV (As := [.int (xs (nI i + nI 1).toNatClampNeg), .int (xs (nI i + nI 2).toNatClampNeg), .int (xs (nI i + nI 3).toNatClampNeg), .int (xs (nI i + nI 4).toNatClampNeg), .int (xs (nI i + nI 5).toNatClampNeg), .int (xs (nI i + nI 6).toNatClampNeg)]) (rest := []) ⟨hx, hb, hml, hown, hts⟩ hM2 (cwV 6 hts gL_law_X11_box rfl rfl rfl (by decide +kernel) ⟨Nat.le_of_ble_eq_true rfl, Nat.le_of_ble_eq_true rfl⟩) (q_preV (n1 := 0) (is1 := []) hK hA hZ hP hD hS rfl ⟨rfl, rfl, rfl⟩ 0 hh rfl) rfl rfl hl.1 rfl (lv_room (Nat.le_of_ble_eq_true rfl)) dL_law_1278 (l_rm hn.2 hc hs (Nat.zero_le _) (Nat.zero_le _))) hS (fun t2 locs _ hB hS => ?_)
  obtain ⟨WM, hMI, hP, hD⟩ := hB
  have hP := l_swP hP
  have hD := l_swD hD
  refine lv_pop (pc := 1281) hx hb dL_law_1281 rfl ?_
  refine lv_goto (pc := 1282) (tgt := 2146) hx hb dL_law_1282 rfl ?_
  exact hgo WX WM _ _ _ _ _ _ _ _ _ hXI hMI hP hD hS hc hs
theorem law_23 (p : Program) (l : Launch) (e : Env) (s : State) (m : MethodId) (below : List Frame) (meth : Method) (c : Code) (b L : Nat) (xs : Nat → Int32) (D : va_G) (ci : Nat → ClassId) (sa : Nat → Nat) {a_x a_m i : Nat} {ls : Array Slot} (C0 : lL_C p l e s m below meth c b L xs D ci sa) (hi : i + 8 ≤ L) (hl : lv_has ls 4 [(3, .int (nI i)), (2, .ref a_m), (1, .ref a_x), (0, .ref b)]) (hgo : lL_go p l e s m below meth c b L xs D ci sa a_x a_m ls 2146) : lL_go p l e s m below meth c b L xs D ci sa a_x a_m ls 1285 := by
  obtain ⟨hx, hb, hml, hown, hts, hX, hbl, hK, hZ, hret, hlocks, hL⟩ := C0
  intro WX WM t n s0 sv kv H locs cells slots hXI hMI hP hD hS hc hs
  have hA : ∀ q : Nat, s.heap.size ≤ q → (fun q : Nat => s.heap.size ≤ q) q := fun _ h => h
  have hbA : ¬ (fun q : Nat => s.heap.size ≤ q) b := Nat.not_le.mpr hbl
  have hn := hXI.n
  have hok := hXI.ok
  refine lv_aload_n (pc := 1285) hx hb dL_law_1285 rfl (lv_at hl 2 rfl) ?_
  refine lv_aload_n (pc := 1286) hx hb dL_law_1286 rfl (lv_at hl 3 rfl) ?_
  refine lv_iload_n (pc := 1287) hx hb dL_law_1287 rfl (lv_at hl 0 rfl) ?_
  refine lv_iconst (pc := 1288) (v := nI 1) hx hb dL_law_1288 (by decide) ?_
  refine lv_iadd (pc := 1289) hx hb dL_law_1289 ?_
  refine va_sld (pc := 1290) hx hb hX hbl hbA hS (l_in hi (show 1 < 8 by decide) hL) dL_law_1290 ?_
  refine lv_aload_n (pc := 1291) hx hb dL_law_1291 rfl (lv_at hl 3 rfl) ?_
  refine lv_iload_n (pc := 1292) hx hb dL_law_1292 rfl (lv_at hl 0 rfl) ?_
  refine lv_iconst (pc := 1293) (v := nI 2) hx hb dL_law_1293 (by decide) ?_
  refine lv_iadd (pc := 1294) hx hb dL_law_1294 ?_
  refine va_sld (pc := 1295) hx hb hX hbl hbA hS (l_in hi (show 2 < 8 by decide) hL) dL_law_1295 ?_
  refine lv_aload_n (pc := 1296) hx hb dL_law_1296 rfl (lv_at hl 3 rfl) ?_
  refine lv_iload_n (pc := 1297) hx hb dL_law_1297 rfl (lv_at hl 0 rfl) ?_
  refine lv_iconst (pc := 1298) (v := nI 3) hx hb dL_law_1298 (by decide) ?_
  refine lv_iadd (pc := 1299) hx hb dL_law_1299 ?_
  refine va_sld (pc := 1300) hx hb hX hbl hbA hS (l_in hi (show 3 < 8 by decide) hL) dL_law_1300 ?_
  refine lv_aload_n (pc := 1301) hx hb dL_law_1301 rfl (lv_at hl 3 rfl) ?_
  refine lv_iload_n (pc := 1302) hx hb dL_law_1302 rfl (lv_at hl 0 rfl) ?_
  refine lv_iconst (pc := 1303) (v := nI 4) hx hb dL_law_1303 (by decide) ?_
  refine lv_iadd (pc := 1304) hx hb dL_law_1304 ?_
  refine va_sld (pc := 1305) hx hb hX hbl hbA hS (l_in hi (show 4 < 8 by decide) hL) dL_law_1305 ?_
  refine lv_aload_n (pc := 1306) hx hb dL_law_1306 rfl (lv_at hl 3 rfl) ?_
  refine lv_iload_n (pc := 1307) hx hb dL_law_1307 rfl (lv_at hl 0 rfl) ?_
  refine lv_iconst (pc := 1308) (v := nI 5) hx hb dL_law_1308 (by decide) ?_
  refine lv_iadd (pc := 1309) hx hb dL_law_1309 ?_
  refine va_sld (pc := 1310) hx hb hX hbl hbA hS (l_in hi (show 5 < 8 by decide) hL) dL_law_1310 ?_
  refine lv_aload_n (pc := 1311) hx hb dL_law_1311 rfl (lv_at hl 3 rfl) ?_
  refine lv_iload_n (pc := 1312) hx hb dL_law_1312 rfl (lv_at hl 0 rfl) ?_
  refine lv_bipush (pc := 1313) (v := nI 6) hx hb dL_law_1313 (by decide) ?_
  refine lv_iadd (pc := 1315) hx hb dL_law_1315 ?_
  refine va_sld (pc := 1316) hx hb hX hbl hbA hS (l_in hi (show 6 < 8 by decide) hL) dL_law_1316 ?_
  obtain ⟨r, hM1⟩ := l_X_cover l D ci (fun q : Nat => s.heap.size ≤ q) sa WM hXI (xs (nI i + nI 1).toNatClampNeg) (xs (nI i + nI 2).toNatClampNeg) (xs (nI i + nI 3).toNatClampNeg) (xs (nI i + nI 4).toNatClampNeg) (xs (nI i + nI 5).toNatClampNeg) (xs (nI i + nI 6).toNatClampNeg)
  obtain ⟨fs, hh⟩ := hXI.hd WM
  refine q_call (pc := 1317) (va_runV (As := [.int (xs (nI i + nI 1).toNatClampNeg), .int (xs (nI i + nI 2).toNatClampNeg), .int (xs (nI i + nI 3).toNatClampNeg), .int (xs (nI i + nI 4).toNatClampNeg), .int (xs (nI i + nI 5).toNatClampNeg), .int (xs (nI i + nI 6).toNatClampNeg)]) (rest := []) ⟨hx, hb, hml, hown, hts⟩ hM1 (cwV 6 hts gL_law_X10_cover rfl rfl rfl (by decide +kernel) ⟨Nat.le_of_ble_eq_true rfl, Nat.le_of_ble_eq_true rfl⟩) (q_preV (n1 := 0) (is1 := []) hK hA hZ hP hD hS rfl ⟨rfl, rfl, rfl⟩ 0 hh rfl) rfl rfl hl.1 rfl (lv_room (Nat.le_of_ble_eq_true rfl)) dL_law_1317 (l_rm hn.2 hc hs (Nat.zero_le _) (Nat.zero_le _))) hS (fun t2 locs _ hB hS => ?_)
  obtain ⟨WX, hXI, hP, hD⟩ := hB
  refine lv_pop (pc := 1320) hx hb dL_law_1320 rfl ?_
  have hP := l_swP hP
  have hD := l_swD hD
  refine lv_aload_n (pc := 1321) hx hb dL_law_1321 rfl (lv_at hl 1 rfl) ?_
  refine lv_aload_n (pc := 1322) hx hb dL_law_1322 rfl (lv_at hl 3 rfl) ?_
  refine lv_iload_n (pc := 1323) hx hb dL_law_1323 rfl (lv_at hl 0 rfl) ?_
  refine lv_iconst (pc := 1324) (v := nI 1) hx hb dL_law_1324 (by decide) ?_
  refine lv_iadd (pc := 1325) hx hb dL_law_1325 ?_
  refine va_sld (pc := 1326) hx hb hX hbl hbA hS (l_in hi (show 1 < 8 by decide) hL) dL_law_1326 ?_
  refine lv_aload_n (pc := 1327) hx hb dL_law_1327 rfl (lv_at hl 3 rfl) ?_
  refine lv_iload_n (pc := 1328) hx hb dL_law_1328 rfl (lv_at hl 0 rfl) ?_
  refine lv_iconst (pc := 1329) (v := nI 2) hx hb dL_law_1329 (by decide) ?_
  refine lv_iadd (pc := 1330) hx hb dL_law_1330 ?_
  refine va_sld (pc := 1331) hx hb hX hbl hbA hS (l_in hi (show 2 < 8 by decide) hL) dL_law_1331 ?_
  refine lv_aload_n (pc := 1332) hx hb dL_law_1332 rfl (lv_at hl 3 rfl) ?_
  refine lv_iload_n (pc := 1333) hx hb dL_law_1333 rfl (lv_at hl 0 rfl) ?_
  refine lv_iconst (pc := 1334) (v := nI 3) hx hb dL_law_1334 (by decide) ?_
  refine lv_iadd (pc := 1335) hx hb dL_law_1335 ?_
  refine va_sld (pc := 1336) hx hb hX hbl hbA hS (l_in hi (show 3 < 8 by decide) hL) dL_law_1336 ?_
  refine lv_aload_n (pc := 1337) hx hb dL_law_1337 rfl (lv_at hl 3 rfl) ?_
  refine lv_iload_n (pc := 1338) hx hb dL_law_1338 rfl (lv_at hl 0 rfl) ?_
  refine lv_iconst (pc := 1339) (v := nI 4) hx hb dL_law_1339 (by decide) ?_
  refine lv_iadd (pc := 1340) hx hb dL_law_1340 ?_
  refine va_sld (pc := 1341) hx hb hX hbl hbA hS (l_in hi (show 4 < 8 by decide) hL) dL_law_1341 ?_
  refine lv_aload_n (pc := 1342) hx hb dL_law_1342 rfl (lv_at hl 3 rfl) ?_
  refine lv_iload_n (pc := 1343) hx hb dL_law_1343 rfl (lv_at hl 0 rfl) ?_
  refine lv_iconst (pc := 1344) (v := nI 5) hx hb dL_law_1344 (by decide) ?_
  refine lv_iadd (pc := 1345) hx hb dL_law_1345 ?_
  refine va_sld (pc := 1346) hx hb hX hbl hbA hS (l_in hi (show 5 < 8 by decide) hL) dL_law_1346 ?_
  refine lv_aload_n (pc := 1347) hx hb dL_law_1347 rfl (lv_at hl 3 rfl) ?_
  refine lv_iload_n (pc := 1348) hx hb dL_law_1348 rfl (lv_at hl 0 rfl) ?_
  refine lv_bipush (pc := 1349) (v := nI 6) hx hb dL_law_1349 (by decide) ?_
  refine lv_iadd (pc := 1351) hx hb dL_law_1351 ?_
  refine va_sld (pc := 1352) hx hb hX hbl hbA hS (l_in hi (show 6 < 8 by decide) hL) dL_law_1352 ?_
  obtain ⟨r2, hM2⟩ := l_M_cover l D ci (fun q : Nat => s.heap.size ≤ q) sa WX hMI (xs (nI i + nI 1).toNatClampNeg) (xs (nI i + nI 2).toNatClampNeg) (xs (nI i + nI 3).toNatClampNeg) (xs (nI i + nI 4).toNatClampNeg) (xs (nI i + nI 5).toNatClampNeg) (xs (nI i + nI 6).toNatClampNeg)
  obtain ⟨fs, hh⟩ := hMI.hd WX
  refine q_call (pc := 1353) (va_runV (As := [.int (xs (nI i + nI 1).toNatClampNeg), .int (xs (nI i + nI 2).toNatClampNeg), .int (xs (nI i + nI 3).toNatClampNeg), .int (xs (nI i + nI 4).toNatClampNeg), .int (xs (nI i + nI 5).toNatClampNeg), .int (xs (nI i + nI 6).toNatClampNeg)]) (rest := []) ⟨hx, hb, hml, hown, hts⟩ hM2 (cwV 6 hts gL_law_X11_cover rfl rfl rfl (by decide +kernel) ⟨Nat.le_of_ble_eq_true rfl, Nat.le_of_ble_eq_true rfl⟩) (q_preV (n1 := 0) (is1 := []) hK hA hZ hP hD hS rfl ⟨rfl, rfl, rfl⟩ 0 hh rfl) rfl rfl hl.1 rfl (lv_room (Nat.le_of_ble_eq_true rfl)) dL_law_1353 (l_rm hn.2 hc hs (Nat.zero_le _) (Nat.zero_le _))) hS (fun t2 locs _ hB hS => ?_)
  obtain ⟨WM, hMI, hP, hD⟩ := hB
  have hP := l_swP hP
  have hD := l_swD hD
  refine lv_pop (pc := 1356) hx hb dL_law_1356 rfl ?_
  refine lv_goto (pc := 1357) (tgt := 2146) hx hb dL_law_1357 rfl ?_
  exact hgo WX WM _ _ _ _ _ _ _ _ _ hXI hMI hP hD hS hc hs
theorem law_24 (p : Program) (l : Launch) (e : Env) (s : State) (m : MethodId) (below : List Frame) (meth : Method) (c : Code) (b L : Nat) (xs : Nat → Int32) (D : va_G) (ci : Nat → ClassId) (sa : Nat → Nat) {a_x a_m i : Nat} {ls : Array Slot} (C0 : lL_C p l e s m below meth c b L xs D ci sa) (hi : i + 8 ≤ L) (hl : lv_has ls 4 [(3, .int (nI i)), (2, .ref a_m), (1, .ref a_x), (0, .ref b)]) (hgo : lL_go p l e s m below meth c b L xs D ci sa a_x a_m ls 2146) : lL_go p l e s m below meth c b L xs D ci sa a_x a_m ls 1360 := by
  obtain ⟨hx, hb, hml, hown, hts, hX, hbl, hK, hZ, hret, hlocks, hL⟩ := C0
  intro WX WM t n s0 sv kv H locs cells slots hXI hMI hP hD hS hc hs
  have hA : ∀ q : Nat, s.heap.size ≤ q → (fun q : Nat => s.heap.size ≤ q) q := fun _ h => h
  have hbA : ¬ (fun q : Nat => s.heap.size ≤ q) b := Nat.not_le.mpr hbl
  have hn := hXI.n
  have hok := hXI.ok
  refine lv_aload_n (pc := 1360) hx hb dL_law_1360 rfl (lv_at hl 2 rfl) ?_
  refine lv_aload_n (pc := 1361) hx hb dL_law_1361 rfl (lv_at hl 3 rfl) ?_
  refine lv_iload_n (pc := 1362) hx hb dL_law_1362 rfl (lv_at hl 0 rfl) ?_
  refine lv_iconst (pc := 1363) (v := nI 1) hx hb dL_law_1363 (by decide) ?_
  refine lv_iadd (pc := 1364) hx hb dL_law_1364 ?_
  refine va_sld (pc := 1365) hx hb hX hbl hbA hS (l_in hi (show 1 < 8 by decide) hL) dL_law_1365 ?_
  refine lv_aload_n (pc := 1366) hx hb dL_law_1366 rfl (lv_at hl 3 rfl) ?_
  refine lv_iload_n (pc := 1367) hx hb dL_law_1367 rfl (lv_at hl 0 rfl) ?_
  refine lv_iconst (pc := 1368) (v := nI 2) hx hb dL_law_1368 (by decide) ?_
  refine lv_iadd (pc := 1369) hx hb dL_law_1369 ?_
  refine va_sld (pc := 1370) hx hb hX hbl hbA hS (l_in hi (show 2 < 8 by decide) hL) dL_law_1370 ?_
  refine lv_aload_n (pc := 1371) hx hb dL_law_1371 rfl (lv_at hl 3 rfl) ?_
  refine lv_iload_n (pc := 1372) hx hb dL_law_1372 rfl (lv_at hl 0 rfl) ?_
  refine lv_iconst (pc := 1373) (v := nI 3) hx hb dL_law_1373 (by decide) ?_
  refine lv_iadd (pc := 1374) hx hb dL_law_1374 ?_
  refine va_sld (pc := 1375) hx hb hX hbl hbA hS (l_in hi (show 3 < 8 by decide) hL) dL_law_1375 ?_
  obtain ⟨r, hM1⟩ := l_X_between l D ci (fun q : Nat => s.heap.size ≤ q) sa WM hXI (xs (nI i + nI 1).toNatClampNeg) (xs (nI i + nI 2).toNatClampNeg) (xs (nI i + nI 3).toNatClampNeg)
  obtain ⟨fs, hh⟩ := hXI.hd WM
  refine q_call (pc := 1376) (va_runV (As := [.int (xs (nI i + nI 1).toNatClampNeg), .int (xs (nI i + nI 2).toNatClampNeg), .int (xs (nI i + nI 3).toNatClampNeg)]) (rest := []) ⟨hx, hb, hml, hown, hts⟩ hM1 (cwV 3 hts gL_law_X10_between rfl rfl rfl (by decide +kernel) ⟨Nat.le_of_ble_eq_true rfl, Nat.le_of_ble_eq_true rfl⟩) (q_preV (n1 := 0) (is1 := []) hK hA hZ hP hD hS rfl ⟨rfl, rfl, rfl⟩ 0 hh rfl) rfl rfl hl.1 rfl (lv_room (Nat.le_of_ble_eq_true rfl)) dL_law_1376 (l_rm hn.2 hc hs (Nat.zero_le _) (Nat.zero_le _))) hS (fun t2 locs _ hB hS => ?_)
  obtain ⟨WX, hXI, hP, hD⟩ := hB
  refine lv_pop (pc := 1379) hx hb dL_law_1379 rfl ?_
  have hP := l_swP hP
  have hD := l_swD hD
  refine lv_aload_n (pc := 1380) hx hb dL_law_1380 rfl (lv_at hl 1 rfl) ?_
  refine lv_aload_n (pc := 1381) hx hb dL_law_1381 rfl (lv_at hl 3 rfl) ?_
  refine lv_iload_n (pc := 1382) hx hb dL_law_1382 rfl (lv_at hl 0 rfl) ?_
  refine lv_iconst (pc := 1383) (v := nI 1) hx hb dL_law_1383 (by decide) ?_
  refine lv_iadd (pc := 1384) hx hb dL_law_1384 ?_
  refine va_sld (pc := 1385) hx hb hX hbl hbA hS (l_in hi (show 1 < 8 by decide) hL) dL_law_1385 ?_
  refine lv_aload_n (pc := 1386) hx hb dL_law_1386 rfl (lv_at hl 3 rfl) ?_
  refine lv_iload_n (pc := 1387) hx hb dL_law_1387 rfl (lv_at hl 0 rfl) ?_
  refine lv_iconst (pc := 1388) (v := nI 2) hx hb dL_law_1388 (by decide) ?_
  refine lv_iadd (pc := 1389) hx hb dL_law_1389 ?_
  refine va_sld (pc := 1390) hx hb hX hbl hbA hS (l_in hi (show 2 < 8 by decide) hL) dL_law_1390 ?_
  refine lv_aload_n (pc := 1391) hx hb dL_law_1391 rfl (lv_at hl 3 rfl) ?_
  refine lv_iload_n (pc := 1392) hx hb dL_law_1392 rfl (lv_at hl 0 rfl) ?_
  refine lv_iconst (pc := 1393) (v := nI 3) hx hb dL_law_1393 (by decide) ?_
  refine lv_iadd (pc := 1394) hx hb dL_law_1394 ?_
  refine va_sld (pc := 1395) hx hb hX hbl hbA hS (l_in hi (show 3 < 8 by decide) hL) dL_law_1395 ?_
  obtain ⟨r2, hM2⟩ := l_M_between l D ci (fun q : Nat => s.heap.size ≤ q) sa WX hMI (xs (nI i + nI 1).toNatClampNeg) (xs (nI i + nI 2).toNatClampNeg) (xs (nI i + nI 3).toNatClampNeg)
  obtain ⟨fs, hh⟩ := hMI.hd WX
  refine q_call (pc := 1396) (va_runV (As := [.int (xs (nI i + nI 1).toNatClampNeg), .int (xs (nI i + nI 2).toNatClampNeg), .int (xs (nI i + nI 3).toNatClampNeg)]) (rest := []) ⟨hx, hb, hml, hown, hts⟩ hM2 (cwV 3 hts gL_law_X11_between rfl rfl rfl (by decide +kernel) ⟨Nat.le_of_ble_eq_true rfl, Nat.le_of_ble_eq_true rfl⟩) (q_preV (n1 := 0) (is1 := []) hK hA hZ hP hD hS rfl ⟨rfl, rfl, rfl⟩ 0 hh rfl) rfl rfl hl.1 rfl (lv_room (Nat.le_of_ble_eq_true rfl)) dL_law_1396 (l_rm hn.2 hc hs (Nat.zero_le _) (Nat.zero_le _))) hS (fun t2 locs _ hB hS => ?_)
  obtain ⟨WM, hMI, hP, hD⟩ := hB
  have hP := l_swP hP
  have hD := l_swD hD
  refine lv_pop (pc := 1399) hx hb dL_law_1399 rfl ?_
  refine lv_goto (pc := 1400) (tgt := 2146) hx hb dL_law_1400 rfl ?_
  exact hgo WX WM _ _ _ _ _ _ _ _ _ hXI hMI hP hD hS hc hs
theorem law_25 (p : Program) (l : Launch) (e : Env) (s : State) (m : MethodId) (below : List Frame) (meth : Method) (c : Code) (b L : Nat) (xs : Nat → Int32) (D : va_G) (ci : Nat → ClassId) (sa : Nat → Nat) {a_x a_m i : Nat} {ls : Array Slot} (C0 : lL_C p l e s m below meth c b L xs D ci sa) (hi : i + 8 ≤ L) (hl : lv_has ls 4 [(3, .int (nI i)), (2, .ref a_m), (1, .ref a_x), (0, .ref b)]) (hgo : lL_go p l e s m below meth c b L xs D ci sa a_x a_m ls 2146) : lL_go p l e s m below meth c b L xs D ci sa a_x a_m ls 1403 := by
  obtain ⟨hx, hb, hml, hown, hts, hX, hbl, hK, hZ, hret, hlocks, hL⟩ := C0
  intro WX WM t n s0 sv kv H locs cells slots hXI hMI hP hD hS hc hs
  have hA : ∀ q : Nat, s.heap.size ≤ q → (fun q : Nat => s.heap.size ≤ q) q := fun _ h => h
  have hbA : ¬ (fun q : Nat => s.heap.size ≤ q) b := Nat.not_le.mpr hbl
  have hn := hXI.n
  have hok := hXI.ok
  refine lv_aload_n (pc := 1403) hx hb dL_law_1403 rfl (lv_at hl 2 rfl) ?_
  refine lv_aload_n (pc := 1404) hx hb dL_law_1404 rfl (lv_at hl 3 rfl) ?_
  refine lv_iload_n (pc := 1405) hx hb dL_law_1405 rfl (lv_at hl 0 rfl) ?_
  refine lv_iconst (pc := 1406) (v := nI 1) hx hb dL_law_1406 (by decide) ?_
  refine lv_iadd (pc := 1407) hx hb dL_law_1407 ?_
  refine va_sld (pc := 1408) hx hb hX hbl hbA hS (l_in hi (show 1 < 8 by decide) hL) dL_law_1408 ?_
  refine lv_aload_n (pc := 1409) hx hb dL_law_1409 rfl (lv_at hl 3 rfl) ?_
  refine lv_iload_n (pc := 1410) hx hb dL_law_1410 rfl (lv_at hl 0 rfl) ?_
  refine lv_iconst (pc := 1411) (v := nI 2) hx hb dL_law_1411 (by decide) ?_
  refine lv_iadd (pc := 1412) hx hb dL_law_1412 ?_
  refine va_sld (pc := 1413) hx hb hX hbl hbA hS (l_in hi (show 2 < 8 by decide) hL) dL_law_1413 ?_
  refine lv_aload_n (pc := 1414) hx hb dL_law_1414 rfl (lv_at hl 3 rfl) ?_
  refine lv_iload_n (pc := 1415) hx hb dL_law_1415 rfl (lv_at hl 0 rfl) ?_
  refine lv_iconst (pc := 1416) (v := nI 3) hx hb dL_law_1416 (by decide) ?_
  refine lv_iadd (pc := 1417) hx hb dL_law_1417 ?_
  refine va_sld (pc := 1418) hx hb hX hbl hbA hS (l_in hi (show 3 < 8 by decide) hL) dL_law_1418 ?_
  obtain ⟨r, hM1⟩ := l_X_wider l D ci (fun q : Nat => s.heap.size ≤ q) sa WM hXI (xs (nI i + nI 1).toNatClampNeg) (xs (nI i + nI 2).toNatClampNeg) (xs (nI i + nI 3).toNatClampNeg)
  obtain ⟨fs, hh⟩ := hXI.hd WM
  refine q_call (pc := 1419) (va_runV (As := [.int (xs (nI i + nI 1).toNatClampNeg), .int (xs (nI i + nI 2).toNatClampNeg), .int (xs (nI i + nI 3).toNatClampNeg)]) (rest := []) ⟨hx, hb, hml, hown, hts⟩ hM1 (cwV 3 hts gL_law_X10_wider rfl rfl rfl (by decide +kernel) ⟨Nat.le_of_ble_eq_true rfl, Nat.le_of_ble_eq_true rfl⟩) (q_preV (n1 := 0) (is1 := []) hK hA hZ hP hD hS rfl ⟨rfl, rfl, rfl⟩ 0 hh rfl) rfl rfl hl.1 rfl (lv_room (Nat.le_of_ble_eq_true rfl)) dL_law_1419 (l_rm hn.2 hc hs (Nat.zero_le _) (Nat.zero_le _))) hS (fun t2 locs _ hB hS => ?_)
  obtain ⟨WX, hXI, hP, hD⟩ := hB
  refine lv_pop (pc := 1422) hx hb dL_law_1422 rfl ?_
  have hP := l_swP hP
  have hD := l_swD hD
  refine lv_aload_n (pc := 1423) hx hb dL_law_1423 rfl (lv_at hl 1 rfl) ?_
  refine lv_aload_n (pc := 1424) hx hb dL_law_1424 rfl (lv_at hl 3 rfl) ?_
  refine lv_iload_n (pc := 1425) hx hb dL_law_1425 rfl (lv_at hl 0 rfl) ?_
  refine lv_iconst (pc := 1426) (v := nI 1) hx hb dL_law_1426 (by decide) ?_
  refine lv_iadd (pc := 1427) hx hb dL_law_1427 ?_
  refine va_sld (pc := 1428) hx hb hX hbl hbA hS (l_in hi (show 1 < 8 by decide) hL) dL_law_1428 ?_
  refine lv_aload_n (pc := 1429) hx hb dL_law_1429 rfl (lv_at hl 3 rfl) ?_
  refine lv_iload_n (pc := 1430) hx hb dL_law_1430 rfl (lv_at hl 0 rfl) ?_
  refine lv_iconst (pc := 1431) (v := nI 2) hx hb dL_law_1431 (by decide) ?_
  refine lv_iadd (pc := 1432) hx hb dL_law_1432 ?_
  refine va_sld (pc := 1433) hx hb hX hbl hbA hS (l_in hi (show 2 < 8 by decide) hL) dL_law_1433 ?_
  refine lv_aload_n (pc := 1434) hx hb dL_law_1434 rfl (lv_at hl 3 rfl) ?_
  refine lv_iload_n (pc := 1435) hx hb dL_law_1435 rfl (lv_at hl 0 rfl) ?_
  refine lv_iconst (pc := 1436) (v := nI 3) hx hb dL_law_1436 (by decide) ?_
  refine lv_iadd (pc := 1437) hx hb dL_law_1437 ?_
  refine va_sld (pc := 1438) hx hb hX hbl hbA hS (l_in hi (show 3 < 8 by decide) hL) dL_law_1438 ?_
  obtain ⟨r2, hM2⟩ := l_M_wider l D ci (fun q : Nat => s.heap.size ≤ q) sa WX hMI (xs (nI i + nI 1).toNatClampNeg) (xs (nI i + nI 2).toNatClampNeg) (xs (nI i + nI 3).toNatClampNeg)
  obtain ⟨fs, hh⟩ := hMI.hd WX
  refine q_call (pc := 1439) (va_runV (As := [.int (xs (nI i + nI 1).toNatClampNeg), .int (xs (nI i + nI 2).toNatClampNeg), .int (xs (nI i + nI 3).toNatClampNeg)]) (rest := []) ⟨hx, hb, hml, hown, hts⟩ hM2 (cwV 3 hts gL_law_X11_wider rfl rfl rfl (by decide +kernel) ⟨Nat.le_of_ble_eq_true rfl, Nat.le_of_ble_eq_true rfl⟩) (q_preV (n1 := 0) (is1 := []) hK hA hZ hP hD hS rfl ⟨rfl, rfl, rfl⟩ 0 hh rfl) rfl rfl hl.1 rfl (lv_room (Nat.le_of_ble_eq_true rfl)) dL_law_1439 (l_rm hn.2 hc hs (Nat.zero_le _) (Nat.zero_le _))) hS (fun t2 locs _ hB hS => ?_)
  obtain ⟨WM, hMI, hP, hD⟩ := hB
  have hP := l_swP hP
  have hD := l_swD hD
  refine lv_pop (pc := 1442) hx hb dL_law_1442 rfl ?_
  refine lv_goto (pc := 1443) (tgt := 2146) hx hb dL_law_1443 rfl ?_
  exact hgo WX WM _ _ _ _ _ _ _ _ _ hXI hMI hP hD hS hc hs
theorem law_26 (p : Program) (l : Launch) (e : Env) (s : State) (m : MethodId) (below : List Frame) (meth : Method) (c : Code) (b L : Nat) (xs : Nat → Int32) (D : va_G) (ci : Nat → ClassId) (sa : Nat → Nat) {a_x a_m i : Nat} {ls : Array Slot} (C0 : lL_C p l e s m below meth c b L xs D ci sa) (hi : i + 8 ≤ L) (hl : lv_has ls 4 [(3, .int (nI i)), (2, .ref a_m), (1, .ref a_x), (0, .ref b)]) (hgo : lL_go p l e s m below meth c b L xs D ci sa a_x a_m ls 2146) : lL_go p l e s m below meth c b L xs D ci sa a_x a_m ls 1446 := by
  obtain ⟨hx, hb, hml, hown, hts, hX, hbl, hK, hZ, hret, hlocks, hL⟩ := C0
  intro WX WM t n s0 sv kv H locs cells slots hXI hMI hP hD hS hc hs
  have hA : ∀ q : Nat, s.heap.size ≤ q → (fun q : Nat => s.heap.size ≤ q) q := fun _ h => h
  have hbA : ¬ (fun q : Nat => s.heap.size ≤ q) b := Nat.not_le.mpr hbl
  have hn := hXI.n
  have hok := hXI.ok
  refine lv_aload_n (pc := 1446) hx hb dL_law_1446 rfl (lv_at hl 2 rfl) ?_
  refine lv_aload_n (pc := 1447) hx hb dL_law_1447 rfl (lv_at hl 3 rfl) ?_
  refine lv_iload_n (pc := 1448) hx hb dL_law_1448 rfl (lv_at hl 0 rfl) ?_
  refine lv_iconst (pc := 1449) (v := nI 1) hx hb dL_law_1449 (by decide) ?_
  refine lv_iadd (pc := 1450) hx hb dL_law_1450 ?_
  refine va_sld (pc := 1451) hx hb hX hbl hbA hS (l_in hi (show 1 < 8 by decide) hL) dL_law_1451 ?_
  refine lv_aload_n (pc := 1452) hx hb dL_law_1452 rfl (lv_at hl 3 rfl) ?_
  refine lv_iload_n (pc := 1453) hx hb dL_law_1453 rfl (lv_at hl 0 rfl) ?_
  refine lv_iconst (pc := 1454) (v := nI 2) hx hb dL_law_1454 (by decide) ?_
  refine lv_iadd (pc := 1455) hx hb dL_law_1455 ?_
  refine va_sld (pc := 1456) hx hb hX hbl hbA hS (l_in hi (show 2 < 8 by decide) hL) dL_law_1456 ?_
  refine lv_aload_n (pc := 1457) hx hb dL_law_1457 rfl (lv_at hl 3 rfl) ?_
  refine lv_iload_n (pc := 1458) hx hb dL_law_1458 rfl (lv_at hl 0 rfl) ?_
  refine lv_iconst (pc := 1459) (v := nI 3) hx hb dL_law_1459 (by decide) ?_
  refine lv_iadd (pc := 1460) hx hb dL_law_1460 ?_
  refine va_sld (pc := 1461) hx hb hX hbl hbA hS (l_in hi (show 3 < 8 by decide) hL) dL_law_1461 ?_
  obtain ⟨r, hM1⟩ := l_X_before l D ci (fun q : Nat => s.heap.size ≤ q) sa WM hXI (xs (nI i + nI 1).toNatClampNeg) (xs (nI i + nI 2).toNatClampNeg) (xs (nI i + nI 3).toNatClampNeg)
  obtain ⟨fs, hh⟩ := hXI.hd WM
  refine q_call (pc := 1462) (va_runV (As := [.int (xs (nI i + nI 1).toNatClampNeg), .int (xs (nI i + nI 2).toNatClampNeg), .int (xs (nI i + nI 3).toNatClampNeg)]) (rest := []) ⟨hx, hb, hml, hown, hts⟩ hM1 (cwV 3 hts gL_law_X10_before rfl rfl rfl (by decide +kernel) ⟨Nat.le_of_ble_eq_true rfl, Nat.le_of_ble_eq_true rfl⟩) (q_preV (n1 := 0) (is1 := []) hK hA hZ hP hD hS rfl ⟨rfl, rfl, rfl⟩ 0 hh rfl) rfl rfl hl.1 rfl (lv_room (Nat.le_of_ble_eq_true rfl)) dL_law_1462 (l_rm hn.2 hc hs (Nat.zero_le _) (Nat.zero_le _))) hS (fun t2 locs _ hB hS => ?_)
  obtain ⟨WX, hXI, hP, hD⟩ := hB
  refine lv_pop (pc := 1465) hx hb dL_law_1465 rfl ?_
  have hP := l_swP hP
  have hD := l_swD hD
  refine lv_aload_n (pc := 1466) hx hb dL_law_1466 rfl (lv_at hl 1 rfl) ?_
  refine lv_aload_n (pc := 1467) hx hb dL_law_1467 rfl (lv_at hl 3 rfl) ?_
  refine lv_iload_n (pc := 1468) hx hb dL_law_1468 rfl (lv_at hl 0 rfl) ?_
  refine lv_iconst (pc := 1469) (v := nI 1) hx hb dL_law_1469 (by decide) ?_
  refine lv_iadd (pc := 1470) hx hb dL_law_1470 ?_
  refine va_sld (pc := 1471) hx hb hX hbl hbA hS (l_in hi (show 1 < 8 by decide) hL) dL_law_1471 ?_
  refine lv_aload_n (pc := 1472) hx hb dL_law_1472 rfl (lv_at hl 3 rfl) ?_
  refine lv_iload_n (pc := 1473) hx hb dL_law_1473 rfl (lv_at hl 0 rfl) ?_
  refine lv_iconst (pc := 1474) (v := nI 2) hx hb dL_law_1474 (by decide) ?_
  refine lv_iadd (pc := 1475) hx hb dL_law_1475 ?_
  refine va_sld (pc := 1476) hx hb hX hbl hbA hS (l_in hi (show 2 < 8 by decide) hL) dL_law_1476 ?_
  refine lv_aload_n (pc := 1477) hx hb dL_law_1477 rfl (lv_at hl 3 rfl) ?_
  refine lv_iload_n (pc := 1478) hx hb dL_law_1478 rfl (lv_at hl 0 rfl) ?_
  refine lv_iconst (pc := 1479) (v := nI 3) hx hb dL_law_1479 (by decide) ?_
  refine lv_iadd (pc := 1480) hx hb dL_law_1480 ?_
  refine va_sld (pc := 1481) hx hb hX hbl hbA hS (l_in hi (show 3 < 8 by decide) hL) dL_law_1481 ?_
  obtain ⟨r2, hM2⟩ := l_M_before l D ci (fun q : Nat => s.heap.size ≤ q) sa WX hMI (xs (nI i + nI 1).toNatClampNeg) (xs (nI i + nI 2).toNatClampNeg) (xs (nI i + nI 3).toNatClampNeg)
  obtain ⟨fs, hh⟩ := hMI.hd WX
  refine q_call (pc := 1482) (va_runV (As := [.int (xs (nI i + nI 1).toNatClampNeg), .int (xs (nI i + nI 2).toNatClampNeg), .int (xs (nI i + nI 3).toNatClampNeg)]) (rest := []) ⟨hx, hb, hml, hown, hts⟩ hM2 (cwV 3 hts gL_law_X11_before rfl rfl rfl (by decide +kernel) ⟨Nat.le_of_ble_eq_true rfl, Nat.le_of_ble_eq_true rfl⟩) (q_preV (n1 := 0) (is1 := []) hK hA hZ hP hD hS rfl ⟨rfl, rfl, rfl⟩ 0 hh rfl) rfl rfl hl.1 rfl (lv_room (Nat.le_of_ble_eq_true rfl)) dL_law_1482 (l_rm hn.2 hc hs (Nat.zero_le _) (Nat.zero_le _))) hS (fun t2 locs _ hB hS => ?_)
  obtain ⟨WM, hMI, hP, hD⟩ := hB
  have hP := l_swP hP
  have hD := l_swD hD
  refine lv_pop (pc := 1485) hx hb dL_law_1485 rfl ?_
  refine lv_goto (pc := 1486) (tgt := 2146) hx hb dL_law_1486 rfl ?_
  exact hgo WX WM _ _ _ _ _ _ _ _ _ hXI hMI hP hD hS hc hs
theorem law_27 (p : Program) (l : Launch) (e : Env) (s : State) (m : MethodId) (below : List Frame) (meth : Method) (c : Code) (b L : Nat) (xs : Nat → Int32) (D : va_G) (ci : Nat → ClassId) (sa : Nat → Nat) {a_x a_m i : Nat} {ls : Array Slot} (C0 : lL_C p l e s m below meth c b L xs D ci sa) (hi : i + 8 ≤ L) (hl : lv_has ls 4 [(3, .int (nI i)), (2, .ref a_m), (1, .ref a_x), (0, .ref b)]) (hgo : lL_go p l e s m below meth c b L xs D ci sa a_x a_m ls 2146) : lL_go p l e s m below meth c b L xs D ci sa a_x a_m ls 1489 := by
  obtain ⟨hx, hb, hml, hown, hts, hX, hbl, hK, hZ, hret, hlocks, hL⟩ := C0
  intro WX WM t n s0 sv kv H locs cells slots hXI hMI hP hD hS hc hs
  have hA : ∀ q : Nat, s.heap.size ≤ q → (fun q : Nat => s.heap.size ≤ q) q := fun _ h => h
  have hbA : ¬ (fun q : Nat => s.heap.size ≤ q) b := Nat.not_le.mpr hbl
  have hn := hXI.n
  have hok := hXI.ok
  refine lv_aload_n (pc := 1489) hx hb dL_law_1489 rfl (lv_at hl 2 rfl) ?_
  refine lv_aload_n (pc := 1490) hx hb dL_law_1490 rfl (lv_at hl 3 rfl) ?_
  refine lv_iload_n (pc := 1491) hx hb dL_law_1491 rfl (lv_at hl 0 rfl) ?_
  refine lv_iconst (pc := 1492) (v := nI 1) hx hb dL_law_1492 (by decide) ?_
  refine lv_iadd (pc := 1493) hx hb dL_law_1493 ?_
  refine va_sld (pc := 1494) hx hb hX hbl hbA hS (l_in hi (show 1 < 8 by decide) hL) dL_law_1494 ?_
  refine lv_aload_n (pc := 1495) hx hb dL_law_1495 rfl (lv_at hl 3 rfl) ?_
  refine lv_iload_n (pc := 1496) hx hb dL_law_1496 rfl (lv_at hl 0 rfl) ?_
  refine lv_iconst (pc := 1497) (v := nI 2) hx hb dL_law_1497 (by decide) ?_
  refine lv_iadd (pc := 1498) hx hb dL_law_1498 ?_
  refine va_sld (pc := 1499) hx hb hX hbl hbA hS (l_in hi (show 2 < 8 by decide) hL) dL_law_1499 ?_
  refine lv_aload_n (pc := 1500) hx hb dL_law_1500 rfl (lv_at hl 3 rfl) ?_
  refine lv_iload_n (pc := 1501) hx hb dL_law_1501 rfl (lv_at hl 0 rfl) ?_
  refine lv_iconst (pc := 1502) (v := nI 3) hx hb dL_law_1502 (by decide) ?_
  refine lv_iadd (pc := 1503) hx hb dL_law_1503 ?_
  refine va_sld (pc := 1504) hx hb hX hbl hbA hS (l_in hi (show 3 < 8 by decide) hL) dL_law_1504 ?_
  refine lv_aload_n (pc := 1505) hx hb dL_law_1505 rfl (lv_at hl 3 rfl) ?_
  refine lv_iload_n (pc := 1506) hx hb dL_law_1506 rfl (lv_at hl 0 rfl) ?_
  refine lv_iconst (pc := 1507) (v := nI 4) hx hb dL_law_1507 (by decide) ?_
  refine lv_iadd (pc := 1508) hx hb dL_law_1508 ?_
  refine va_sld (pc := 1509) hx hb hX hbl hbA hS (l_in hi (show 4 < 8 by decide) hL) dL_law_1509 ?_
  refine lv_aload_n (pc := 1510) hx hb dL_law_1510 rfl (lv_at hl 3 rfl) ?_
  refine lv_iload_n (pc := 1511) hx hb dL_law_1511 rfl (lv_at hl 0 rfl) ?_
  refine lv_iconst (pc := 1512) (v := nI 5) hx hb dL_law_1512 (by decide) ?_
  refine lv_iadd (pc := 1513) hx hb dL_law_1513 ?_
  refine va_sld (pc := 1514) hx hb hX hbl hbA hS (l_in hi (show 5 < 8 by decide) hL) dL_law_1514 ?_
  obtain ⟨r, hM1⟩ := l_X_moved l D ci (fun q : Nat => s.heap.size ≤ q) sa WM hXI (xs (nI i + nI 1).toNatClampNeg) (xs (nI i + nI 2).toNatClampNeg) (xs (nI i + nI 3).toNatClampNeg) (xs (nI i + nI 4).toNatClampNeg) (xs (nI i + nI 5).toNatClampNeg)
  obtain ⟨fs, hh⟩ := hXI.hd WM
  refine q_call (pc := 1515) (va_runV (As := [.int (xs (nI i + nI 1).toNatClampNeg), .int (xs (nI i + nI 2).toNatClampNeg), .int (xs (nI i + nI 3).toNatClampNeg), .int (xs (nI i + nI 4).toNatClampNeg), .int (xs (nI i + nI 5).toNatClampNeg)]) (rest := []) ⟨hx, hb, hml, hown, hts⟩ hM1 (cwV 5 hts gL_law_X10_moved rfl rfl rfl (by decide +kernel) ⟨Nat.le_of_ble_eq_true rfl, Nat.le_of_ble_eq_true rfl⟩) (q_preV (n1 := 0) (is1 := []) hK hA hZ hP hD hS rfl ⟨rfl, rfl, rfl⟩ 0 hh rfl) rfl rfl hl.1 rfl (lv_room (Nat.le_of_ble_eq_true rfl)) dL_law_1515 (l_rm hn.2 hc hs (Nat.zero_le _) (Nat.zero_le _))) hS (fun t2 locs _ hB hS => ?_)
  obtain ⟨WX, hXI, hP, hD⟩ := hB
  refine lv_pop (pc := 1518) hx hb dL_law_1518 rfl ?_
  have hP := l_swP hP
  have hD := l_swD hD
  refine lv_aload_n (pc := 1519) hx hb dL_law_1519 rfl (lv_at hl 1 rfl) ?_
  refine lv_aload_n (pc := 1520) hx hb dL_law_1520 rfl (lv_at hl 3 rfl) ?_
  refine lv_iload_n (pc := 1521) hx hb dL_law_1521 rfl (lv_at hl 0 rfl) ?_
  refine lv_iconst (pc := 1522) (v := nI 1) hx hb dL_law_1522 (by decide) ?_
  refine lv_iadd (pc := 1523) hx hb dL_law_1523 ?_
  refine va_sld (pc := 1524) hx hb hX hbl hbA hS (l_in hi (show 1 < 8 by decide) hL) dL_law_1524 ?_
  refine lv_aload_n (pc := 1525) hx hb dL_law_1525 rfl (lv_at hl 3 rfl) ?_
  refine lv_iload_n (pc := 1526) hx hb dL_law_1526 rfl (lv_at hl 0 rfl) ?_
  refine lv_iconst (pc := 1527) (v := nI 2) hx hb dL_law_1527 (by decide) ?_
  refine lv_iadd (pc := 1528) hx hb dL_law_1528 ?_
  refine va_sld (pc := 1529) hx hb hX hbl hbA hS (l_in hi (show 2 < 8 by decide) hL) dL_law_1529 ?_
  refine lv_aload_n (pc := 1530) hx hb dL_law_1530 rfl (lv_at hl 3 rfl) ?_
  refine lv_iload_n (pc := 1531) hx hb dL_law_1531 rfl (lv_at hl 0 rfl) ?_
  refine lv_iconst (pc := 1532) (v := nI 3) hx hb dL_law_1532 (by decide) ?_
  refine lv_iadd (pc := 1533) hx hb dL_law_1533 ?_
  refine va_sld (pc := 1534) hx hb hX hbl hbA hS (l_in hi (show 3 < 8 by decide) hL) dL_law_1534 ?_
  refine lv_aload_n (pc := 1535) hx hb dL_law_1535 rfl (lv_at hl 3 rfl) ?_
  refine lv_iload_n (pc := 1536) hx hb dL_law_1536 rfl (lv_at hl 0 rfl) ?_
  refine lv_iconst (pc := 1537) (v := nI 4) hx hb dL_law_1537 (by decide) ?_
  refine lv_iadd (pc := 1538) hx hb dL_law_1538 ?_
  refine va_sld (pc := 1539) hx hb hX hbl hbA hS (l_in hi (show 4 < 8 by decide) hL) dL_law_1539 ?_
  refine lv_aload_n (pc := 1540) hx hb dL_law_1540 rfl (lv_at hl 3 rfl) ?_
  refine lv_iload_n (pc := 1541) hx hb dL_law_1541 rfl (lv_at hl 0 rfl) ?_
  refine lv_iconst (pc := 1542) (v := nI 5) hx hb dL_law_1542 (by decide) ?_
  refine lv_iadd (pc := 1543) hx hb dL_law_1543 ?_
  refine va_sld (pc := 1544) hx hb hX hbl hbA hS (l_in hi (show 5 < 8 by decide) hL) dL_law_1544 ?_
  obtain ⟨r2, hM2⟩ := l_M_moved l D ci (fun q : Nat => s.heap.size ≤ q) sa WX hMI (xs (nI i + nI 1).toNatClampNeg) (xs (nI i + nI 2).toNatClampNeg) (xs (nI i + nI 3).toNatClampNeg) (xs (nI i + nI 4).toNatClampNeg) (xs (nI i + nI 5).toNatClampNeg)
  obtain ⟨fs, hh⟩ := hMI.hd WX
  refine q_call (pc := 1545) (va_runV (As := [.int (xs (nI i + nI 1).toNatClampNeg), .int (xs (nI i + nI 2).toNatClampNeg), .int (xs (nI i + nI 3).toNatClampNeg), .int (xs (nI i + nI 4).toNatClampNeg), .int (xs (nI i + nI 5).toNatClampNeg)]) (rest := []) ⟨hx, hb, hml, hown, hts⟩ hM2 (cwV 5 hts gL_law_X11_moved rfl rfl rfl (by decide +kernel) ⟨Nat.le_of_ble_eq_true rfl, Nat.le_of_ble_eq_true rfl⟩) (q_preV (n1 := 0) (is1 := []) hK hA hZ hP hD hS rfl ⟨rfl, rfl, rfl⟩ 0 hh rfl) rfl rfl hl.1 rfl (lv_room (Nat.le_of_ble_eq_true rfl)) dL_law_1545 (l_rm hn.2 hc hs (Nat.zero_le _) (Nat.zero_le _))) hS (fun t2 locs _ hB hS => ?_)
  obtain ⟨WM, hMI, hP, hD⟩ := hB
  have hP := l_swP hP
  have hD := l_swD hD
  refine lv_pop (pc := 1548) hx hb dL_law_1548 rfl ?_
  refine lv_goto (pc := 1549) (tgt := 2146) hx hb dL_law_1549 rfl ?_
  exact hgo WX WM _ _ _ _ _ _ _ _ _ hXI hMI hP hD hS hc hs
theorem law_28 (p : Program) (l : Launch) (e : Env) (s : State) (m : MethodId) (below : List Frame) (meth : Method) (c : Code) (b L : Nat) (xs : Nat → Int32) (D : va_G) (ci : Nat → ClassId) (sa : Nat → Nat) {a_x a_m i : Nat} {ls : Array Slot} (C0 : lL_C p l e s m below meth c b L xs D ci sa) (hi : i + 8 ≤ L) (hl : lv_has ls 4 [(3, .int (nI i)), (2, .ref a_m), (1, .ref a_x), (0, .ref b)]) (hgo : lL_go p l e s m below meth c b L xs D ci sa a_x a_m ls 2146) : lL_go p l e s m below meth c b L xs D ci sa a_x a_m ls 1552 := by
  obtain ⟨hx, hb, hml, hown, hts, hX, hbl, hK, hZ, hret, hlocks, hL⟩ := C0
  intro WX WM t n s0 sv kv H locs cells slots hXI hMI hP hD hS hc hs
  have hA : ∀ q : Nat, s.heap.size ≤ q → (fun q : Nat => s.heap.size ≤ q) q := fun _ h => h
  have hbA : ¬ (fun q : Nat => s.heap.size ≤ q) b := Nat.not_le.mpr hbl
  have hn := hXI.n
  have hok := hXI.ok
  refine lv_aload_n (pc := 1552) hx hb dL_law_1552 rfl (lv_at hl 2 rfl) ?_
  refine lv_aload_n (pc := 1553) hx hb dL_law_1553 rfl (lv_at hl 3 rfl) ?_
  refine lv_iload_n (pc := 1554) hx hb dL_law_1554 rfl (lv_at hl 0 rfl) ?_
  refine lv_iconst (pc := 1555) (v := nI 1) hx hb dL_law_1555 (by decide) ?_
  refine lv_iadd (pc := 1556) hx hb dL_law_1556 ?_
  refine va_sld (pc := 1557) hx hb hX hbl hbA hS (l_in hi (show 1 < 8 by decide) hL) dL_law_1557 ?_
  rcases l_X_ask l D ci (fun q : Nat => s.heap.size ≤ q) sa WM hXI (xs (nI i + nI 1).toNatClampNeg) with ⟨r, hM1⟩ | ⟨nL, r, hL1, hL2, hL3, hM1⟩
  · skip
    obtain ⟨fs, hh⟩ := hXI.hd WM
    refine q_call (pc := 1558) (va_runV (As := [.int (xs (nI i + nI 1).toNatClampNeg)]) (rest := []) ⟨hx, hb, hml, hown, hts⟩ hM1 (cwV 1 hts gL_law_X10_ask rfl rfl rfl (by decide +kernel) ⟨Nat.le_of_ble_eq_true rfl, Nat.le_of_ble_eq_true rfl⟩) (q_preV (n1 := 0) (is1 := []) hK hA hZ hP hD hS rfl ⟨rfl, rfl, rfl⟩ 0 hh rfl) rfl rfl hl.1 rfl (lv_room (Nat.le_of_ble_eq_true rfl)) dL_law_1558 (l_rm hn.2 hc hs (Nat.zero_le _) (Nat.zero_le _))) hS (fun t2 locs _ hB hS => ?_)
    obtain ⟨WX, hXI, hP, hD⟩ := hB
    refine lv_pop (pc := 1561) hx hb dL_law_1561 rfl ?_
    have hP := l_swP hP
    have hD := l_swD hD
    refine lv_aload_n (pc := 1562) hx hb dL_law_1562 rfl (lv_at hl 1 rfl) ?_
    refine lv_aload_n (pc := 1563) hx hb dL_law_1563 rfl (lv_at hl 3 rfl) ?_
    refine lv_iload_n (pc := 1564) hx hb dL_law_1564 rfl (lv_at hl 0 rfl) ?_
    refine lv_iconst (pc := 1565) (v := nI 1) hx hb dL_law_1565 (by decide) ?_
    refine lv_iadd (pc := 1566) hx hb dL_law_1566 ?_
    refine va_sld (pc := 1567) hx hb hX hbl hbA hS (l_in hi (show 1 < 8 by decide) hL) dL_law_1567 ?_
    obtain ⟨r2, hM2⟩ := l_M_ask l D ci (fun q : Nat => s.heap.size ≤ q) sa WX hMI (xs (nI i + nI 1).toNatClampNeg)
    obtain ⟨fs, hh⟩ := hMI.hd WX
    refine q_call (pc := 1568) (va_runV (As := [.int (xs (nI i + nI 1).toNatClampNeg)]) (rest := []) ⟨hx, hb, hml, hown, hts⟩ hM2 (cwV 1 hts gL_law_X11_ask rfl rfl rfl (by decide +kernel) ⟨Nat.le_of_ble_eq_true rfl, Nat.le_of_ble_eq_true rfl⟩) (q_preV (n1 := 0) (is1 := []) hK hA hZ hP hD hS rfl ⟨rfl, rfl, rfl⟩ 0 hh rfl) rfl rfl hl.1 rfl (lv_room (Nat.le_of_ble_eq_true rfl)) dL_law_1568 (l_rm hn.2 hc hs (Nat.zero_le _) (Nat.zero_le _))) hS (fun t2 locs _ hB hS => ?_)
    obtain ⟨WM, hMI, hP, hD⟩ := hB
    have hP := l_swP hP
    have hD := l_swD hD
    refine lv_pop (pc := 1571) hx hb dL_law_1571 rfl ?_
    refine lv_goto (pc := 1572) (tgt := 2146) hx hb dL_law_1572 rfl ?_
    exact hgo WX WM _ _ _ _ _ _ _ _ _ hXI hMI hP hD hS hc hs
  · have hpot := l_pot hn.1 hL3 hL1 hc hs
    obtain ⟨fs, hh⟩ := hXI.hd WM
    refine q_call (pc := 1558) (va_runV (As := [.int (xs (nI i + nI 1).toNatClampNeg)]) (rest := []) ⟨hx, hb, hml, hown, hts⟩ hM1 (cwV 1 hts gL_law_X10_ask rfl rfl rfl (by decide +kernel) ⟨Nat.le_of_ble_eq_true rfl, Nat.le_of_ble_eq_true rfl⟩) (q_preV (n1 := 0) (is1 := []) hK hA hZ hP hD hS rfl ⟨rfl, rfl, rfl⟩ 0 hh rfl) rfl rfl hl.1 rfl (lv_room (Nat.le_of_ble_eq_true rfl)) dL_law_1558 (l_rm hn.2 hc hs (Nat.le_refl _) (by omega))) hS (fun t2 locs _ hB hS => ?_)
    have hc : cells + 2 ≤ 200 + nL := hpot.1
    have hs : 1000 * (slots + (nL + nL)) ≤ 45000000 + nL * nL + 2000 * nL := hpot.2
    obtain ⟨WX, hXI, hP, hD⟩ := hB
    refine lv_pop (pc := 1561) hx hb dL_law_1561 rfl ?_
    have hn := hXI.n
    have hP := l_swP hP
    have hD := l_swD hD
    refine lv_aload_n (pc := 1562) hx hb dL_law_1562 rfl (lv_at hl 1 rfl) ?_
    refine lv_aload_n (pc := 1563) hx hb dL_law_1563 rfl (lv_at hl 3 rfl) ?_
    refine lv_iload_n (pc := 1564) hx hb dL_law_1564 rfl (lv_at hl 0 rfl) ?_
    refine lv_iconst (pc := 1565) (v := nI 1) hx hb dL_law_1565 (by decide) ?_
    refine lv_iadd (pc := 1566) hx hb dL_law_1566 ?_
    refine va_sld (pc := 1567) hx hb hX hbl hbA hS (l_in hi (show 1 < 8 by decide) hL) dL_law_1567 ?_
    obtain ⟨r2, hM2⟩ := l_M_ask l D ci (fun q : Nat => s.heap.size ≤ q) sa WX hMI (xs (nI i + nI 1).toNatClampNeg)
    obtain ⟨fs, hh⟩ := hMI.hd WX
    refine q_call (pc := 1568) (va_runV (As := [.int (xs (nI i + nI 1).toNatClampNeg)]) (rest := []) ⟨hx, hb, hml, hown, hts⟩ hM2 (cwV 1 hts gL_law_X11_ask rfl rfl rfl (by decide +kernel) ⟨Nat.le_of_ble_eq_true rfl, Nat.le_of_ble_eq_true rfl⟩) (q_preV (n1 := 0) (is1 := []) hK hA hZ hP hD hS rfl ⟨rfl, rfl, rfl⟩ 0 hh rfl) rfl rfl hl.1 rfl (lv_room (Nat.le_of_ble_eq_true rfl)) dL_law_1568 (l_rm hn.2 hc hs (Nat.zero_le _) (Nat.zero_le _))) hS (fun t2 locs _ hB hS => ?_)
    obtain ⟨WM, hMI, hP, hD⟩ := hB
    have hP := l_swP hP
    have hD := l_swD hD
    refine lv_pop (pc := 1571) hx hb dL_law_1571 rfl ?_
    refine lv_goto (pc := 1572) (tgt := 2146) hx hb dL_law_1572 rfl ?_
    exact hgo WX WM _ _ _ _ _ _ _ _ _ hXI hMI hP hD hS hc hs
theorem law_29 (p : Program) (l : Launch) (e : Env) (s : State) (m : MethodId) (below : List Frame) (meth : Method) (c : Code) (b L : Nat) (xs : Nat → Int32) (D : va_G) (ci : Nat → ClassId) (sa : Nat → Nat) {a_x a_m i : Nat} {ls : Array Slot} (C0 : lL_C p l e s m below meth c b L xs D ci sa) (hi : i + 8 ≤ L) (hl : lv_has ls 4 [(3, .int (nI i)), (2, .ref a_m), (1, .ref a_x), (0, .ref b)]) (hgo : lL_go p l e s m below meth c b L xs D ci sa a_x a_m ls 2146) : lL_go p l e s m below meth c b L xs D ci sa a_x a_m ls 1575 := by
  obtain ⟨hx, hb, hml, hown, hts, hX, hbl, hK, hZ, hret, hlocks, hL⟩ := C0
  intro WX WM t n s0 sv kv H locs cells slots hXI hMI hP hD hS hc hs
  have hA : ∀ q : Nat, s.heap.size ≤ q → (fun q : Nat => s.heap.size ≤ q) q := fun _ h => h
  have hbA : ¬ (fun q : Nat => s.heap.size ≤ q) b := Nat.not_le.mpr hbl
  have hn := hXI.n
  have hok := hXI.ok
  refine lv_aload_n (pc := 1575) hx hb dL_law_1575 rfl (lv_at hl 2 rfl) ?_
  refine lv_aload_n (pc := 1576) hx hb dL_law_1576 rfl (lv_at hl 3 rfl) ?_
  refine lv_iload_n (pc := 1577) hx hb dL_law_1577 rfl (lv_at hl 0 rfl) ?_
  refine lv_iconst (pc := 1578) (v := nI 1) hx hb dL_law_1578 (by decide) ?_
  refine lv_iadd (pc := 1579) hx hb dL_law_1579 ?_
  refine va_sld (pc := 1580) hx hb hX hbl hbA hS (l_in hi (show 1 < 8 by decide) hL) dL_law_1580 ?_
  refine lv_aload_n (pc := 1581) hx hb dL_law_1581 rfl (lv_at hl 3 rfl) ?_
  refine lv_iload_n (pc := 1582) hx hb dL_law_1582 rfl (lv_at hl 0 rfl) ?_
  refine lv_iconst (pc := 1583) (v := nI 2) hx hb dL_law_1583 (by decide) ?_
  refine lv_iadd (pc := 1584) hx hb dL_law_1584 ?_
  refine va_sld (pc := 1585) hx hb hX hbl hbA hS (l_in hi (show 2 < 8 by decide) hL) dL_law_1585 ?_
  refine lv_aload_n (pc := 1586) hx hb dL_law_1586 rfl (lv_at hl 3 rfl) ?_
  refine lv_iload_n (pc := 1587) hx hb dL_law_1587 rfl (lv_at hl 0 rfl) ?_
  refine lv_iconst (pc := 1588) (v := nI 3) hx hb dL_law_1588 (by decide) ?_
  refine lv_iadd (pc := 1589) hx hb dL_law_1589 ?_
  refine va_sld (pc := 1590) hx hb hX hbl hbA hS (l_in hi (show 3 < 8 by decide) hL) dL_law_1590 ?_
  obtain ⟨r, s2, hT, hM1⟩ := l_X_store l D ci (fun q : Nat => s.heap.size ≤ q) sa WM hXI (xs (nI i + nI 1).toNatClampNeg) (xs (nI i + nI 2).toNatClampNeg) (xs (nI i + nI 3).toNatClampNeg)
  obtain ⟨fs, hh⟩ := hXI.hd WM
  refine q_call (pc := 1591) (va_runV (As := [.int (xs (nI i + nI 1).toNatClampNeg), .int (xs (nI i + nI 2).toNatClampNeg), .int (xs (nI i + nI 3).toNatClampNeg)]) (rest := []) ⟨hx, hb, hml, hown, hts⟩ hM1 (cwV 3 hts gL_law_X10_store rfl rfl rfl (by decide +kernel) ⟨Nat.le_of_ble_eq_true rfl, Nat.le_of_ble_eq_true rfl⟩) (q_preV (n1 := 0) (is1 := []) hK hA hZ hP hD hS rfl ⟨rfl, rfl, rfl⟩ 0 hh rfl) rfl rfl hl.1 rfl (lv_room (Nat.le_of_ble_eq_true rfl)) dL_law_1591 (l_rm hn.2 hc hs (Nat.zero_le _) (Nat.zero_le _))) hS (fun t2 locs _ hB hS => ?_)
  obtain ⟨WX, hXI, hP, hD⟩ := hB
  refine lv_pop (pc := 1594) hx hb dL_law_1594 rfl ?_
  have hP := l_swP hP
  have hD := l_swD hD
  refine lv_aload_n (pc := 1595) hx hb dL_law_1595 rfl (lv_at hl 1 rfl) ?_
  refine lv_aload_n (pc := 1596) hx hb dL_law_1596 rfl (lv_at hl 3 rfl) ?_
  refine lv_iload_n (pc := 1597) hx hb dL_law_1597 rfl (lv_at hl 0 rfl) ?_
  refine lv_iconst (pc := 1598) (v := nI 1) hx hb dL_law_1598 (by decide) ?_
  refine lv_iadd (pc := 1599) hx hb dL_law_1599 ?_
  refine va_sld (pc := 1600) hx hb hX hbl hbA hS (l_in hi (show 1 < 8 by decide) hL) dL_law_1600 ?_
  refine lv_aload_n (pc := 1601) hx hb dL_law_1601 rfl (lv_at hl 3 rfl) ?_
  refine lv_iload_n (pc := 1602) hx hb dL_law_1602 rfl (lv_at hl 0 rfl) ?_
  refine lv_iconst (pc := 1603) (v := nI 2) hx hb dL_law_1603 (by decide) ?_
  refine lv_iadd (pc := 1604) hx hb dL_law_1604 ?_
  refine va_sld (pc := 1605) hx hb hX hbl hbA hS (l_in hi (show 2 < 8 by decide) hL) dL_law_1605 ?_
  refine lv_aload_n (pc := 1606) hx hb dL_law_1606 rfl (lv_at hl 3 rfl) ?_
  refine lv_iload_n (pc := 1607) hx hb dL_law_1607 rfl (lv_at hl 0 rfl) ?_
  refine lv_iconst (pc := 1608) (v := nI 3) hx hb dL_law_1608 (by decide) ?_
  refine lv_iadd (pc := 1609) hx hb dL_law_1609 ?_
  refine va_sld (pc := 1610) hx hb hX hbl hbA hS (l_in hi (show 3 < 8 by decide) hL) dL_law_1610 ?_
  obtain ⟨r2, s3, hT2, hM2⟩ := l_M_store l D ci (fun q : Nat => s.heap.size ≤ q) sa WX hMI (xs (nI i + nI 1).toNatClampNeg) (xs (nI i + nI 2).toNatClampNeg) (xs (nI i + nI 3).toNatClampNeg)
  obtain ⟨fs, hh⟩ := hMI.hd WX
  refine q_call (pc := 1611) (va_runV (As := [.int (xs (nI i + nI 1).toNatClampNeg), .int (xs (nI i + nI 2).toNatClampNeg), .int (xs (nI i + nI 3).toNatClampNeg)]) (rest := []) ⟨hx, hb, hml, hown, hts⟩ hM2 (cwV 3 hts gL_law_X11_store rfl rfl rfl (by decide +kernel) ⟨Nat.le_of_ble_eq_true rfl, Nat.le_of_ble_eq_true rfl⟩) (q_preV (n1 := 0) (is1 := []) hK hA hZ hP hD hS rfl ⟨rfl, rfl, rfl⟩ 0 hh rfl) rfl rfl hl.1 rfl (lv_room (Nat.le_of_ble_eq_true rfl)) dL_law_1611 (l_rm hn.2 hc hs (Nat.zero_le _) (Nat.zero_le _))) hS (fun t2 locs _ hB hS => ?_)
  obtain ⟨WM, hMI, hP, hD⟩ := hB
  obtain ⟨hrr, e23⟩ := l_tstore_one hok hT hT2
  rw [← e23] at hMI
  have hP := l_swP hP
  have hD := l_swD hD
  refine lv_pop (pc := 1614) hx hb dL_law_1614 rfl ?_
  refine lv_goto (pc := 1615) (tgt := 2146) hx hb dL_law_1615 rfl ?_
  exact hgo WX WM _ _ _ _ _ _ _ _ _ hXI hMI hP hD hS hc hs
theorem law_30 (p : Program) (l : Launch) (e : Env) (s : State) (m : MethodId) (below : List Frame) (meth : Method) (c : Code) (b L : Nat) (xs : Nat → Int32) (D : va_G) (ci : Nat → ClassId) (sa : Nat → Nat) {a_x a_m i : Nat} {ls : Array Slot} (C0 : lL_C p l e s m below meth c b L xs D ci sa) (hi : i + 8 ≤ L) (hl : lv_has ls 4 [(3, .int (nI i)), (2, .ref a_m), (1, .ref a_x), (0, .ref b)]) (hgo : lL_go p l e s m below meth c b L xs D ci sa a_x a_m ls 2146) : lL_go p l e s m below meth c b L xs D ci sa a_x a_m ls 1618 := by
  obtain ⟨hx, hb, hml, hown, hts, hX, hbl, hK, hZ, hret, hlocks, hL⟩ := C0
  intro WX WM t n s0 sv kv H locs cells slots hXI hMI hP hD hS hc hs
  have hA : ∀ q : Nat, s.heap.size ≤ q → (fun q : Nat => s.heap.size ≤ q) q := fun _ h => h
  have hbA : ¬ (fun q : Nat => s.heap.size ≤ q) b := Nat.not_le.mpr hbl
  have hn := hXI.n
  have hok := hXI.ok
  refine lv_aload_n (pc := 1618) hx hb dL_law_1618 rfl (lv_at hl 2 rfl) ?_
  refine lv_aload_n (pc := 1619) hx hb dL_law_1619 rfl (lv_at hl 3 rfl) ?_
  refine lv_iload_n (pc := 1620) hx hb dL_law_1620 rfl (lv_at hl 0 rfl) ?_
  refine lv_iconst (pc := 1621) (v := nI 1) hx hb dL_law_1621 (by decide) ?_
  refine lv_iadd (pc := 1622) hx hb dL_law_1622 ?_
  refine va_sld (pc := 1623) hx hb hX hbl hbA hS (l_in hi (show 1 < 8 by decide) hL) dL_law_1623 ?_
  refine lv_aload_n (pc := 1624) hx hb dL_law_1624 rfl (lv_at hl 3 rfl) ?_
  refine lv_iload_n (pc := 1625) hx hb dL_law_1625 rfl (lv_at hl 0 rfl) ?_
  refine lv_iconst (pc := 1626) (v := nI 2) hx hb dL_law_1626 (by decide) ?_
  refine lv_iadd (pc := 1627) hx hb dL_law_1627 ?_
  refine va_sld (pc := 1628) hx hb hX hbl hbA hS (l_in hi (show 2 < 8 by decide) hL) dL_law_1628 ?_
  obtain ⟨r, s2, hT, hM1⟩ := l_X_drop l D ci (fun q : Nat => s.heap.size ≤ q) sa WM hXI (xs (nI i + nI 1).toNatClampNeg) (xs (nI i + nI 2).toNatClampNeg)
  obtain ⟨fs, hh⟩ := hXI.hd WM
  refine q_call (pc := 1629) (va_runV (As := [.int (xs (nI i + nI 1).toNatClampNeg), .int (xs (nI i + nI 2).toNatClampNeg)]) (rest := []) ⟨hx, hb, hml, hown, hts⟩ hM1 (cwV 2 hts gL_law_X10_drop rfl rfl rfl (by decide +kernel) ⟨Nat.le_of_ble_eq_true rfl, Nat.le_of_ble_eq_true rfl⟩) (q_preV (n1 := 0) (is1 := []) hK hA hZ hP hD hS rfl ⟨rfl, rfl, rfl⟩ 0 hh rfl) rfl rfl hl.1 rfl (lv_room (Nat.le_of_ble_eq_true rfl)) dL_law_1629 (l_rm hn.2 hc hs (Nat.zero_le _) (Nat.zero_le _))) hS (fun t2 locs _ hB hS => ?_)
  obtain ⟨WX, hXI, hP, hD⟩ := hB
  refine lv_pop (pc := 1632) hx hb dL_law_1632 rfl ?_
  have hP := l_swP hP
  have hD := l_swD hD
  refine lv_aload_n (pc := 1633) hx hb dL_law_1633 rfl (lv_at hl 1 rfl) ?_
  refine lv_aload_n (pc := 1634) hx hb dL_law_1634 rfl (lv_at hl 3 rfl) ?_
  refine lv_iload_n (pc := 1635) hx hb dL_law_1635 rfl (lv_at hl 0 rfl) ?_
  refine lv_iconst (pc := 1636) (v := nI 1) hx hb dL_law_1636 (by decide) ?_
  refine lv_iadd (pc := 1637) hx hb dL_law_1637 ?_
  refine va_sld (pc := 1638) hx hb hX hbl hbA hS (l_in hi (show 1 < 8 by decide) hL) dL_law_1638 ?_
  refine lv_aload_n (pc := 1639) hx hb dL_law_1639 rfl (lv_at hl 3 rfl) ?_
  refine lv_iload_n (pc := 1640) hx hb dL_law_1640 rfl (lv_at hl 0 rfl) ?_
  refine lv_iconst (pc := 1641) (v := nI 2) hx hb dL_law_1641 (by decide) ?_
  refine lv_iadd (pc := 1642) hx hb dL_law_1642 ?_
  refine va_sld (pc := 1643) hx hb hX hbl hbA hS (l_in hi (show 2 < 8 by decide) hL) dL_law_1643 ?_
  obtain ⟨r2, s3, hT2, hM2⟩ := l_M_drop l D ci (fun q : Nat => s.heap.size ≤ q) sa WX hMI (xs (nI i + nI 1).toNatClampNeg) (xs (nI i + nI 2).toNatClampNeg)
  obtain ⟨fs, hh⟩ := hMI.hd WX
  refine q_call (pc := 1644) (va_runV (As := [.int (xs (nI i + nI 1).toNatClampNeg), .int (xs (nI i + nI 2).toNatClampNeg)]) (rest := []) ⟨hx, hb, hml, hown, hts⟩ hM2 (cwV 2 hts gL_law_X11_drop rfl rfl rfl (by decide +kernel) ⟨Nat.le_of_ble_eq_true rfl, Nat.le_of_ble_eq_true rfl⟩) (q_preV (n1 := 0) (is1 := []) hK hA hZ hP hD hS rfl ⟨rfl, rfl, rfl⟩ 0 hh rfl) rfl rfl hl.1 rfl (lv_room (Nat.le_of_ble_eq_true rfl)) dL_law_1644 (l_rm hn.2 hc hs (Nat.zero_le _) (Nat.zero_le _))) hS (fun t2 locs _ hB hS => ?_)
  obtain ⟨WM, hMI, hP, hD⟩ := hB
  obtain ⟨hrr, e23⟩ := l_tdrop_one hok hT hT2
  rw [← e23] at hMI
  have hP := l_swP hP
  have hD := l_swD hD
  refine lv_pop (pc := 1647) hx hb dL_law_1647 rfl ?_
  refine lv_goto (pc := 1648) (tgt := 2146) hx hb dL_law_1648 rfl ?_
  exact hgo WX WM _ _ _ _ _ _ _ _ _ hXI hMI hP hD hS hc hs
theorem law_31 (p : Program) (l : Launch) (e : Env) (s : State) (m : MethodId) (below : List Frame) (meth : Method) (c : Code) (b L : Nat) (xs : Nat → Int32) (D : va_G) (ci : Nat → ClassId) (sa : Nat → Nat) {a_x a_m i : Nat} {ls : Array Slot} (C0 : lL_C p l e s m below meth c b L xs D ci sa) (hi : i + 8 ≤ L) (hl : lv_has ls 4 [(3, .int (nI i)), (2, .ref a_m), (1, .ref a_x), (0, .ref b)]) (hgo : lL_go p l e s m below meth c b L xs D ci sa a_x a_m ls 2146) : lL_go p l e s m below meth c b L xs D ci sa a_x a_m ls 1651 := by
  obtain ⟨hx, hb, hml, hown, hts, hX, hbl, hK, hZ, hret, hlocks, hL⟩ := C0
  intro WX WM t n s0 sv kv H locs cells slots hXI hMI hP hD hS hc hs
  have hA : ∀ q : Nat, s.heap.size ≤ q → (fun q : Nat => s.heap.size ≤ q) q := fun _ h => h
  have hbA : ¬ (fun q : Nat => s.heap.size ≤ q) b := Nat.not_le.mpr hbl
  have hn := hXI.n
  have hok := hXI.ok
  refine lv_aload_n (pc := 1651) hx hb dL_law_1651 rfl (lv_at hl 2 rfl) ?_
  refine lv_aload_n (pc := 1652) hx hb dL_law_1652 rfl (lv_at hl 3 rfl) ?_
  refine lv_iload_n (pc := 1653) hx hb dL_law_1653 rfl (lv_at hl 0 rfl) ?_
  refine lv_iconst (pc := 1654) (v := nI 1) hx hb dL_law_1654 (by decide) ?_
  refine lv_iadd (pc := 1655) hx hb dL_law_1655 ?_
  refine va_sld (pc := 1656) hx hb hX hbl hbA hS (l_in hi (show 1 < 8 by decide) hL) dL_law_1656 ?_
  refine lv_aload_n (pc := 1657) hx hb dL_law_1657 rfl (lv_at hl 3 rfl) ?_
  refine lv_iload_n (pc := 1658) hx hb dL_law_1658 rfl (lv_at hl 0 rfl) ?_
  refine lv_iconst (pc := 1659) (v := nI 2) hx hb dL_law_1659 (by decide) ?_
  refine lv_iadd (pc := 1660) hx hb dL_law_1660 ?_
  refine va_sld (pc := 1661) hx hb hX hbl hbA hS (l_in hi (show 2 < 8 by decide) hL) dL_law_1661 ?_
  obtain ⟨r, hM1⟩ := l_X_piece l D ci (fun q : Nat => s.heap.size ≤ q) sa WM hXI (xs (nI i + nI 1).toNatClampNeg) (xs (nI i + nI 2).toNatClampNeg)
  obtain ⟨fs, hh⟩ := hXI.hd WM
  refine q_call (pc := 1662) (va_runV (As := [.int (xs (nI i + nI 1).toNatClampNeg), .int (xs (nI i + nI 2).toNatClampNeg)]) (rest := []) ⟨hx, hb, hml, hown, hts⟩ hM1 (cwV 2 hts gL_law_X10_piece rfl rfl rfl (by decide +kernel) ⟨Nat.le_of_ble_eq_true rfl, Nat.le_of_ble_eq_true rfl⟩) (q_preV (n1 := 0) (is1 := []) hK hA hZ hP hD hS rfl ⟨rfl, rfl, rfl⟩ 0 hh rfl) rfl rfl hl.1 rfl (lv_room (Nat.le_of_ble_eq_true rfl)) dL_law_1662 (l_rm hn.2 hc hs (Nat.zero_le _) (Nat.zero_le _))) hS (fun t2 locs _ hB hS => ?_)
  obtain ⟨WX, hXI, hP, hD⟩ := hB
  refine lv_pop (pc := 1665) hx hb dL_law_1665 rfl ?_
  have hP := l_swP hP
  have hD := l_swD hD
  refine lv_aload_n (pc := 1666) hx hb dL_law_1666 rfl (lv_at hl 1 rfl) ?_
  refine lv_aload_n (pc := 1667) hx hb dL_law_1667 rfl (lv_at hl 3 rfl) ?_
  refine lv_iload_n (pc := 1668) hx hb dL_law_1668 rfl (lv_at hl 0 rfl) ?_
  refine lv_iconst (pc := 1669) (v := nI 1) hx hb dL_law_1669 (by decide) ?_
  refine lv_iadd (pc := 1670) hx hb dL_law_1670 ?_
  refine va_sld (pc := 1671) hx hb hX hbl hbA hS (l_in hi (show 1 < 8 by decide) hL) dL_law_1671 ?_
  refine lv_aload_n (pc := 1672) hx hb dL_law_1672 rfl (lv_at hl 3 rfl) ?_
  refine lv_iload_n (pc := 1673) hx hb dL_law_1673 rfl (lv_at hl 0 rfl) ?_
  refine lv_iconst (pc := 1674) (v := nI 2) hx hb dL_law_1674 (by decide) ?_
  refine lv_iadd (pc := 1675) hx hb dL_law_1675 ?_
  refine va_sld (pc := 1676) hx hb hX hbl hbA hS (l_in hi (show 2 < 8 by decide) hL) dL_law_1676 ?_
  obtain ⟨r2, hM2⟩ := l_M_piece l D ci (fun q : Nat => s.heap.size ≤ q) sa WX hMI (xs (nI i + nI 1).toNatClampNeg) (xs (nI i + nI 2).toNatClampNeg)
  obtain ⟨fs, hh⟩ := hMI.hd WX
  refine q_call (pc := 1677) (va_runV (As := [.int (xs (nI i + nI 1).toNatClampNeg), .int (xs (nI i + nI 2).toNatClampNeg)]) (rest := []) ⟨hx, hb, hml, hown, hts⟩ hM2 (cwV 2 hts gL_law_X11_piece rfl rfl rfl (by decide +kernel) ⟨Nat.le_of_ble_eq_true rfl, Nat.le_of_ble_eq_true rfl⟩) (q_preV (n1 := 0) (is1 := []) hK hA hZ hP hD hS rfl ⟨rfl, rfl, rfl⟩ 0 hh rfl) rfl rfl hl.1 rfl (lv_room (Nat.le_of_ble_eq_true rfl)) dL_law_1677 (l_rm hn.2 hc hs (Nat.zero_le _) (Nat.zero_le _))) hS (fun t2 locs _ hB hS => ?_)
  obtain ⟨WM, hMI, hP, hD⟩ := hB
  have hP := l_swP hP
  have hD := l_swD hD
  refine lv_pop (pc := 1680) hx hb dL_law_1680 rfl ?_
  refine lv_goto (pc := 1681) (tgt := 2146) hx hb dL_law_1681 rfl ?_
  exact hgo WX WM _ _ _ _ _ _ _ _ _ hXI hMI hP hD hS hc hs
theorem law_32 (p : Program) (l : Launch) (e : Env) (s : State) (m : MethodId) (below : List Frame) (meth : Method) (c : Code) (b L : Nat) (xs : Nat → Int32) (D : va_G) (ci : Nat → ClassId) (sa : Nat → Nat) {a_x a_m i : Nat} {ls : Array Slot} (C0 : lL_C p l e s m below meth c b L xs D ci sa) (hi : i + 8 ≤ L) (hl : lv_has ls 4 [(3, .int (nI i)), (2, .ref a_m), (1, .ref a_x), (0, .ref b)]) (hgo : lL_go p l e s m below meth c b L xs D ci sa a_x a_m ls 2146) : lL_go p l e s m below meth c b L xs D ci sa a_x a_m ls 1684 := by
  obtain ⟨hx, hb, hml, hown, hts, hX, hbl, hK, hZ, hret, hlocks, hL⟩ := C0
  intro WX WM t n s0 sv kv H locs cells slots hXI hMI hP hD hS hc hs
  have hA : ∀ q : Nat, s.heap.size ≤ q → (fun q : Nat => s.heap.size ≤ q) q := fun _ h => h
  have hbA : ¬ (fun q : Nat => s.heap.size ≤ q) b := Nat.not_le.mpr hbl
  have hn := hXI.n
  have hok := hXI.ok
  refine lv_aload_n (pc := 1684) hx hb dL_law_1684 rfl (lv_at hl 2 rfl) ?_
  refine lv_aload_n (pc := 1685) hx hb dL_law_1685 rfl (lv_at hl 3 rfl) ?_
  refine lv_iload_n (pc := 1686) hx hb dL_law_1686 rfl (lv_at hl 0 rfl) ?_
  refine lv_iconst (pc := 1687) (v := nI 1) hx hb dL_law_1687 (by decide) ?_
  refine lv_iadd (pc := 1688) hx hb dL_law_1688 ?_
  refine va_sld (pc := 1689) hx hb hX hbl hbA hS (l_in hi (show 1 < 8 by decide) hL) dL_law_1689 ?_
  refine lv_aload_n (pc := 1690) hx hb dL_law_1690 rfl (lv_at hl 3 rfl) ?_
  refine lv_iload_n (pc := 1691) hx hb dL_law_1691 rfl (lv_at hl 0 rfl) ?_
  refine lv_iconst (pc := 1692) (v := nI 2) hx hb dL_law_1692 (by decide) ?_
  refine lv_iadd (pc := 1693) hx hb dL_law_1693 ?_
  refine va_sld (pc := 1694) hx hb hX hbl hbA hS (l_in hi (show 2 < 8 by decide) hL) dL_law_1694 ?_
  refine lv_aload_n (pc := 1695) hx hb dL_law_1695 rfl (lv_at hl 3 rfl) ?_
  refine lv_iload_n (pc := 1696) hx hb dL_law_1696 rfl (lv_at hl 0 rfl) ?_
  refine lv_iconst (pc := 1697) (v := nI 3) hx hb dL_law_1697 (by decide) ?_
  refine lv_iadd (pc := 1698) hx hb dL_law_1698 ?_
  refine va_sld (pc := 1699) hx hb hX hbl hbA hS (l_in hi (show 3 < 8 by decide) hL) dL_law_1699 ?_
  obtain ⟨r, hM1⟩ := l_X_shown l D ci (fun q : Nat => s.heap.size ≤ q) sa WM hXI (xs (nI i + nI 1).toNatClampNeg) (xs (nI i + nI 2).toNatClampNeg) (xs (nI i + nI 3).toNatClampNeg)
  obtain ⟨fs, hh⟩ := hXI.hd WM
  refine q_call (pc := 1700) (va_runV (As := [.int (xs (nI i + nI 1).toNatClampNeg), .int (xs (nI i + nI 2).toNatClampNeg), .int (xs (nI i + nI 3).toNatClampNeg)]) (rest := []) ⟨hx, hb, hml, hown, hts⟩ hM1 (cwV 3 hts gL_law_X10_shown rfl rfl rfl (by decide +kernel) ⟨Nat.le_of_ble_eq_true rfl, Nat.le_of_ble_eq_true rfl⟩) (q_preV (n1 := 0) (is1 := []) hK hA hZ hP hD hS rfl ⟨rfl, rfl, rfl⟩ 0 hh rfl) rfl rfl hl.1 rfl (lv_room (Nat.le_of_ble_eq_true rfl)) dL_law_1700 (l_rm hn.2 hc hs (Nat.zero_le _) (Nat.zero_le _))) hS (fun t2 locs _ hB hS => ?_)
  obtain ⟨WX, hXI, hP, hD⟩ := hB
  refine lv_pop (pc := 1703) hx hb dL_law_1703 rfl ?_
  have hP := l_swP hP
  have hD := l_swD hD
  refine lv_aload_n (pc := 1704) hx hb dL_law_1704 rfl (lv_at hl 1 rfl) ?_
  refine lv_aload_n (pc := 1705) hx hb dL_law_1705 rfl (lv_at hl 3 rfl) ?_
  refine lv_iload_n (pc := 1706) hx hb dL_law_1706 rfl (lv_at hl 0 rfl) ?_
  refine lv_iconst (pc := 1707) (v := nI 1) hx hb dL_law_1707 (by decide) ?_
  refine lv_iadd (pc := 1708) hx hb dL_law_1708 ?_
  refine va_sld (pc := 1709) hx hb hX hbl hbA hS (l_in hi (show 1 < 8 by decide) hL) dL_law_1709 ?_
  refine lv_aload_n (pc := 1710) hx hb dL_law_1710 rfl (lv_at hl 3 rfl) ?_
  refine lv_iload_n (pc := 1711) hx hb dL_law_1711 rfl (lv_at hl 0 rfl) ?_
  refine lv_iconst (pc := 1712) (v := nI 2) hx hb dL_law_1712 (by decide) ?_
  refine lv_iadd (pc := 1713) hx hb dL_law_1713 ?_
  refine va_sld (pc := 1714) hx hb hX hbl hbA hS (l_in hi (show 2 < 8 by decide) hL) dL_law_1714 ?_
  refine lv_aload_n (pc := 1715) hx hb dL_law_1715 rfl (lv_at hl 3 rfl) ?_
  refine lv_iload_n (pc := 1716) hx hb dL_law_1716 rfl (lv_at hl 0 rfl) ?_
  refine lv_iconst (pc := 1717) (v := nI 3) hx hb dL_law_1717 (by decide) ?_
  refine lv_iadd (pc := 1718) hx hb dL_law_1718 ?_
  refine va_sld (pc := 1719) hx hb hX hbl hbA hS (l_in hi (show 3 < 8 by decide) hL) dL_law_1719 ?_
  obtain ⟨r2, hM2⟩ := l_M_shown l D ci (fun q : Nat => s.heap.size ≤ q) sa WX hMI (xs (nI i + nI 1).toNatClampNeg) (xs (nI i + nI 2).toNatClampNeg) (xs (nI i + nI 3).toNatClampNeg)
  obtain ⟨fs, hh⟩ := hMI.hd WX
  refine q_call (pc := 1720) (va_runV (As := [.int (xs (nI i + nI 1).toNatClampNeg), .int (xs (nI i + nI 2).toNatClampNeg), .int (xs (nI i + nI 3).toNatClampNeg)]) (rest := []) ⟨hx, hb, hml, hown, hts⟩ hM2 (cwV 3 hts gL_law_X11_shown rfl rfl rfl (by decide +kernel) ⟨Nat.le_of_ble_eq_true rfl, Nat.le_of_ble_eq_true rfl⟩) (q_preV (n1 := 0) (is1 := []) hK hA hZ hP hD hS rfl ⟨rfl, rfl, rfl⟩ 0 hh rfl) rfl rfl hl.1 rfl (lv_room (Nat.le_of_ble_eq_true rfl)) dL_law_1720 (l_rm hn.2 hc hs (Nat.zero_le _) (Nat.zero_le _))) hS (fun t2 locs _ hB hS => ?_)
  obtain ⟨WM, hMI, hP, hD⟩ := hB
  have hP := l_swP hP
  have hD := l_swD hD
  refine lv_pop (pc := 1723) hx hb dL_law_1723 rfl ?_
  refine lv_goto (pc := 1724) (tgt := 2146) hx hb dL_law_1724 rfl ?_
  exact hgo WX WM _ _ _ _ _ _ _ _ _ hXI hMI hP hD hS hc hs
