/-! the law's cases -/
theorem law_0 (p : Program) (l : Launch) (e : Env) (s : State) (m : MethodId) (below : List Frame) (meth : Method) (c : Code) (b L : Nat) (xs : Nat → Int32) (D : va_G) (ci : Nat → ClassId) (sa : Nat → Nat) {a_x a_m i : Nat} {ls : Array Slot} (C0 : lL_C p l e s m below meth c b L xs D ci sa) (hi : i + 8 ≤ L) (hl : lv_has ls 4 [(3, .int (nI i)), (2, .ref a_m), (1, .ref a_x), (0, .ref b)]) (hgo : lL_go p l e s m below meth c b L xs D ci sa a_x a_m ls 2146) : lL_go p l e s m below meth c b L xs D ci sa a_x a_m ls 224 := by
  obtain ⟨hx, hb, hml, hown, hts, hX, hbl, hK, hZ, hret, hlocks, hL⟩ := C0
  intro WX WM t n s0 sv kv H locs cells slots hXI hMI hP hD hS hc hs
  have hA : ∀ q : Nat, s.heap.size ≤ q → (fun q : Nat => s.heap.size ≤ q) q := fun _ h => h
  have hbA : ¬ (fun q : Nat => s.heap.size ≤ q) b := Nat.not_le.mpr hbl
  have hn := hXI.n
  have hok := hXI.ok
  refine lv_aload_n (pc := 224) hx hb dL_law_224 rfl (lv_at hl 2 rfl) ?_
  refine lv_aload_n (pc := 225) hx hb dL_law_225 rfl (lv_at hl 3 rfl) ?_
  refine lv_iload_n (pc := 226) hx hb dL_law_226 rfl (lv_at hl 0 rfl) ?_
  refine lv_iconst (pc := 227) (v := nI 1) hx hb dL_law_227 (by decide) ?_
  refine lv_iadd (pc := 228) hx hb dL_law_228 ?_
  refine va_sld (pc := 229) hx hb hX hbl hbA hS (l_in hi (show 1 < 8 by decide) hL) dL_law_229 ?_
  refine lv_aload_n (pc := 230) hx hb dL_law_230 rfl (lv_at hl 3 rfl) ?_
  refine lv_iload_n (pc := 231) hx hb dL_law_231 rfl (lv_at hl 0 rfl) ?_
  refine lv_iconst (pc := 232) (v := nI 2) hx hb dL_law_232 (by decide) ?_
  refine lv_iadd (pc := 233) hx hb dL_law_233 ?_
  refine va_sld (pc := 234) hx hb hX hbl hbA hS (l_in hi (show 2 < 8 by decide) hL) dL_law_234 ?_
  refine lv_aload_n (pc := 235) hx hb dL_law_235 rfl (lv_at hl 3 rfl) ?_
  refine lv_iload_n (pc := 236) hx hb dL_law_236 rfl (lv_at hl 0 rfl) ?_
  refine lv_iconst (pc := 237) (v := nI 3) hx hb dL_law_237 (by decide) ?_
  refine lv_iadd (pc := 238) hx hb dL_law_238 ?_
  refine va_sld (pc := 239) hx hb hX hbl hbA hS (l_in hi (show 3 < 8 by decide) hL) dL_law_239 ?_
  refine lv_aload_n (pc := 240) hx hb dL_law_240 rfl (lv_at hl 3 rfl) ?_
  refine lv_iload_n (pc := 241) hx hb dL_law_241 rfl (lv_at hl 0 rfl) ?_
  refine lv_iconst (pc := 242) (v := nI 4) hx hb dL_law_242 (by decide) ?_
  refine lv_iadd (pc := 243) hx hb dL_law_243 ?_
  refine va_sld (pc := 244) hx hb hX hbl hbA hS (l_in hi (show 4 < 8 by decide) hL) dL_law_244 ?_
  refine lv_aload_n (pc := 245) hx hb dL_law_245 rfl (lv_at hl 3 rfl) ?_
  refine lv_iload_n (pc := 246) hx hb dL_law_246 rfl (lv_at hl 0 rfl) ?_
  refine lv_iconst (pc := 247) (v := nI 5) hx hb dL_law_247 (by decide) ?_
  refine lv_iadd (pc := 248) hx hb dL_law_248 ?_
  refine va_sld (pc := 249) hx hb hX hbl hbA hS (l_in hi (show 5 < 8 by decide) hL) dL_law_249 ?_
  obtain ⟨r, hr, hM1⟩ := l_X_feed l D ci (fun q : Nat => s.heap.size ≤ q) sa WM hXI (xs (nI i + nI 1).toNatClampNeg) (xs (nI i + nI 2).toNatClampNeg) (xs (nI i + nI 3).toNatClampNeg) (xs (nI i + nI 4).toNatClampNeg) (xs (nI i + nI 5).toNatClampNeg)
  obtain ⟨fs, hh⟩ := hXI.hd WM
  refine q_call (pc := 250) (va_runV (As := [.int (xs (nI i + nI 1).toNatClampNeg), .int (xs (nI i + nI 2).toNatClampNeg), .int (xs (nI i + nI 3).toNatClampNeg), .int (xs (nI i + nI 4).toNatClampNeg), .int (xs (nI i + nI 5).toNatClampNeg)]) (rest := []) ⟨hx, hb, hml, hown, hts⟩ hM1 (cwV 5 hts gL_law_X10_feed rfl rfl rfl (by decide +kernel) ⟨Nat.le_of_ble_eq_true rfl, Nat.le_of_ble_eq_true rfl⟩) (q_preV (n1 := 0) (is1 := []) hK hA hZ hP hD hS rfl ⟨rfl, rfl, rfl⟩ 0 hh rfl) rfl rfl hl.1 rfl (lv_room (Nat.le_of_ble_eq_true rfl)) dL_law_250 (l_rm hn.2 hc hs (Nat.zero_le _) (Nat.zero_le _))) hS (fun t2 locs _ hB hS => ?_)
  obtain ⟨WX, hXI, hP, hD⟩ := hB
  refine lv_pop (pc := 253) hx hb dL_law_253 rfl ?_
  have hP := l_swP hP
  have hD := l_swD hD
  refine lv_aload_n (pc := 254) hx hb dL_law_254 rfl (lv_at hl 1 rfl) ?_
  refine lv_aload_n (pc := 255) hx hb dL_law_255 rfl (lv_at hl 3 rfl) ?_
  refine lv_iload_n (pc := 256) hx hb dL_law_256 rfl (lv_at hl 0 rfl) ?_
  refine lv_iconst (pc := 257) (v := nI 1) hx hb dL_law_257 (by decide) ?_
  refine lv_iadd (pc := 258) hx hb dL_law_258 ?_
  refine va_sld (pc := 259) hx hb hX hbl hbA hS (l_in hi (show 1 < 8 by decide) hL) dL_law_259 ?_
  refine lv_aload_n (pc := 260) hx hb dL_law_260 rfl (lv_at hl 3 rfl) ?_
  refine lv_iload_n (pc := 261) hx hb dL_law_261 rfl (lv_at hl 0 rfl) ?_
  refine lv_iconst (pc := 262) (v := nI 2) hx hb dL_law_262 (by decide) ?_
  refine lv_iadd (pc := 263) hx hb dL_law_263 ?_
  refine va_sld (pc := 264) hx hb hX hbl hbA hS (l_in hi (show 2 < 8 by decide) hL) dL_law_264 ?_
  refine lv_aload_n (pc := 265) hx hb dL_law_265 rfl (lv_at hl 3 rfl) ?_
  refine lv_iload_n (pc := 266) hx hb dL_law_266 rfl (lv_at hl 0 rfl) ?_
  refine lv_iconst (pc := 267) (v := nI 3) hx hb dL_law_267 (by decide) ?_
  refine lv_iadd (pc := 268) hx hb dL_law_268 ?_
  refine va_sld (pc := 269) hx hb hX hbl hbA hS (l_in hi (show 3 < 8 by decide) hL) dL_law_269 ?_
  refine lv_aload_n (pc := 270) hx hb dL_law_270 rfl (lv_at hl 3 rfl) ?_
  refine lv_iload_n (pc := 271) hx hb dL_law_271 rfl (lv_at hl 0 rfl) ?_
  refine lv_iconst (pc := 272) (v := nI 4) hx hb dL_law_272 (by decide) ?_
  refine lv_iadd (pc := 273) hx hb dL_law_273 ?_
  refine va_sld (pc := 274) hx hb hX hbl hbA hS (l_in hi (show 4 < 8 by decide) hL) dL_law_274 ?_
  refine lv_aload_n (pc := 275) hx hb dL_law_275 rfl (lv_at hl 3 rfl) ?_
  refine lv_iload_n (pc := 276) hx hb dL_law_276 rfl (lv_at hl 0 rfl) ?_
  refine lv_iconst (pc := 277) (v := nI 5) hx hb dL_law_277 (by decide) ?_
  refine lv_iadd (pc := 278) hx hb dL_law_278 ?_
  refine va_sld (pc := 279) hx hb hX hbl hbA hS (l_in hi (show 5 < 8 by decide) hL) dL_law_279 ?_
  obtain ⟨r2, hr2, hM2⟩ := l_M_feed l D ci (fun q : Nat => s.heap.size ≤ q) sa WX hMI (xs (nI i + nI 1).toNatClampNeg) (xs (nI i + nI 2).toNatClampNeg) (xs (nI i + nI 3).toNatClampNeg) (xs (nI i + nI 4).toNatClampNeg) (xs (nI i + nI 5).toNatClampNeg)
  obtain ⟨fs, hh⟩ := hMI.hd WX
  refine q_call (pc := 280) (va_runV (As := [.int (xs (nI i + nI 1).toNatClampNeg), .int (xs (nI i + nI 2).toNatClampNeg), .int (xs (nI i + nI 3).toNatClampNeg), .int (xs (nI i + nI 4).toNatClampNeg), .int (xs (nI i + nI 5).toNatClampNeg)]) (rest := []) ⟨hx, hb, hml, hown, hts⟩ hM2 (cwV 5 hts gL_law_X11_feed rfl rfl rfl (by decide +kernel) ⟨Nat.le_of_ble_eq_true rfl, Nat.le_of_ble_eq_true rfl⟩) (q_preV (n1 := 0) (is1 := []) hK hA hZ hP hD hS rfl ⟨rfl, rfl, rfl⟩ 0 hh rfl) rfl rfl hl.1 rfl (lv_room (Nat.le_of_ble_eq_true rfl)) dL_law_280 (l_rm hn.2 hc hs (Nat.zero_le _) (Nat.zero_le _))) hS (fun t2 locs _ hB hS => ?_)
  obtain ⟨WM, hMI, hP, hD⟩ := hB
  have hP := l_swP hP
  have hD := l_swD hD
  refine lv_pop (pc := 283) hx hb dL_law_283 rfl ?_
  refine lv_goto (pc := 284) (tgt := 2146) hx hb dL_law_284 rfl ?_
  exact hgo WX WM _ _ _ _ _ _ _ _ _ hXI hMI hP hD hS hc hs
theorem law_1 (p : Program) (l : Launch) (e : Env) (s : State) (m : MethodId) (below : List Frame) (meth : Method) (c : Code) (b L : Nat) (xs : Nat → Int32) (D : va_G) (ci : Nat → ClassId) (sa : Nat → Nat) {a_x a_m i : Nat} {ls : Array Slot} (C0 : lL_C p l e s m below meth c b L xs D ci sa) (hi : i + 8 ≤ L) (hl : lv_has ls 4 [(3, .int (nI i)), (2, .ref a_m), (1, .ref a_x), (0, .ref b)]) (hgo : lL_go p l e s m below meth c b L xs D ci sa a_x a_m ls 2146) : lL_go p l e s m below meth c b L xs D ci sa a_x a_m ls 287 := by
  obtain ⟨hx, hb, hml, hown, hts, hX, hbl, hK, hZ, hret, hlocks, hL⟩ := C0
  intro WX WM t n s0 sv kv H locs cells slots hXI hMI hP hD hS hc hs
  have hA : ∀ q : Nat, s.heap.size ≤ q → (fun q : Nat => s.heap.size ≤ q) q := fun _ h => h
  have hbA : ¬ (fun q : Nat => s.heap.size ≤ q) b := Nat.not_le.mpr hbl
  have hn := hXI.n
  have hok := hXI.ok
  refine lv_aload_n (pc := 287) hx hb dL_law_287 rfl (lv_at hl 2 rfl) ?_
  refine lv_aload_n (pc := 288) hx hb dL_law_288 rfl (lv_at hl 3 rfl) ?_
  refine lv_iload_n (pc := 289) hx hb dL_law_289 rfl (lv_at hl 0 rfl) ?_
  refine lv_iconst (pc := 290) (v := nI 1) hx hb dL_law_290 (by decide) ?_
  refine lv_iadd (pc := 291) hx hb dL_law_291 ?_
  refine va_sld (pc := 292) hx hb hX hbl hbA hS (l_in hi (show 1 < 8 by decide) hL) dL_law_292 ?_
  refine lv_aload_n (pc := 293) hx hb dL_law_293 rfl (lv_at hl 3 rfl) ?_
  refine lv_iload_n (pc := 294) hx hb dL_law_294 rfl (lv_at hl 0 rfl) ?_
  refine lv_iconst (pc := 295) (v := nI 2) hx hb dL_law_295 (by decide) ?_
  refine lv_iadd (pc := 296) hx hb dL_law_296 ?_
  refine va_sld (pc := 297) hx hb hX hbl hbA hS (l_in hi (show 2 < 8 by decide) hL) dL_law_297 ?_
  refine lv_aload_n (pc := 298) hx hb dL_law_298 rfl (lv_at hl 3 rfl) ?_
  refine lv_iload_n (pc := 299) hx hb dL_law_299 rfl (lv_at hl 0 rfl) ?_
  refine lv_iconst (pc := 300) (v := nI 3) hx hb dL_law_300 (by decide) ?_
  refine lv_iadd (pc := 301) hx hb dL_law_301 ?_
  refine va_sld (pc := 302) hx hb hX hbl hbA hS (l_in hi (show 3 < 8 by decide) hL) dL_law_302 ?_
  obtain ⟨r, s2, hT, hM1⟩ := l_X_cut l D ci (fun q : Nat => s.heap.size ≤ q) sa WM hXI (xs (nI i + nI 1).toNatClampNeg) (xs (nI i + nI 2).toNatClampNeg) (xs (nI i + nI 3).toNatClampNeg)
  obtain ⟨fs, hh⟩ := hXI.hd WM
  refine q_call (pc := 303) (va_runV (As := [.int (xs (nI i + nI 1).toNatClampNeg), .int (xs (nI i + nI 2).toNatClampNeg), .int (xs (nI i + nI 3).toNatClampNeg)]) (rest := []) ⟨hx, hb, hml, hown, hts⟩ hM1 (cwV 3 hts gL_law_X10_cut rfl rfl rfl (by decide +kernel) ⟨Nat.le_of_ble_eq_true rfl, Nat.le_of_ble_eq_true rfl⟩) (q_preV (n1 := 0) (is1 := []) hK hA hZ hP hD hS rfl ⟨rfl, rfl, rfl⟩ 0 hh rfl) rfl rfl hl.1 rfl (lv_room (Nat.le_of_ble_eq_true rfl)) dL_law_303 (l_rm hn.2 hc hs (Nat.zero_le _) (Nat.zero_le _))) hS (fun t2 locs _ hB hS => ?_)
  obtain ⟨WX, hXI, hP, hD⟩ := hB
  refine lv_pop (pc := 306) hx hb dL_law_306 rfl ?_
  have hP := l_swP hP
  have hD := l_swD hD
  refine lv_aload_n (pc := 307) hx hb dL_law_307 rfl (lv_at hl 1 rfl) ?_
  refine lv_aload_n (pc := 308) hx hb dL_law_308 rfl (lv_at hl 3 rfl) ?_
  refine lv_iload_n (pc := 309) hx hb dL_law_309 rfl (lv_at hl 0 rfl) ?_
  refine lv_iconst (pc := 310) (v := nI 1) hx hb dL_law_310 (by decide) ?_
  refine lv_iadd (pc := 311) hx hb dL_law_311 ?_
  refine va_sld (pc := 312) hx hb hX hbl hbA hS (l_in hi (show 1 < 8 by decide) hL) dL_law_312 ?_
  refine lv_aload_n (pc := 313) hx hb dL_law_313 rfl (lv_at hl 3 rfl) ?_
  refine lv_iload_n (pc := 314) hx hb dL_law_314 rfl (lv_at hl 0 rfl) ?_
  refine lv_iconst (pc := 315) (v := nI 2) hx hb dL_law_315 (by decide) ?_
  refine lv_iadd (pc := 316) hx hb dL_law_316 ?_
  refine va_sld (pc := 317) hx hb hX hbl hbA hS (l_in hi (show 2 < 8 by decide) hL) dL_law_317 ?_
  refine lv_aload_n (pc := 318) hx hb dL_law_318 rfl (lv_at hl 3 rfl) ?_
  refine lv_iload_n (pc := 319) hx hb dL_law_319 rfl (lv_at hl 0 rfl) ?_
  refine lv_iconst (pc := 320) (v := nI 3) hx hb dL_law_320 (by decide) ?_
  refine lv_iadd (pc := 321) hx hb dL_law_321 ?_
  refine va_sld (pc := 322) hx hb hX hbl hbA hS (l_in hi (show 3 < 8 by decide) hL) dL_law_322 ?_
  obtain ⟨r2, s3, hT2, hM2⟩ := l_M_cut l D ci (fun q : Nat => s.heap.size ≤ q) sa WX hMI (xs (nI i + nI 1).toNatClampNeg) (xs (nI i + nI 2).toNatClampNeg) (xs (nI i + nI 3).toNatClampNeg)
  obtain ⟨fs, hh⟩ := hMI.hd WX
  refine q_call (pc := 323) (va_runV (As := [.int (xs (nI i + nI 1).toNatClampNeg), .int (xs (nI i + nI 2).toNatClampNeg), .int (xs (nI i + nI 3).toNatClampNeg)]) (rest := []) ⟨hx, hb, hml, hown, hts⟩ hM2 (cwV 3 hts gL_law_X11_cut rfl rfl rfl (by decide +kernel) ⟨Nat.le_of_ble_eq_true rfl, Nat.le_of_ble_eq_true rfl⟩) (q_preV (n1 := 0) (is1 := []) hK hA hZ hP hD hS rfl ⟨rfl, rfl, rfl⟩ 0 hh rfl) rfl rfl hl.1 rfl (lv_room (Nat.le_of_ble_eq_true rfl)) dL_law_323 (l_rm hn.2 hc hs (Nat.zero_le _) (Nat.zero_le _))) hS (fun t2 locs _ hB hS => ?_)
  obtain ⟨WM, hMI, hP, hD⟩ := hB
  obtain ⟨hrr, e23⟩ := l_tcut_one hok hT hT2
  rw [← e23] at hMI
  have hP := l_swP hP
  have hD := l_swD hD
  refine lv_pop (pc := 326) hx hb dL_law_326 rfl ?_
  refine lv_goto (pc := 327) (tgt := 2146) hx hb dL_law_327 rfl ?_
  exact hgo WX WM _ _ _ _ _ _ _ _ _ hXI hMI hP hD hS hc hs
theorem law_2 (p : Program) (l : Launch) (e : Env) (s : State) (m : MethodId) (below : List Frame) (meth : Method) (c : Code) (b L : Nat) (xs : Nat → Int32) (D : va_G) (ci : Nat → ClassId) (sa : Nat → Nat) {a_x a_m i : Nat} {ls : Array Slot} (C0 : lL_C p l e s m below meth c b L xs D ci sa) (hi : i + 8 ≤ L) (hl : lv_has ls 4 [(3, .int (nI i)), (2, .ref a_m), (1, .ref a_x), (0, .ref b)]) (hgo : lL_go p l e s m below meth c b L xs D ci sa a_x a_m ls 2146) : lL_go p l e s m below meth c b L xs D ci sa a_x a_m ls 330 := by
  obtain ⟨hx, hb, hml, hown, hts, hX, hbl, hK, hZ, hret, hlocks, hL⟩ := C0
  intro WX WM t n s0 sv kv H locs cells slots hXI hMI hP hD hS hc hs
  have hA : ∀ q : Nat, s.heap.size ≤ q → (fun q : Nat => s.heap.size ≤ q) q := fun _ h => h
  have hbA : ¬ (fun q : Nat => s.heap.size ≤ q) b := Nat.not_le.mpr hbl
  have hn := hXI.n
  have hok := hXI.ok
  refine lv_aload_n (pc := 330) hx hb dL_law_330 rfl (lv_at hl 2 rfl) ?_
  refine lv_aload_n (pc := 331) hx hb dL_law_331 rfl (lv_at hl 3 rfl) ?_
  refine lv_iload_n (pc := 332) hx hb dL_law_332 rfl (lv_at hl 0 rfl) ?_
  refine lv_iconst (pc := 333) (v := nI 1) hx hb dL_law_333 (by decide) ?_
  refine lv_iadd (pc := 334) hx hb dL_law_334 ?_
  refine va_sld (pc := 335) hx hb hX hbl hbA hS (l_in hi (show 1 < 8 by decide) hL) dL_law_335 ?_
  refine lv_aload_n (pc := 336) hx hb dL_law_336 rfl (lv_at hl 3 rfl) ?_
  refine lv_iload_n (pc := 337) hx hb dL_law_337 rfl (lv_at hl 0 rfl) ?_
  refine lv_iconst (pc := 338) (v := nI 2) hx hb dL_law_338 (by decide) ?_
  refine lv_iadd (pc := 339) hx hb dL_law_339 ?_
  refine va_sld (pc := 340) hx hb hX hbl hbA hS (l_in hi (show 2 < 8 by decide) hL) dL_law_340 ?_
  obtain ⟨r, hM1⟩ := l_X_level l D ci (fun q : Nat => s.heap.size ≤ q) sa WM hXI (xs (nI i + nI 1).toNatClampNeg) (xs (nI i + nI 2).toNatClampNeg)
  obtain ⟨fs, hh⟩ := hXI.hd WM
  refine q_call (pc := 341) (va_runV (As := [.int (xs (nI i + nI 1).toNatClampNeg), .int (xs (nI i + nI 2).toNatClampNeg)]) (rest := []) ⟨hx, hb, hml, hown, hts⟩ hM1 (cwV 2 hts gL_law_X10_level rfl rfl rfl (by decide +kernel) ⟨Nat.le_of_ble_eq_true rfl, Nat.le_of_ble_eq_true rfl⟩) (q_preV (n1 := 0) (is1 := []) hK hA hZ hP hD hS rfl ⟨rfl, rfl, rfl⟩ 0 hh rfl) rfl rfl hl.1 rfl (lv_room (Nat.le_of_ble_eq_true rfl)) dL_law_341 (l_rm hn.2 hc hs (Nat.zero_le _) (Nat.zero_le _))) hS (fun t2 locs _ hB hS => ?_)
  obtain ⟨WX, hXI, hP, hD⟩ := hB
  refine lv_pop (pc := 344) hx hb dL_law_344 rfl ?_
  have hP := l_swP hP
  have hD := l_swD hD
  refine lv_aload_n (pc := 345) hx hb dL_law_345 rfl (lv_at hl 1 rfl) ?_
  refine lv_aload_n (pc := 346) hx hb dL_law_346 rfl (lv_at hl 3 rfl) ?_
  refine lv_iload_n (pc := 347) hx hb dL_law_347 rfl (lv_at hl 0 rfl) ?_
  refine lv_iconst (pc := 348) (v := nI 1) hx hb dL_law_348 (by decide) ?_
  refine lv_iadd (pc := 349) hx hb dL_law_349 ?_
  refine va_sld (pc := 350) hx hb hX hbl hbA hS (l_in hi (show 1 < 8 by decide) hL) dL_law_350 ?_
  refine lv_aload_n (pc := 351) hx hb dL_law_351 rfl (lv_at hl 3 rfl) ?_
  refine lv_iload_n (pc := 352) hx hb dL_law_352 rfl (lv_at hl 0 rfl) ?_
  refine lv_iconst (pc := 353) (v := nI 2) hx hb dL_law_353 (by decide) ?_
  refine lv_iadd (pc := 354) hx hb dL_law_354 ?_
  refine va_sld (pc := 355) hx hb hX hbl hbA hS (l_in hi (show 2 < 8 by decide) hL) dL_law_355 ?_
  obtain ⟨r2, hM2⟩ := l_M_level l D ci (fun q : Nat => s.heap.size ≤ q) sa WX hMI (xs (nI i + nI 1).toNatClampNeg) (xs (nI i + nI 2).toNatClampNeg)
  obtain ⟨fs, hh⟩ := hMI.hd WX
  refine q_call (pc := 356) (va_runV (As := [.int (xs (nI i + nI 1).toNatClampNeg), .int (xs (nI i + nI 2).toNatClampNeg)]) (rest := []) ⟨hx, hb, hml, hown, hts⟩ hM2 (cwV 2 hts gL_law_X11_level rfl rfl rfl (by decide +kernel) ⟨Nat.le_of_ble_eq_true rfl, Nat.le_of_ble_eq_true rfl⟩) (q_preV (n1 := 0) (is1 := []) hK hA hZ hP hD hS rfl ⟨rfl, rfl, rfl⟩ 0 hh rfl) rfl rfl hl.1 rfl (lv_room (Nat.le_of_ble_eq_true rfl)) dL_law_356 (l_rm hn.2 hc hs (Nat.zero_le _) (Nat.zero_le _))) hS (fun t2 locs _ hB hS => ?_)
  obtain ⟨WM, hMI, hP, hD⟩ := hB
  have hP := l_swP hP
  have hD := l_swD hD
  refine lv_pop (pc := 359) hx hb dL_law_359 rfl ?_
  refine lv_goto (pc := 360) (tgt := 2146) hx hb dL_law_360 rfl ?_
  exact hgo WX WM _ _ _ _ _ _ _ _ _ hXI hMI hP hD hS hc hs
theorem law_3 (p : Program) (l : Launch) (e : Env) (s : State) (m : MethodId) (below : List Frame) (meth : Method) (c : Code) (b L : Nat) (xs : Nat → Int32) (D : va_G) (ci : Nat → ClassId) (sa : Nat → Nat) {a_x a_m i : Nat} {ls : Array Slot} (C0 : lL_C p l e s m below meth c b L xs D ci sa) (hi : i + 8 ≤ L) (hl : lv_has ls 4 [(3, .int (nI i)), (2, .ref a_m), (1, .ref a_x), (0, .ref b)]) (hgo : lL_go p l e s m below meth c b L xs D ci sa a_x a_m ls 2146) : lL_go p l e s m below meth c b L xs D ci sa a_x a_m ls 363 := by
  obtain ⟨hx, hb, hml, hown, hts, hX, hbl, hK, hZ, hret, hlocks, hL⟩ := C0
  intro WX WM t n s0 sv kv H locs cells slots hXI hMI hP hD hS hc hs
  have hA : ∀ q : Nat, s.heap.size ≤ q → (fun q : Nat => s.heap.size ≤ q) q := fun _ h => h
  have hbA : ¬ (fun q : Nat => s.heap.size ≤ q) b := Nat.not_le.mpr hbl
  have hn := hXI.n
  have hok := hXI.ok
  refine lv_aload_n (pc := 363) hx hb dL_law_363 rfl (lv_at hl 2 rfl) ?_
  refine lv_aload_n (pc := 364) hx hb dL_law_364 rfl (lv_at hl 3 rfl) ?_
  refine lv_iload_n (pc := 365) hx hb dL_law_365 rfl (lv_at hl 0 rfl) ?_
  refine lv_iconst (pc := 366) (v := nI 1) hx hb dL_law_366 (by decide) ?_
  refine lv_iadd (pc := 367) hx hb dL_law_367 ?_
  refine va_sld (pc := 368) hx hb hX hbl hbA hS (l_in hi (show 1 < 8 by decide) hL) dL_law_368 ?_
  refine lv_aload_n (pc := 369) hx hb dL_law_369 rfl (lv_at hl 3 rfl) ?_
  refine lv_iload_n (pc := 370) hx hb dL_law_370 rfl (lv_at hl 0 rfl) ?_
  refine lv_iconst (pc := 371) (v := nI 2) hx hb dL_law_371 (by decide) ?_
  refine lv_iadd (pc := 372) hx hb dL_law_372 ?_
  refine va_sld (pc := 373) hx hb hX hbl hbA hS (l_in hi (show 2 < 8 by decide) hL) dL_law_373 ?_
  refine lv_aload_n (pc := 374) hx hb dL_law_374 rfl (lv_at hl 3 rfl) ?_
  refine lv_iload_n (pc := 375) hx hb dL_law_375 rfl (lv_at hl 0 rfl) ?_
  refine lv_iconst (pc := 376) (v := nI 3) hx hb dL_law_376 (by decide) ?_
  refine lv_iadd (pc := 377) hx hb dL_law_377 ?_
  refine va_sld (pc := 378) hx hb hX hbl hbA hS (l_in hi (show 3 < 8 by decide) hL) dL_law_378 ?_
  obtain ⟨r, hM1⟩ := l_X_key l D ci (fun q : Nat => s.heap.size ≤ q) sa WM hXI (xs (nI i + nI 1).toNatClampNeg) (xs (nI i + nI 2).toNatClampNeg) (xs (nI i + nI 3).toNatClampNeg)
  obtain ⟨fs, hh⟩ := hXI.hd WM
  refine q_call (pc := 379) (va_runV (As := [.int (xs (nI i + nI 1).toNatClampNeg), .int (xs (nI i + nI 2).toNatClampNeg), .int (xs (nI i + nI 3).toNatClampNeg)]) (rest := []) ⟨hx, hb, hml, hown, hts⟩ hM1 (cwV 3 hts gL_law_X10_key rfl rfl rfl (by decide +kernel) ⟨Nat.le_of_ble_eq_true rfl, Nat.le_of_ble_eq_true rfl⟩) (q_preV (n1 := 0) (is1 := []) hK hA hZ hP hD hS rfl ⟨rfl, rfl, rfl⟩ 0 hh rfl) rfl rfl hl.1 rfl (lv_room (Nat.le_of_ble_eq_true rfl)) dL_law_379 (l_rm hn.2 hc hs (Nat.zero_le _) (Nat.zero_le _))) hS (fun t2 locs _ hB hS => ?_)
  obtain ⟨WX, hXI, hP, hD⟩ := hB
  refine lv_pop (pc := 382) hx hb dL_law_382 rfl ?_
  have hP := l_swP hP
  have hD := l_swD hD
  refine lv_aload_n (pc := 383) hx hb dL_law_383 rfl (lv_at hl 1 rfl) ?_
  refine lv_aload_n (pc := 384) hx hb dL_law_384 rfl (lv_at hl 3 rfl) ?_
  refine lv_iload_n (pc := 385) hx hb dL_law_385 rfl (lv_at hl 0 rfl) ?_
  refine lv_iconst (pc := 386) (v := nI 1) hx hb dL_law_386 (by decide) ?_
  refine lv_iadd (pc := 387) hx hb dL_law_387 ?_
  refine va_sld (pc := 388) hx hb hX hbl hbA hS (l_in hi (show 1 < 8 by decide) hL) dL_law_388 ?_
  refine lv_aload_n (pc := 389) hx hb dL_law_389 rfl (lv_at hl 3 rfl) ?_
  refine lv_iload_n (pc := 390) hx hb dL_law_390 rfl (lv_at hl 0 rfl) ?_
  refine lv_iconst (pc := 391) (v := nI 2) hx hb dL_law_391 (by decide) ?_
  refine lv_iadd (pc := 392) hx hb dL_law_392 ?_
  refine va_sld (pc := 393) hx hb hX hbl hbA hS (l_in hi (show 2 < 8 by decide) hL) dL_law_393 ?_
  refine lv_aload_n (pc := 394) hx hb dL_law_394 rfl (lv_at hl 3 rfl) ?_
  refine lv_iload_n (pc := 395) hx hb dL_law_395 rfl (lv_at hl 0 rfl) ?_
  refine lv_iconst (pc := 396) (v := nI 3) hx hb dL_law_396 (by decide) ?_
  refine lv_iadd (pc := 397) hx hb dL_law_397 ?_
  refine va_sld (pc := 398) hx hb hX hbl hbA hS (l_in hi (show 3 < 8 by decide) hL) dL_law_398 ?_
  obtain ⟨r2, hM2⟩ := l_M_key l D ci (fun q : Nat => s.heap.size ≤ q) sa WX hMI (xs (nI i + nI 1).toNatClampNeg) (xs (nI i + nI 2).toNatClampNeg) (xs (nI i + nI 3).toNatClampNeg)
  obtain ⟨fs, hh⟩ := hMI.hd WX
  refine q_call (pc := 399) (va_runV (As := [.int (xs (nI i + nI 1).toNatClampNeg), .int (xs (nI i + nI 2).toNatClampNeg), .int (xs (nI i + nI 3).toNatClampNeg)]) (rest := []) ⟨hx, hb, hml, hown, hts⟩ hM2 (cwV 3 hts gL_law_X11_key rfl rfl rfl (by decide +kernel) ⟨Nat.le_of_ble_eq_true rfl, Nat.le_of_ble_eq_true rfl⟩) (q_preV (n1 := 0) (is1 := []) hK hA hZ hP hD hS rfl ⟨rfl, rfl, rfl⟩ 0 hh rfl) rfl rfl hl.1 rfl (lv_room (Nat.le_of_ble_eq_true rfl)) dL_law_399 (l_rm hn.2 hc hs (Nat.zero_le _) (Nat.zero_le _))) hS (fun t2 locs _ hB hS => ?_)
  obtain ⟨WM, hMI, hP, hD⟩ := hB
  have hP := l_swP hP
  have hD := l_swD hD
  refine lv_pop (pc := 402) hx hb dL_law_402 rfl ?_
  refine lv_goto (pc := 403) (tgt := 2146) hx hb dL_law_403 rfl ?_
  exact hgo WX WM _ _ _ _ _ _ _ _ _ hXI hMI hP hD hS hc hs
theorem law_4 (p : Program) (l : Launch) (e : Env) (s : State) (m : MethodId) (below : List Frame) (meth : Method) (c : Code) (b L : Nat) (xs : Nat → Int32) (D : va_G) (ci : Nat → ClassId) (sa : Nat → Nat) {a_x a_m i : Nat} {ls : Array Slot} (C0 : lL_C p l e s m below meth c b L xs D ci sa) (hi : i + 8 ≤ L) (hl : lv_has ls 4 [(3, .int (nI i)), (2, .ref a_m), (1, .ref a_x), (0, .ref b)]) (hgo : lL_go p l e s m below meth c b L xs D ci sa a_x a_m ls 2146) : lL_go p l e s m below meth c b L xs D ci sa a_x a_m ls 406 := by
  obtain ⟨hx, hb, hml, hown, hts, hX, hbl, hK, hZ, hret, hlocks, hL⟩ := C0
  intro WX WM t n s0 sv kv H locs cells slots hXI hMI hP hD hS hc hs
  have hA : ∀ q : Nat, s.heap.size ≤ q → (fun q : Nat => s.heap.size ≤ q) q := fun _ h => h
  have hbA : ¬ (fun q : Nat => s.heap.size ≤ q) b := Nat.not_le.mpr hbl
  have hn := hXI.n
  have hok := hXI.ok
  refine lv_aload_n (pc := 406) hx hb dL_law_406 rfl (lv_at hl 2 rfl) ?_
  refine lv_aload_n (pc := 407) hx hb dL_law_407 rfl (lv_at hl 3 rfl) ?_
  refine lv_iload_n (pc := 408) hx hb dL_law_408 rfl (lv_at hl 0 rfl) ?_
  refine lv_iconst (pc := 409) (v := nI 1) hx hb dL_law_409 (by decide) ?_
  refine lv_iadd (pc := 410) hx hb dL_law_410 ?_
  refine va_sld (pc := 411) hx hb hX hbl hbA hS (l_in hi (show 1 < 8 by decide) hL) dL_law_411 ?_
  refine lv_aload_n (pc := 412) hx hb dL_law_412 rfl (lv_at hl 3 rfl) ?_
  refine lv_iload_n (pc := 413) hx hb dL_law_413 rfl (lv_at hl 0 rfl) ?_
  refine lv_iconst (pc := 414) (v := nI 2) hx hb dL_law_414 (by decide) ?_
  refine lv_iadd (pc := 415) hx hb dL_law_415 ?_
  refine va_sld (pc := 416) hx hb hX hbl hbA hS (l_in hi (show 2 < 8 by decide) hL) dL_law_416 ?_
  refine lv_aload_n (pc := 417) hx hb dL_law_417 rfl (lv_at hl 3 rfl) ?_
  refine lv_iload_n (pc := 418) hx hb dL_law_418 rfl (lv_at hl 0 rfl) ?_
  refine lv_iconst (pc := 419) (v := nI 3) hx hb dL_law_419 (by decide) ?_
  refine lv_iadd (pc := 420) hx hb dL_law_420 ?_
  refine va_sld (pc := 421) hx hb hX hbl hbA hS (l_in hi (show 3 < 8 by decide) hL) dL_law_421 ?_
  obtain ⟨r, hM1⟩ := l_X_name l D ci (fun q : Nat => s.heap.size ≤ q) sa WM hXI (xs (nI i + nI 1).toNatClampNeg) (xs (nI i + nI 2).toNatClampNeg) (xs (nI i + nI 3).toNatClampNeg)
  obtain ⟨fs, hh⟩ := hXI.hd WM
  refine q_call (pc := 422) (va_runV (As := [.int (xs (nI i + nI 1).toNatClampNeg), .int (xs (nI i + nI 2).toNatClampNeg), .int (xs (nI i + nI 3).toNatClampNeg)]) (rest := []) ⟨hx, hb, hml, hown, hts⟩ hM1 (cwV 3 hts gL_law_X10_name rfl rfl rfl (by decide +kernel) ⟨Nat.le_of_ble_eq_true rfl, Nat.le_of_ble_eq_true rfl⟩) (q_preV (n1 := 0) (is1 := []) hK hA hZ hP hD hS rfl ⟨rfl, rfl, rfl⟩ 0 hh rfl) rfl rfl hl.1 rfl (lv_room (Nat.le_of_ble_eq_true rfl)) dL_law_422 (l_rm hn.2 hc hs (Nat.zero_le _) (Nat.zero_le _))) hS (fun t2 locs _ hB hS => ?_)
  obtain ⟨WX, hXI, hP, hD⟩ := hB
  refine lv_pop (pc := 425) hx hb dL_law_425 rfl ?_
  have hP := l_swP hP
  have hD := l_swD hD
  refine lv_aload_n (pc := 426) hx hb dL_law_426 rfl (lv_at hl 1 rfl) ?_
  refine lv_aload_n (pc := 427) hx hb dL_law_427 rfl (lv_at hl 3 rfl) ?_
  refine lv_iload_n (pc := 428) hx hb dL_law_428 rfl (lv_at hl 0 rfl) ?_
  refine lv_iconst (pc := 429) (v := nI 1) hx hb dL_law_429 (by decide) ?_
  refine lv_iadd (pc := 430) hx hb dL_law_430 ?_
  refine va_sld (pc := 431) hx hb hX hbl hbA hS (l_in hi (show 1 < 8 by decide) hL) dL_law_431 ?_
  refine lv_aload_n (pc := 432) hx hb dL_law_432 rfl (lv_at hl 3 rfl) ?_
  refine lv_iload_n (pc := 433) hx hb dL_law_433 rfl (lv_at hl 0 rfl) ?_
  refine lv_iconst (pc := 434) (v := nI 2) hx hb dL_law_434 (by decide) ?_
  refine lv_iadd (pc := 435) hx hb dL_law_435 ?_
  refine va_sld (pc := 436) hx hb hX hbl hbA hS (l_in hi (show 2 < 8 by decide) hL) dL_law_436 ?_
  refine lv_aload_n (pc := 437) hx hb dL_law_437 rfl (lv_at hl 3 rfl) ?_
  refine lv_iload_n (pc := 438) hx hb dL_law_438 rfl (lv_at hl 0 rfl) ?_
  refine lv_iconst (pc := 439) (v := nI 3) hx hb dL_law_439 (by decide) ?_
  refine lv_iadd (pc := 440) hx hb dL_law_440 ?_
  refine va_sld (pc := 441) hx hb hX hbl hbA hS (l_in hi (show 3 < 8 by decide) hL) dL_law_441 ?_
  obtain ⟨r2, hM2⟩ := l_M_name l D ci (fun q : Nat => s.heap.size ≤ q) sa WX hMI (xs (nI i + nI 1).toNatClampNeg) (xs (nI i + nI 2).toNatClampNeg) (xs (nI i + nI 3).toNatClampNeg)
  obtain ⟨fs, hh⟩ := hMI.hd WX
  refine q_call (pc := 442) (va_runV (As := [.int (xs (nI i + nI 1).toNatClampNeg), .int (xs (nI i + nI 2).toNatClampNeg), .int (xs (nI i + nI 3).toNatClampNeg)]) (rest := []) ⟨hx, hb, hml, hown, hts⟩ hM2 (cwV 3 hts gL_law_X11_name rfl rfl rfl (by decide +kernel) ⟨Nat.le_of_ble_eq_true rfl, Nat.le_of_ble_eq_true rfl⟩) (q_preV (n1 := 0) (is1 := []) hK hA hZ hP hD hS rfl ⟨rfl, rfl, rfl⟩ 0 hh rfl) rfl rfl hl.1 rfl (lv_room (Nat.le_of_ble_eq_true rfl)) dL_law_442 (l_rm hn.2 hc hs (Nat.zero_le _) (Nat.zero_le _))) hS (fun t2 locs _ hB hS => ?_)
  obtain ⟨WM, hMI, hP, hD⟩ := hB
  have hP := l_swP hP
  have hD := l_swD hD
  refine lv_pop (pc := 445) hx hb dL_law_445 rfl ?_
  refine lv_goto (pc := 446) (tgt := 2146) hx hb dL_law_446 rfl ?_
  exact hgo WX WM _ _ _ _ _ _ _ _ _ hXI hMI hP hD hS hc hs
theorem law_5 (p : Program) (l : Launch) (e : Env) (s : State) (m : MethodId) (below : List Frame) (meth : Method) (c : Code) (b L : Nat) (xs : Nat → Int32) (D : va_G) (ci : Nat → ClassId) (sa : Nat → Nat) {a_x a_m i : Nat} {ls : Array Slot} (C0 : lL_C p l e s m below meth c b L xs D ci sa) (hi : i + 8 ≤ L) (hl : lv_has ls 4 [(3, .int (nI i)), (2, .ref a_m), (1, .ref a_x), (0, .ref b)]) (hgo : lL_go p l e s m below meth c b L xs D ci sa a_x a_m ls 2146) : lL_go p l e s m below meth c b L xs D ci sa a_x a_m ls 449 := by
  obtain ⟨hx, hb, hml, hown, hts, hX, hbl, hK, hZ, hret, hlocks, hL⟩ := C0
  intro WX WM t n s0 sv kv H locs cells slots hXI hMI hP hD hS hc hs
  have hA : ∀ q : Nat, s.heap.size ≤ q → (fun q : Nat => s.heap.size ≤ q) q := fun _ h => h
  have hbA : ¬ (fun q : Nat => s.heap.size ≤ q) b := Nat.not_le.mpr hbl
  have hn := hXI.n
  have hok := hXI.ok
  refine lv_aload_n (pc := 449) hx hb dL_law_449 rfl (lv_at hl 2 rfl) ?_
  refine lv_aload_n (pc := 450) hx hb dL_law_450 rfl (lv_at hl 3 rfl) ?_
  refine lv_iload_n (pc := 451) hx hb dL_law_451 rfl (lv_at hl 0 rfl) ?_
  refine lv_iconst (pc := 452) (v := nI 1) hx hb dL_law_452 (by decide) ?_
  refine lv_iadd (pc := 453) hx hb dL_law_453 ?_
  refine va_sld (pc := 454) hx hb hX hbl hbA hS (l_in hi (show 1 < 8 by decide) hL) dL_law_454 ?_
  refine lv_aload_n (pc := 455) hx hb dL_law_455 rfl (lv_at hl 3 rfl) ?_
  refine lv_iload_n (pc := 456) hx hb dL_law_456 rfl (lv_at hl 0 rfl) ?_
  refine lv_iconst (pc := 457) (v := nI 2) hx hb dL_law_457 (by decide) ?_
  refine lv_iadd (pc := 458) hx hb dL_law_458 ?_
  refine va_sld (pc := 459) hx hb hX hbl hbA hS (l_in hi (show 2 < 8 by decide) hL) dL_law_459 ?_
  obtain ⟨r, hM1⟩ := l_X_named l D ci (fun q : Nat => s.heap.size ≤ q) sa WM hXI (xs (nI i + nI 1).toNatClampNeg) (xs (nI i + nI 2).toNatClampNeg)
  obtain ⟨fs, hh⟩ := hXI.hd WM
  refine q_call (pc := 460) (va_runV (As := [.int (xs (nI i + nI 1).toNatClampNeg), .int (xs (nI i + nI 2).toNatClampNeg)]) (rest := []) ⟨hx, hb, hml, hown, hts⟩ hM1 (cwV 2 hts gL_law_X10_named rfl rfl rfl (by decide +kernel) ⟨Nat.le_of_ble_eq_true rfl, Nat.le_of_ble_eq_true rfl⟩) (q_preV (n1 := 0) (is1 := []) hK hA hZ hP hD hS rfl ⟨rfl, rfl, rfl⟩ 0 hh rfl) rfl rfl hl.1 rfl (lv_room (Nat.le_of_ble_eq_true rfl)) dL_law_460 (l_rm hn.2 hc hs (Nat.zero_le _) (Nat.zero_le _))) hS (fun t2 locs _ hB hS => ?_)
  obtain ⟨WX, hXI, hP, hD⟩ := hB
  refine lv_pop (pc := 463) hx hb dL_law_463 rfl ?_
  have hP := l_swP hP
  have hD := l_swD hD
  refine lv_aload_n (pc := 464) hx hb dL_law_464 rfl (lv_at hl 1 rfl) ?_
  refine lv_aload_n (pc := 465) hx hb dL_law_465 rfl (lv_at hl 3 rfl) ?_
  refine lv_iload_n (pc := 466) hx hb dL_law_466 rfl (lv_at hl 0 rfl) ?_
  refine lv_iconst (pc := 467) (v := nI 1) hx hb dL_law_467 (by decide) ?_
  refine lv_iadd (pc := 468) hx hb dL_law_468 ?_
  refine va_sld (pc := 469) hx hb hX hbl hbA hS (l_in hi (show 1 < 8 by decide) hL) dL_law_469 ?_
  refine lv_aload_n (pc := 470) hx hb dL_law_470 rfl (lv_at hl 3 rfl) ?_
  refine lv_iload_n (pc := 471) hx hb dL_law_471 rfl (lv_at hl 0 rfl) ?_
  refine lv_iconst (pc := 472) (v := nI 2) hx hb dL_law_472 (by decide) ?_
  refine lv_iadd (pc := 473) hx hb dL_law_473 ?_
  refine va_sld (pc := 474) hx hb hX hbl hbA hS (l_in hi (show 2 < 8 by decide) hL) dL_law_474 ?_
  obtain ⟨r2, hM2⟩ := l_M_named l D ci (fun q : Nat => s.heap.size ≤ q) sa WX hMI (xs (nI i + nI 1).toNatClampNeg) (xs (nI i + nI 2).toNatClampNeg)
  obtain ⟨fs, hh⟩ := hMI.hd WX
  refine q_call (pc := 475) (va_runV (As := [.int (xs (nI i + nI 1).toNatClampNeg), .int (xs (nI i + nI 2).toNatClampNeg)]) (rest := []) ⟨hx, hb, hml, hown, hts⟩ hM2 (cwV 2 hts gL_law_X11_named rfl rfl rfl (by decide +kernel) ⟨Nat.le_of_ble_eq_true rfl, Nat.le_of_ble_eq_true rfl⟩) (q_preV (n1 := 0) (is1 := []) hK hA hZ hP hD hS rfl ⟨rfl, rfl, rfl⟩ 0 hh rfl) rfl rfl hl.1 rfl (lv_room (Nat.le_of_ble_eq_true rfl)) dL_law_475 (l_rm hn.2 hc hs (Nat.zero_le _) (Nat.zero_le _))) hS (fun t2 locs _ hB hS => ?_)
  obtain ⟨WM, hMI, hP, hD⟩ := hB
  have hP := l_swP hP
  have hD := l_swD hD
  refine lv_pop (pc := 478) hx hb dL_law_478 rfl ?_
  refine lv_goto (pc := 479) (tgt := 2146) hx hb dL_law_479 rfl ?_
  exact hgo WX WM _ _ _ _ _ _ _ _ _ hXI hMI hP hD hS hc hs
theorem law_6 (p : Program) (l : Launch) (e : Env) (s : State) (m : MethodId) (below : List Frame) (meth : Method) (c : Code) (b L : Nat) (xs : Nat → Int32) (D : va_G) (ci : Nat → ClassId) (sa : Nat → Nat) {a_x a_m i : Nat} {ls : Array Slot} (C0 : lL_C p l e s m below meth c b L xs D ci sa) (hi : i + 8 ≤ L) (hl : lv_has ls 4 [(3, .int (nI i)), (2, .ref a_m), (1, .ref a_x), (0, .ref b)]) (hgo : lL_go p l e s m below meth c b L xs D ci sa a_x a_m ls 2146) : lL_go p l e s m below meth c b L xs D ci sa a_x a_m ls 482 := by
  obtain ⟨hx, hb, hml, hown, hts, hX, hbl, hK, hZ, hret, hlocks, hL⟩ := C0
  intro WX WM t n s0 sv kv H locs cells slots hXI hMI hP hD hS hc hs
  have hA : ∀ q : Nat, s.heap.size ≤ q → (fun q : Nat => s.heap.size ≤ q) q := fun _ h => h
  have hbA : ¬ (fun q : Nat => s.heap.size ≤ q) b := Nat.not_le.mpr hbl
  have hn := hXI.n
  have hok := hXI.ok
  refine lv_aload_n (pc := 482) hx hb dL_law_482 rfl (lv_at hl 2 rfl) ?_
  refine lv_aload_n (pc := 483) hx hb dL_law_483 rfl (lv_at hl 3 rfl) ?_
  refine lv_iload_n (pc := 484) hx hb dL_law_484 rfl (lv_at hl 0 rfl) ?_
  refine lv_iconst (pc := 485) (v := nI 1) hx hb dL_law_485 (by decide) ?_
  refine lv_iadd (pc := 486) hx hb dL_law_486 ?_
  refine va_sld (pc := 487) hx hb hX hbl hbA hS (l_in hi (show 1 < 8 by decide) hL) dL_law_487 ?_
  refine lv_aload_n (pc := 488) hx hb dL_law_488 rfl (lv_at hl 3 rfl) ?_
  refine lv_iload_n (pc := 489) hx hb dL_law_489 rfl (lv_at hl 0 rfl) ?_
  refine lv_iconst (pc := 490) (v := nI 2) hx hb dL_law_490 (by decide) ?_
  refine lv_iadd (pc := 491) hx hb dL_law_491 ?_
  refine va_sld (pc := 492) hx hb hX hbl hbA hS (l_in hi (show 2 < 8 by decide) hL) dL_law_492 ?_
  refine lv_aload_n (pc := 493) hx hb dL_law_493 rfl (lv_at hl 3 rfl) ?_
  refine lv_iload_n (pc := 494) hx hb dL_law_494 rfl (lv_at hl 0 rfl) ?_
  refine lv_iconst (pc := 495) (v := nI 3) hx hb dL_law_495 (by decide) ?_
  refine lv_iadd (pc := 496) hx hb dL_law_496 ?_
  refine va_sld (pc := 497) hx hb hX hbl hbA hS (l_in hi (show 3 < 8 by decide) hL) dL_law_497 ?_
  obtain ⟨r, hM1⟩ := l_X_edge l D ci (fun q : Nat => s.heap.size ≤ q) sa WM hXI (xs (nI i + nI 1).toNatClampNeg) (xs (nI i + nI 2).toNatClampNeg) (xs (nI i + nI 3).toNatClampNeg)
  obtain ⟨fs, hh⟩ := hXI.hd WM
  refine q_call (pc := 498) (va_runV (As := [.int (xs (nI i + nI 1).toNatClampNeg), .int (xs (nI i + nI 2).toNatClampNeg), .int (xs (nI i + nI 3).toNatClampNeg)]) (rest := []) ⟨hx, hb, hml, hown, hts⟩ hM1 (cwV 3 hts gL_law_X10_edge rfl rfl rfl (by decide +kernel) ⟨Nat.le_of_ble_eq_true rfl, Nat.le_of_ble_eq_true rfl⟩) (q_preV (n1 := 0) (is1 := []) hK hA hZ hP hD hS rfl ⟨rfl, rfl, rfl⟩ 0 hh rfl) rfl rfl hl.1 rfl (lv_room (Nat.le_of_ble_eq_true rfl)) dL_law_498 (l_rm hn.2 hc hs (Nat.zero_le _) (Nat.zero_le _))) hS (fun t2 locs _ hB hS => ?_)
  obtain ⟨WX, hXI, hP, hD⟩ := hB
  refine lv_pop2_2 (pc := 501) hx hb dL_law_501 rfl ?_
  have hP := l_swP hP
  have hD := l_swD hD
  refine lv_aload_n (pc := 502) hx hb dL_law_502 rfl (lv_at hl 1 rfl) ?_
  refine lv_aload_n (pc := 503) hx hb dL_law_503 rfl (lv_at hl 3 rfl) ?_
  refine lv_iload_n (pc := 504) hx hb dL_law_504 rfl (lv_at hl 0 rfl) ?_
  refine lv_iconst (pc := 505) (v := nI 1) hx hb dL_law_505 (by decide) ?_
  refine lv_iadd (pc := 506) hx hb dL_law_506 ?_
  refine va_sld (pc := 507) hx hb hX hbl hbA hS (l_in hi (show 1 < 8 by decide) hL) dL_law_507 ?_
  refine lv_aload_n (pc := 508) hx hb dL_law_508 rfl (lv_at hl 3 rfl) ?_
  refine lv_iload_n (pc := 509) hx hb dL_law_509 rfl (lv_at hl 0 rfl) ?_
  refine lv_iconst (pc := 510) (v := nI 2) hx hb dL_law_510 (by decide) ?_
  refine lv_iadd (pc := 511) hx hb dL_law_511 ?_
  refine va_sld (pc := 512) hx hb hX hbl hbA hS (l_in hi (show 2 < 8 by decide) hL) dL_law_512 ?_
  refine lv_aload_n (pc := 513) hx hb dL_law_513 rfl (lv_at hl 3 rfl) ?_
  refine lv_iload_n (pc := 514) hx hb dL_law_514 rfl (lv_at hl 0 rfl) ?_
  refine lv_iconst (pc := 515) (v := nI 3) hx hb dL_law_515 (by decide) ?_
  refine lv_iadd (pc := 516) hx hb dL_law_516 ?_
  refine va_sld (pc := 517) hx hb hX hbl hbA hS (l_in hi (show 3 < 8 by decide) hL) dL_law_517 ?_
  obtain ⟨r2, hM2⟩ := l_M_edge l D ci (fun q : Nat => s.heap.size ≤ q) sa WX hMI (xs (nI i + nI 1).toNatClampNeg) (xs (nI i + nI 2).toNatClampNeg) (xs (nI i + nI 3).toNatClampNeg)
  obtain ⟨fs, hh⟩ := hMI.hd WX
  refine q_call (pc := 518) (va_runV (As := [.int (xs (nI i + nI 1).toNatClampNeg), .int (xs (nI i + nI 2).toNatClampNeg), .int (xs (nI i + nI 3).toNatClampNeg)]) (rest := []) ⟨hx, hb, hml, hown, hts⟩ hM2 (cwV 3 hts gL_law_X11_edge rfl rfl rfl (by decide +kernel) ⟨Nat.le_of_ble_eq_true rfl, Nat.le_of_ble_eq_true rfl⟩) (q_preV (n1 := 0) (is1 := []) hK hA hZ hP hD hS rfl ⟨rfl, rfl, rfl⟩ 0 hh rfl) rfl rfl hl.1 rfl (lv_room (Nat.le_of_ble_eq_true rfl)) dL_law_518 (l_rm hn.2 hc hs (Nat.zero_le _) (Nat.zero_le _))) hS (fun t2 locs _ hB hS => ?_)
  obtain ⟨WM, hMI, hP, hD⟩ := hB
  have hP := l_swP hP
  have hD := l_swD hD
  refine lv_pop2_2 (pc := 521) hx hb dL_law_521 rfl ?_
  refine lv_goto (pc := 522) (tgt := 2146) hx hb dL_law_522 rfl ?_
  exact hgo WX WM _ _ _ _ _ _ _ _ _ hXI hMI hP hD hS hc hs
theorem law_7 (p : Program) (l : Launch) (e : Env) (s : State) (m : MethodId) (below : List Frame) (meth : Method) (c : Code) (b L : Nat) (xs : Nat → Int32) (D : va_G) (ci : Nat → ClassId) (sa : Nat → Nat) {a_x a_m i : Nat} {ls : Array Slot} (C0 : lL_C p l e s m below meth c b L xs D ci sa) (hi : i + 8 ≤ L) (hl : lv_has ls 4 [(3, .int (nI i)), (2, .ref a_m), (1, .ref a_x), (0, .ref b)]) (hgo : lL_go p l e s m below meth c b L xs D ci sa a_x a_m ls 2146) : lL_go p l e s m below meth c b L xs D ci sa a_x a_m ls 525 := by
  obtain ⟨hx, hb, hml, hown, hts, hX, hbl, hK, hZ, hret, hlocks, hL⟩ := C0
  intro WX WM t n s0 sv kv H locs cells slots hXI hMI hP hD hS hc hs
  have hA : ∀ q : Nat, s.heap.size ≤ q → (fun q : Nat => s.heap.size ≤ q) q := fun _ h => h
  have hbA : ¬ (fun q : Nat => s.heap.size ≤ q) b := Nat.not_le.mpr hbl
  have hn := hXI.n
  have hok := hXI.ok
  refine lv_aload_n (pc := 525) hx hb dL_law_525 rfl (lv_at hl 2 rfl) ?_
  refine lv_aload_n (pc := 526) hx hb dL_law_526 rfl (lv_at hl 3 rfl) ?_
  refine lv_iload_n (pc := 527) hx hb dL_law_527 rfl (lv_at hl 0 rfl) ?_
  refine lv_iconst (pc := 528) (v := nI 1) hx hb dL_law_528 (by decide) ?_
  refine lv_iadd (pc := 529) hx hb dL_law_529 ?_
  refine va_sld (pc := 530) hx hb hX hbl hbA hS (l_in hi (show 1 < 8 by decide) hL) dL_law_530 ?_
  refine lv_aload_n (pc := 531) hx hb dL_law_531 rfl (lv_at hl 3 rfl) ?_
  refine lv_iload_n (pc := 532) hx hb dL_law_532 rfl (lv_at hl 0 rfl) ?_
  refine lv_iconst (pc := 533) (v := nI 2) hx hb dL_law_533 (by decide) ?_
  refine lv_iadd (pc := 534) hx hb dL_law_534 ?_
  refine va_sld (pc := 535) hx hb hX hbl hbA hS (l_in hi (show 2 < 8 by decide) hL) dL_law_535 ?_
  refine lv_aload_n (pc := 536) hx hb dL_law_536 rfl (lv_at hl 3 rfl) ?_
  refine lv_iload_n (pc := 537) hx hb dL_law_537 rfl (lv_at hl 0 rfl) ?_
  refine lv_iconst (pc := 538) (v := nI 3) hx hb dL_law_538 (by decide) ?_
  refine lv_iadd (pc := 539) hx hb dL_law_539 ?_
  refine va_sld (pc := 540) hx hb hX hbl hbA hS (l_in hi (show 3 < 8 by decide) hL) dL_law_540 ?_
  obtain ⟨r, hM1⟩ := l_X_middle l D ci (fun q : Nat => s.heap.size ≤ q) sa WM hXI (xs (nI i + nI 1).toNatClampNeg) (xs (nI i + nI 2).toNatClampNeg) (xs (nI i + nI 3).toNatClampNeg)
  obtain ⟨fs, hh⟩ := hXI.hd WM
  refine q_call (pc := 541) (va_runV (As := [.int (xs (nI i + nI 1).toNatClampNeg), .int (xs (nI i + nI 2).toNatClampNeg), .int (xs (nI i + nI 3).toNatClampNeg)]) (rest := []) ⟨hx, hb, hml, hown, hts⟩ hM1 (cwV 3 hts gL_law_X10_middle rfl rfl rfl (by decide +kernel) ⟨Nat.le_of_ble_eq_true rfl, Nat.le_of_ble_eq_true rfl⟩) (q_preV (n1 := 0) (is1 := []) hK hA hZ hP hD hS rfl ⟨rfl, rfl, rfl⟩ 0 hh rfl) rfl rfl hl.1 rfl (lv_room (Nat.le_of_ble_eq_true rfl)) dL_law_541 (l_rm hn.2 hc hs (Nat.zero_le _) (Nat.zero_le _))) hS (fun t2 locs _ hB hS => ?_)
  obtain ⟨WX, hXI, hP, hD⟩ := hB
  refine lv_pop (pc := 544) hx hb dL_law_544 rfl ?_
  have hP := l_swP hP
  have hD := l_swD hD
  refine lv_aload_n (pc := 545) hx hb dL_law_545 rfl (lv_at hl 1 rfl) ?_
  refine lv_aload_n (pc := 546) hx hb dL_law_546 rfl (lv_at hl 3 rfl) ?_
  refine lv_iload_n (pc := 547) hx hb dL_law_547 rfl (lv_at hl 0 rfl) ?_
  refine lv_iconst (pc := 548) (v := nI 1) hx hb dL_law_548 (by decide) ?_
  refine lv_iadd (pc := 549) hx hb dL_law_549 ?_
  refine va_sld (pc := 550) hx hb hX hbl hbA hS (l_in hi (show 1 < 8 by decide) hL) dL_law_550 ?_
  refine lv_aload_n (pc := 551) hx hb dL_law_551 rfl (lv_at hl 3 rfl) ?_
  refine lv_iload_n (pc := 552) hx hb dL_law_552 rfl (lv_at hl 0 rfl) ?_
  refine lv_iconst (pc := 553) (v := nI 2) hx hb dL_law_553 (by decide) ?_
  refine lv_iadd (pc := 554) hx hb dL_law_554 ?_
  refine va_sld (pc := 555) hx hb hX hbl hbA hS (l_in hi (show 2 < 8 by decide) hL) dL_law_555 ?_
  refine lv_aload_n (pc := 556) hx hb dL_law_556 rfl (lv_at hl 3 rfl) ?_
  refine lv_iload_n (pc := 557) hx hb dL_law_557 rfl (lv_at hl 0 rfl) ?_
  refine lv_iconst (pc := 558) (v := nI 3) hx hb dL_law_558 (by decide) ?_
  refine lv_iadd (pc := 559) hx hb dL_law_559 ?_
  refine va_sld (pc := 560) hx hb hX hbl hbA hS (l_in hi (show 3 < 8 by decide) hL) dL_law_560 ?_
  obtain ⟨r2, hM2⟩ := l_M_middle l D ci (fun q : Nat => s.heap.size ≤ q) sa WX hMI (xs (nI i + nI 1).toNatClampNeg) (xs (nI i + nI 2).toNatClampNeg) (xs (nI i + nI 3).toNatClampNeg)
  obtain ⟨fs, hh⟩ := hMI.hd WX
  refine q_call (pc := 561) (va_runV (As := [.int (xs (nI i + nI 1).toNatClampNeg), .int (xs (nI i + nI 2).toNatClampNeg), .int (xs (nI i + nI 3).toNatClampNeg)]) (rest := []) ⟨hx, hb, hml, hown, hts⟩ hM2 (cwV 3 hts gL_law_X11_middle rfl rfl rfl (by decide +kernel) ⟨Nat.le_of_ble_eq_true rfl, Nat.le_of_ble_eq_true rfl⟩) (q_preV (n1 := 0) (is1 := []) hK hA hZ hP hD hS rfl ⟨rfl, rfl, rfl⟩ 0 hh rfl) rfl rfl hl.1 rfl (lv_room (Nat.le_of_ble_eq_true rfl)) dL_law_561 (l_rm hn.2 hc hs (Nat.zero_le _) (Nat.zero_le _))) hS (fun t2 locs _ hB hS => ?_)
  obtain ⟨WM, hMI, hP, hD⟩ := hB
  have hP := l_swP hP
  have hD := l_swD hD
  refine lv_pop (pc := 564) hx hb dL_law_564 rfl ?_
  refine lv_goto (pc := 565) (tgt := 2146) hx hb dL_law_565 rfl ?_
  exact hgo WX WM _ _ _ _ _ _ _ _ _ hXI hMI hP hD hS hc hs
theorem law_8 (p : Program) (l : Launch) (e : Env) (s : State) (m : MethodId) (below : List Frame) (meth : Method) (c : Code) (b L : Nat) (xs : Nat → Int32) (D : va_G) (ci : Nat → ClassId) (sa : Nat → Nat) {a_x a_m i : Nat} {ls : Array Slot} (C0 : lL_C p l e s m below meth c b L xs D ci sa) (hi : i + 8 ≤ L) (hl : lv_has ls 4 [(3, .int (nI i)), (2, .ref a_m), (1, .ref a_x), (0, .ref b)]) (hgo : lL_go p l e s m below meth c b L xs D ci sa a_x a_m ls 2146) : lL_go p l e s m below meth c b L xs D ci sa a_x a_m ls 568 := by
  obtain ⟨hx, hb, hml, hown, hts, hX, hbl, hK, hZ, hret, hlocks, hL⟩ := C0
  intro WX WM t n s0 sv kv H locs cells slots hXI hMI hP hD hS hc hs
  have hA : ∀ q : Nat, s.heap.size ≤ q → (fun q : Nat => s.heap.size ≤ q) q := fun _ h => h
  have hbA : ¬ (fun q : Nat => s.heap.size ≤ q) b := Nat.not_le.mpr hbl
  have hn := hXI.n
  have hok := hXI.ok
  refine lv_aload_n (pc := 568) hx hb dL_law_568 rfl (lv_at hl 2 rfl) ?_
  refine lv_aload_n (pc := 569) hx hb dL_law_569 rfl (lv_at hl 3 rfl) ?_
  refine lv_iload_n (pc := 570) hx hb dL_law_570 rfl (lv_at hl 0 rfl) ?_
  refine lv_iconst (pc := 571) (v := nI 1) hx hb dL_law_571 (by decide) ?_
  refine lv_iadd (pc := 572) hx hb dL_law_572 ?_
  refine va_sld (pc := 573) hx hb hX hbl hbA hS (l_in hi (show 1 < 8 by decide) hL) dL_law_573 ?_
  refine lv_aload_n (pc := 574) hx hb dL_law_574 rfl (lv_at hl 3 rfl) ?_
  refine lv_iload_n (pc := 575) hx hb dL_law_575 rfl (lv_at hl 0 rfl) ?_
  refine lv_iconst (pc := 576) (v := nI 2) hx hb dL_law_576 (by decide) ?_
  refine lv_iadd (pc := 577) hx hb dL_law_577 ?_
  refine va_sld (pc := 578) hx hb hX hbl hbA hS (l_in hi (show 2 < 8 by decide) hL) dL_law_578 ?_
  refine lv_aload_n (pc := 579) hx hb dL_law_579 rfl (lv_at hl 3 rfl) ?_
  refine lv_iload_n (pc := 580) hx hb dL_law_580 rfl (lv_at hl 0 rfl) ?_
  refine lv_iconst (pc := 581) (v := nI 3) hx hb dL_law_581 (by decide) ?_
  refine lv_iadd (pc := 582) hx hb dL_law_582 ?_
  refine va_sld (pc := 583) hx hb hX hbl hbA hS (l_in hi (show 3 < 8 by decide) hL) dL_law_583 ?_
  obtain ⟨r, hM1⟩ := l_X_at l D ci (fun q : Nat => s.heap.size ≤ q) sa WM hXI (xs (nI i + nI 1).toNatClampNeg) (xs (nI i + nI 2).toNatClampNeg) (xs (nI i + nI 3).toNatClampNeg)
  obtain ⟨fs, hh⟩ := hXI.hd WM
  refine q_call (pc := 584) (va_runV (As := [.int (xs (nI i + nI 1).toNatClampNeg), .int (xs (nI i + nI 2).toNatClampNeg), .int (xs (nI i + nI 3).toNatClampNeg)]) (rest := []) ⟨hx, hb, hml, hown, hts⟩ hM1 (cwV 3 hts gL_law_X10_at rfl rfl rfl (by decide +kernel) ⟨Nat.le_of_ble_eq_true rfl, Nat.le_of_ble_eq_true rfl⟩) (q_preV (n1 := 0) (is1 := []) hK hA hZ hP hD hS rfl ⟨rfl, rfl, rfl⟩ 0 hh rfl) rfl rfl hl.1 rfl (lv_room (Nat.le_of_ble_eq_true rfl)) dL_law_584 (l_rm hn.2 hc hs (Nat.zero_le _) (Nat.zero_le _))) hS (fun t2 locs _ hB hS => ?_)
  obtain ⟨WX, hXI, hP, hD⟩ := hB
  refine lv_pop (pc := 587) hx hb dL_law_587 rfl ?_
  have hP := l_swP hP
  have hD := l_swD hD
  refine lv_aload_n (pc := 588) hx hb dL_law_588 rfl (lv_at hl 1 rfl) ?_
  refine lv_aload_n (pc := 589) hx hb dL_law_589 rfl (lv_at hl 3 rfl) ?_
  refine lv_iload_n (pc := 590) hx hb dL_law_590 rfl (lv_at hl 0 rfl) ?_
  refine lv_iconst (pc := 591) (v := nI 1) hx hb dL_law_591 (by decide) ?_
  refine lv_iadd (pc := 592) hx hb dL_law_592 ?_
  refine va_sld (pc := 593) hx hb hX hbl hbA hS (l_in hi (show 1 < 8 by decide) hL) dL_law_593 ?_
  refine lv_aload_n (pc := 594) hx hb dL_law_594 rfl (lv_at hl 3 rfl) ?_
  refine lv_iload_n (pc := 595) hx hb dL_law_595 rfl (lv_at hl 0 rfl) ?_
  refine lv_iconst (pc := 596) (v := nI 2) hx hb dL_law_596 (by decide) ?_
  refine lv_iadd (pc := 597) hx hb dL_law_597 ?_
  refine va_sld (pc := 598) hx hb hX hbl hbA hS (l_in hi (show 2 < 8 by decide) hL) dL_law_598 ?_
  refine lv_aload_n (pc := 599) hx hb dL_law_599 rfl (lv_at hl 3 rfl) ?_
  refine lv_iload_n (pc := 600) hx hb dL_law_600 rfl (lv_at hl 0 rfl) ?_
  refine lv_iconst (pc := 601) (v := nI 3) hx hb dL_law_601 (by decide) ?_
  refine lv_iadd (pc := 602) hx hb dL_law_602 ?_
  refine va_sld (pc := 603) hx hb hX hbl hbA hS (l_in hi (show 3 < 8 by decide) hL) dL_law_603 ?_
  obtain ⟨r2, hM2⟩ := l_M_at l D ci (fun q : Nat => s.heap.size ≤ q) sa WX hMI (xs (nI i + nI 1).toNatClampNeg) (xs (nI i + nI 2).toNatClampNeg) (xs (nI i + nI 3).toNatClampNeg)
  obtain ⟨fs, hh⟩ := hMI.hd WX
  refine q_call (pc := 604) (va_runV (As := [.int (xs (nI i + nI 1).toNatClampNeg), .int (xs (nI i + nI 2).toNatClampNeg), .int (xs (nI i + nI 3).toNatClampNeg)]) (rest := []) ⟨hx, hb, hml, hown, hts⟩ hM2 (cwV 3 hts gL_law_X11_at rfl rfl rfl (by decide +kernel) ⟨Nat.le_of_ble_eq_true rfl, Nat.le_of_ble_eq_true rfl⟩) (q_preV (n1 := 0) (is1 := []) hK hA hZ hP hD hS rfl ⟨rfl, rfl, rfl⟩ 0 hh rfl) rfl rfl hl.1 rfl (lv_room (Nat.le_of_ble_eq_true rfl)) dL_law_604 (l_rm hn.2 hc hs (Nat.zero_le _) (Nat.zero_le _))) hS (fun t2 locs _ hB hS => ?_)
  obtain ⟨WM, hMI, hP, hD⟩ := hB
  have hP := l_swP hP
  have hD := l_swD hD
  refine lv_pop (pc := 607) hx hb dL_law_607 rfl ?_
  refine lv_goto (pc := 608) (tgt := 2146) hx hb dL_law_608 rfl ?_
  exact hgo WX WM _ _ _ _ _ _ _ _ _ hXI hMI hP hD hS hc hs
theorem law_9 (p : Program) (l : Launch) (e : Env) (s : State) (m : MethodId) (below : List Frame) (meth : Method) (c : Code) (b L : Nat) (xs : Nat → Int32) (D : va_G) (ci : Nat → ClassId) (sa : Nat → Nat) {a_x a_m i : Nat} {ls : Array Slot} (C0 : lL_C p l e s m below meth c b L xs D ci sa) (hi : i + 8 ≤ L) (hl : lv_has ls 4 [(3, .int (nI i)), (2, .ref a_m), (1, .ref a_x), (0, .ref b)]) (hgo : lL_go p l e s m below meth c b L xs D ci sa a_x a_m ls 2146) : lL_go p l e s m below meth c b L xs D ci sa a_x a_m ls 611 := by
  obtain ⟨hx, hb, hml, hown, hts, hX, hbl, hK, hZ, hret, hlocks, hL⟩ := C0
  intro WX WM t n s0 sv kv H locs cells slots hXI hMI hP hD hS hc hs
  have hA : ∀ q : Nat, s.heap.size ≤ q → (fun q : Nat => s.heap.size ≤ q) q := fun _ h => h
  have hbA : ¬ (fun q : Nat => s.heap.size ≤ q) b := Nat.not_le.mpr hbl
  have hn := hXI.n
  have hok := hXI.ok
  refine lv_aload_n (pc := 611) hx hb dL_law_611 rfl (lv_at hl 2 rfl) ?_
  refine lv_aload_n (pc := 612) hx hb dL_law_612 rfl (lv_at hl 3 rfl) ?_
  refine lv_iload_n (pc := 613) hx hb dL_law_613 rfl (lv_at hl 0 rfl) ?_
  refine lv_iconst (pc := 614) (v := nI 1) hx hb dL_law_614 (by decide) ?_
  refine lv_iadd (pc := 615) hx hb dL_law_615 ?_
  refine va_sld (pc := 616) hx hb hX hbl hbA hS (l_in hi (show 1 < 8 by decide) hL) dL_law_616 ?_
  refine lv_aload_n (pc := 617) hx hb dL_law_617 rfl (lv_at hl 3 rfl) ?_
  refine lv_iload_n (pc := 618) hx hb dL_law_618 rfl (lv_at hl 0 rfl) ?_
  refine lv_iconst (pc := 619) (v := nI 2) hx hb dL_law_619 (by decide) ?_
  refine lv_iadd (pc := 620) hx hb dL_law_620 ?_
  refine va_sld (pc := 621) hx hb hX hbl hbA hS (l_in hi (show 2 < 8 by decide) hL) dL_law_621 ?_
  refine lv_aload_n (pc := 622) hx hb dL_law_622 rfl (lv_at hl 3 rfl) ?_
  refine lv_iload_n (pc := 623) hx hb dL_law_623 rfl (lv_at hl 0 rfl) ?_
  refine lv_iconst (pc := 624) (v := nI 3) hx hb dL_law_624 (by decide) ?_
  refine lv_iadd (pc := 625) hx hb dL_law_625 ?_
  refine va_sld (pc := 626) hx hb hX hbl hbA hS (l_in hi (show 3 < 8 by decide) hL) dL_law_626 ?_
  obtain ⟨r, hM1⟩ := l_X_keyAt l D ci (fun q : Nat => s.heap.size ≤ q) sa WM hXI (xs (nI i + nI 1).toNatClampNeg) (xs (nI i + nI 2).toNatClampNeg) (xs (nI i + nI 3).toNatClampNeg)
  obtain ⟨fs, hh⟩ := hXI.hd WM
  refine q_call (pc := 627) (va_runV (As := [.int (xs (nI i + nI 1).toNatClampNeg), .int (xs (nI i + nI 2).toNatClampNeg), .int (xs (nI i + nI 3).toNatClampNeg)]) (rest := []) ⟨hx, hb, hml, hown, hts⟩ hM1 (cwV 3 hts gL_law_X10_keyAt rfl rfl rfl (by decide +kernel) ⟨Nat.le_of_ble_eq_true rfl, Nat.le_of_ble_eq_true rfl⟩) (q_preV (n1 := 0) (is1 := []) hK hA hZ hP hD hS rfl ⟨rfl, rfl, rfl⟩ 0 hh rfl) rfl rfl hl.1 rfl (lv_room (Nat.le_of_ble_eq_true rfl)) dL_law_627 (l_rm hn.2 hc hs (Nat.zero_le _) (Nat.zero_le _))) hS (fun t2 locs _ hB hS => ?_)
  obtain ⟨WX, hXI, hP, hD⟩ := hB
  refine lv_pop (pc := 630) hx hb dL_law_630 rfl ?_
  have hP := l_swP hP
  have hD := l_swD hD
  refine lv_aload_n (pc := 631) hx hb dL_law_631 rfl (lv_at hl 1 rfl) ?_
  refine lv_aload_n (pc := 632) hx hb dL_law_632 rfl (lv_at hl 3 rfl) ?_
  refine lv_iload_n (pc := 633) hx hb dL_law_633 rfl (lv_at hl 0 rfl) ?_
  refine lv_iconst (pc := 634) (v := nI 1) hx hb dL_law_634 (by decide) ?_
  refine lv_iadd (pc := 635) hx hb dL_law_635 ?_
  refine va_sld (pc := 636) hx hb hX hbl hbA hS (l_in hi (show 1 < 8 by decide) hL) dL_law_636 ?_
  refine lv_aload_n (pc := 637) hx hb dL_law_637 rfl (lv_at hl 3 rfl) ?_
  refine lv_iload_n (pc := 638) hx hb dL_law_638 rfl (lv_at hl 0 rfl) ?_
  refine lv_iconst (pc := 639) (v := nI 2) hx hb dL_law_639 (by decide) ?_
  refine lv_iadd (pc := 640) hx hb dL_law_640 ?_
  refine va_sld (pc := 641) hx hb hX hbl hbA hS (l_in hi (show 2 < 8 by decide) hL) dL_law_641 ?_
  refine lv_aload_n (pc := 642) hx hb dL_law_642 rfl (lv_at hl 3 rfl) ?_
  refine lv_iload_n (pc := 643) hx hb dL_law_643 rfl (lv_at hl 0 rfl) ?_
  refine lv_iconst (pc := 644) (v := nI 3) hx hb dL_law_644 (by decide) ?_
  refine lv_iadd (pc := 645) hx hb dL_law_645 ?_
  refine va_sld (pc := 646) hx hb hX hbl hbA hS (l_in hi (show 3 < 8 by decide) hL) dL_law_646 ?_
  obtain ⟨r2, hM2⟩ := l_M_keyAt l D ci (fun q : Nat => s.heap.size ≤ q) sa WX hMI (xs (nI i + nI 1).toNatClampNeg) (xs (nI i + nI 2).toNatClampNeg) (xs (nI i + nI 3).toNatClampNeg)
  obtain ⟨fs, hh⟩ := hMI.hd WX
  refine q_call (pc := 647) (va_runV (As := [.int (xs (nI i + nI 1).toNatClampNeg), .int (xs (nI i + nI 2).toNatClampNeg), .int (xs (nI i + nI 3).toNatClampNeg)]) (rest := []) ⟨hx, hb, hml, hown, hts⟩ hM2 (cwV 3 hts gL_law_X11_keyAt rfl rfl rfl (by decide +kernel) ⟨Nat.le_of_ble_eq_true rfl, Nat.le_of_ble_eq_true rfl⟩) (q_preV (n1 := 0) (is1 := []) hK hA hZ hP hD hS rfl ⟨rfl, rfl, rfl⟩ 0 hh rfl) rfl rfl hl.1 rfl (lv_room (Nat.le_of_ble_eq_true rfl)) dL_law_647 (l_rm hn.2 hc hs (Nat.zero_le _) (Nat.zero_le _))) hS (fun t2 locs _ hB hS => ?_)
  obtain ⟨WM, hMI, hP, hD⟩ := hB
  have hP := l_swP hP
  have hD := l_swD hD
  refine lv_pop (pc := 650) hx hb dL_law_650 rfl ?_
  refine lv_goto (pc := 651) (tgt := 2146) hx hb dL_law_651 rfl ?_
  exact hgo WX WM _ _ _ _ _ _ _ _ _ hXI hMI hP hD hS hc hs
theorem law_10 (p : Program) (l : Launch) (e : Env) (s : State) (m : MethodId) (below : List Frame) (meth : Method) (c : Code) (b L : Nat) (xs : Nat → Int32) (D : va_G) (ci : Nat → ClassId) (sa : Nat → Nat) {a_x a_m i : Nat} {ls : Array Slot} (C0 : lL_C p l e s m below meth c b L xs D ci sa) (hi : i + 8 ≤ L) (hl : lv_has ls 4 [(3, .int (nI i)), (2, .ref a_m), (1, .ref a_x), (0, .ref b)]) (hgo : lL_go p l e s m below meth c b L xs D ci sa a_x a_m ls 2146) : lL_go p l e s m below meth c b L xs D ci sa a_x a_m ls 654 := by
  obtain ⟨hx, hb, hml, hown, hts, hX, hbl, hK, hZ, hret, hlocks, hL⟩ := C0
  intro WX WM t n s0 sv kv H locs cells slots hXI hMI hP hD hS hc hs
  have hA : ∀ q : Nat, s.heap.size ≤ q → (fun q : Nat => s.heap.size ≤ q) q := fun _ h => h
  have hbA : ¬ (fun q : Nat => s.heap.size ≤ q) b := Nat.not_le.mpr hbl
  have hn := hXI.n
  have hok := hXI.ok
  refine lv_aload_n (pc := 654) hx hb dL_law_654 rfl (lv_at hl 2 rfl) ?_
  refine lv_aload_n (pc := 655) hx hb dL_law_655 rfl (lv_at hl 3 rfl) ?_
  refine lv_iload_n (pc := 656) hx hb dL_law_656 rfl (lv_at hl 0 rfl) ?_
  refine lv_iconst (pc := 657) (v := nI 1) hx hb dL_law_657 (by decide) ?_
  refine lv_iadd (pc := 658) hx hb dL_law_658 ?_
  refine va_sld (pc := 659) hx hb hX hbl hbA hS (l_in hi (show 1 < 8 by decide) hL) dL_law_659 ?_
  refine lv_aload_n (pc := 660) hx hb dL_law_660 rfl (lv_at hl 3 rfl) ?_
  refine lv_iload_n (pc := 661) hx hb dL_law_661 rfl (lv_at hl 0 rfl) ?_
  refine lv_iconst (pc := 662) (v := nI 2) hx hb dL_law_662 (by decide) ?_
  refine lv_iadd (pc := 663) hx hb dL_law_663 ?_
  refine va_sld (pc := 664) hx hb hX hbl hbA hS (l_in hi (show 2 < 8 by decide) hL) dL_law_664 ?_
  refine lv_aload_n (pc := 665) hx hb dL_law_665 rfl (lv_at hl 3 rfl) ?_
  refine lv_iload_n (pc := 666) hx hb dL_law_666 rfl (lv_at hl 0 rfl) ?_
  refine lv_iconst (pc := 667) (v := nI 3) hx hb dL_law_667 (by decide) ?_
  refine lv_iadd (pc := 668) hx hb dL_law_668 ?_
  refine va_sld (pc := 669) hx hb hX hbl hbA hS (l_in hi (show 3 < 8 by decide) hL) dL_law_669 ?_
  obtain ⟨r, hM1⟩ := l_X_parent l D ci (fun q : Nat => s.heap.size ≤ q) sa WM hXI (xs (nI i + nI 1).toNatClampNeg) (xs (nI i + nI 2).toNatClampNeg) (xs (nI i + nI 3).toNatClampNeg)
  obtain ⟨fs, hh⟩ := hXI.hd WM
  refine q_call (pc := 670) (va_runV (As := [.int (xs (nI i + nI 1).toNatClampNeg), .int (xs (nI i + nI 2).toNatClampNeg), .int (xs (nI i + nI 3).toNatClampNeg)]) (rest := []) ⟨hx, hb, hml, hown, hts⟩ hM1 (cwV 3 hts gL_law_X10_parent rfl rfl rfl (by decide +kernel) ⟨Nat.le_of_ble_eq_true rfl, Nat.le_of_ble_eq_true rfl⟩) (q_preV (n1 := 0) (is1 := []) hK hA hZ hP hD hS rfl ⟨rfl, rfl, rfl⟩ 0 hh rfl) rfl rfl hl.1 rfl (lv_room (Nat.le_of_ble_eq_true rfl)) dL_law_670 (l_rm hn.2 hc hs (Nat.zero_le _) (Nat.zero_le _))) hS (fun t2 locs _ hB hS => ?_)
  obtain ⟨WX, hXI, hP, hD⟩ := hB
  refine lv_pop (pc := 673) hx hb dL_law_673 rfl ?_
  have hP := l_swP hP
  have hD := l_swD hD
  refine lv_aload_n (pc := 674) hx hb dL_law_674 rfl (lv_at hl 1 rfl) ?_
  refine lv_aload_n (pc := 675) hx hb dL_law_675 rfl (lv_at hl 3 rfl) ?_
  refine lv_iload_n (pc := 676) hx hb dL_law_676 rfl (lv_at hl 0 rfl) ?_
  refine lv_iconst (pc := 677) (v := nI 1) hx hb dL_law_677 (by decide) ?_
  refine lv_iadd (pc := 678) hx hb dL_law_678 ?_
  refine va_sld (pc := 679) hx hb hX hbl hbA hS (l_in hi (show 1 < 8 by decide) hL) dL_law_679 ?_
  refine lv_aload_n (pc := 680) hx hb dL_law_680 rfl (lv_at hl 3 rfl) ?_
  refine lv_iload_n (pc := 681) hx hb dL_law_681 rfl (lv_at hl 0 rfl) ?_
  refine lv_iconst (pc := 682) (v := nI 2) hx hb dL_law_682 (by decide) ?_
  refine lv_iadd (pc := 683) hx hb dL_law_683 ?_
  refine va_sld (pc := 684) hx hb hX hbl hbA hS (l_in hi (show 2 < 8 by decide) hL) dL_law_684 ?_
  refine lv_aload_n (pc := 685) hx hb dL_law_685 rfl (lv_at hl 3 rfl) ?_
  refine lv_iload_n (pc := 686) hx hb dL_law_686 rfl (lv_at hl 0 rfl) ?_
  refine lv_iconst (pc := 687) (v := nI 3) hx hb dL_law_687 (by decide) ?_
  refine lv_iadd (pc := 688) hx hb dL_law_688 ?_
  refine va_sld (pc := 689) hx hb hX hbl hbA hS (l_in hi (show 3 < 8 by decide) hL) dL_law_689 ?_
  obtain ⟨r2, hM2⟩ := l_M_parent l D ci (fun q : Nat => s.heap.size ≤ q) sa WX hMI (xs (nI i + nI 1).toNatClampNeg) (xs (nI i + nI 2).toNatClampNeg) (xs (nI i + nI 3).toNatClampNeg)
  obtain ⟨fs, hh⟩ := hMI.hd WX
  refine q_call (pc := 690) (va_runV (As := [.int (xs (nI i + nI 1).toNatClampNeg), .int (xs (nI i + nI 2).toNatClampNeg), .int (xs (nI i + nI 3).toNatClampNeg)]) (rest := []) ⟨hx, hb, hml, hown, hts⟩ hM2 (cwV 3 hts gL_law_X11_parent rfl rfl rfl (by decide +kernel) ⟨Nat.le_of_ble_eq_true rfl, Nat.le_of_ble_eq_true rfl⟩) (q_preV (n1 := 0) (is1 := []) hK hA hZ hP hD hS rfl ⟨rfl, rfl, rfl⟩ 0 hh rfl) rfl rfl hl.1 rfl (lv_room (Nat.le_of_ble_eq_true rfl)) dL_law_690 (l_rm hn.2 hc hs (Nat.zero_le _) (Nat.zero_le _))) hS (fun t2 locs _ hB hS => ?_)
  obtain ⟨WM, hMI, hP, hD⟩ := hB
  have hP := l_swP hP
  have hD := l_swD hD
  refine lv_pop (pc := 693) hx hb dL_law_693 rfl ?_
  refine lv_goto (pc := 694) (tgt := 2146) hx hb dL_law_694 rfl ?_
  exact hgo WX WM _ _ _ _ _ _ _ _ _ hXI hMI hP hD hS hc hs
