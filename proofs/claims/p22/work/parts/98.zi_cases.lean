section
/-! the law's cases -/
theorem law_0 (p : Program) (l : Launch) (e : Env) (s : State) (m : MethodId) (below : List Frame) (meth : Method) (c : Code) (b L : Nat) (xs : Nat → Int32) (D : va_G) (ci : Nat → ClassId) (sa : Nat → Nat) {a_x a_m i : Nat} {ls : Array Slot} (C0 : lL_C p l e s m below meth c b L xs D ci sa) (hi : i + 8 ≤ L) (hl : lv_has ls 4 [(3, .int (nI i)), (2, .ref a_m), (1, .ref a_x), (0, .ref b)]) (hgo : lL_go p l e s m below meth c b L xs D ci sa a_x a_m ls 2146) : lL_go p l e s m below meth c b L xs D ci sa a_x a_m ls 224 := by
  obtain ⟨hx, hb, hml, hown, hts, hX, hbl, hK, hZ, hret, hlocks, hL⟩ := C0
  intro WX WM t n s0 sv kv H locs cells slots hXI hMI hP hD hS hc hs
  have hA : ∀ q : Nat, s.heap.size ≤ q → (fun q : Nat => s.heap.size ≤ q) q := fun _ h => h
  have hbA : ¬ (fun q : Nat => s.heap.size ≤ q) b := Nat.not_le.mpr hbl
  have hn := hXI.n
  have hok := hXI.ok
  refine lv_aload_n (pc := 224) hx hb dL_law_224 rfl (lv_at hl 2 rfl) ?_
  refine lv_aload_n (pc := 225) hx hb dL_law_225 rfl (lv_at hl 3 rfl) ?_
  refine lv_iload_n (pc := 226) hx hb dL_law_226 rfl (lv_at hl 0 rfl) ?_
  refine lv_iconst (pc := 227) (v := nI 1) hx hb dL_law_227 (by decide) ?_
  refine lv_iadd (pc := 228) hx hb dL_law_228 ?_
  refine va_sld (pc := 229) hx hb hX hbl hbA hS (l_in hi (show 1 < 8 by decide) hL) dL_law_229 ?_
  refine lv_aload_n (pc := 230) hx hb dL_law_230 rfl (lv_at hl 3 rfl) ?_
  refine lv_iload_n (pc := 231) hx hb dL_law_231 rfl (lv_at hl 0 rfl) ?_
  refine lv_iconst (pc := 232) (v := nI 2) hx hb dL_law_232 (by decide) ?_
  refine lv_iadd (pc := 233) hx hb dL_law_233 ?_
  refine va_sld (pc := 234) hx hb hX hbl hbA hS (l_in hi (show 2 < 8 by decide) hL) dL_law_234 ?_
  refine lv_aload_n (pc := 235) hx hb dL_law_235 rfl (lv_at hl 3 rfl) ?_
  refine lv_iload_n (pc := 236) hx hb dL_law_236 rfl (lv_at hl 0 rfl) ?_
  refine lv_iconst (pc := 237) (v := nI 3) hx hb dL_law_237 (by decide) ?_
  refine lv_iadd (pc := 238) hx hb dL_law_238 ?_
  refine va_sld (pc := 239) hx hb hX hbl hbA hS (l_in hi (show 3 < 8 by decide) hL) dL_law_239 ?_
  refine lv_aload_n (pc := 240) hx hb dL_law_240 rfl (lv_at hl 3 rfl) ?_
  refine lv_iload_n (pc := 241) hx hb dL_law_241 rfl (lv_at hl 0 rfl) ?_
  refine lv_iconst (pc := 242) (v := nI 4) hx hb dL_law_242 (by decide) ?_
  refine lv_iadd (pc := 243) hx hb dL_law_243 ?_
  refine va_sld (pc := 244) hx hb hX hbl hbA hS (l_in hi (show 4 < 8 by decide) hL) dL_law_244 ?_
  refine lv_aload_n (pc := 245) hx hb dL_law_245 rfl (lv_at hl 3 rfl) ?_
  refine lv_iload_n (pc := 246) hx hb dL_law_246 rfl (lv_at hl 0 rfl) ?_
  refine lv_iconst (pc := 247) (v := nI 5) hx hb dL_law_247 (by decide) ?_
  refine lv_iadd (pc := 248) hx hb dL_law_248 ?_
  refine va_sld (pc := 249) hx hb hX hbl hbA hS (l_in hi (show 5 < 8 by decide) hL) dL_law_249 ?_
  obtain ⟨r, hr, hM1⟩ := l_X_feed l D ci (fun q : Nat => s.heap.size ≤ q) sa WM hXI (xs (nI i + nI 1).toNatClampNeg) (xs (nI i + nI 2).toNatClampNeg) (xs (nI i + nI 3).toNatClampNeg) (xs (nI i + nI 4).toNatClampNeg) (xs (nI i + nI 5).toNatClampNeg)
  obtain ⟨fs, hh⟩ := hXI.hd WM
  refine q_call (pc := 250) (va_runV (As := [.int (xs (nI i + nI 1).toNatClampNeg), .int (xs (nI i + nI 2).toNatClampNeg), .int (xs (nI i + nI 3).toNatClampNeg), .int (xs (nI i + nI 4).toNatClampNeg), .int (xs (nI i + nI 5).toNatClampNeg)]) (rest := []) ⟨hx, hb, hml, hown, hts⟩ hM1 (cwV 5 hts gL_law_X10_feed rfl rfl rfl (by decide +kernel) ⟨Nat.le_of_ble_eq_true rfl, Nat.le_of_ble_eq_true rfl⟩) (q_preV (n1 := 0) (is1 := []) hK hA hZ hP hD hS rfl ⟨rfl, rfl, rfl⟩ 0 hh rfl) rfl rfl hl.1 rfl (lv_room (Nat.le_of_ble_eq_true rfl)) dL_law_250 (l_rm hn.2 hc hs (Nat.zero_le _) (Nat.zero_le _))) hS (fun t2 locs _ hB hS => ?_)
  obtain ⟨WX, hXI, hP, hD⟩ := hB
  refine lv_pop (pc := 253) hx hb dL_law_253 rfl ?_
  have hP := l_swP hP
  have hD := l_swD hD
  refine lv_aload_n (pc := 254) hx hb dL_law_254 rfl (lv_at hl 1 rfl) ?_
  refine lv_aload_n (pc := 255) hx hb dL_law_255 rfl (lv_at hl 3 rfl) ?_
  refine lv_iload_n (pc := 256) hx hb dL_law_256 rfl (lv_at hl 0 rfl) ?_
  refine lv_iconst (pc := 257) (v := nI 1) hx hb dL_law_257 (by decide) ?_
  refine lv_iadd (pc := 258) hx hb dL_law_258 ?_
  refine va_sld (pc := 259) hx hb hX hbl hbA hS (l_in hi (show 1 < 8 by decide) hL) dL_law_259 ?_
  refine lv_aload_n (pc := 260) hx hb dL_law_260 rfl (lv_at hl 3 rfl) ?_
  refine lv_iload_n (pc := 261) hx hb dL_law_261 rfl (lv_at hl 0 rfl) ?_
  refine lv_iconst (pc := 262) (v := nI 2) hx hb dL_law_262 (by decide) ?_
  refine lv_iadd (pc := 263) hx hb dL_law_263 ?_
  refine va_sld (pc := 264) hx hb hX hbl hbA hS (l_in hi (show 2 < 8 by decide) hL) dL_law_264 ?_
  refine lv_aload_n (pc := 265) hx hb dL_law_265 rfl (lv_at hl 3 rfl) ?_
  refine lv_iload_n (pc := 266) hx hb dL_law_266 rfl (lv_at hl 0 rfl) ?_
  refine lv_iconst (pc := 267) (v := nI 3) hx hb dL_law_267 (by decide) ?_
  refine lv_iadd (pc := 268) hx hb dL_law_268 ?_
  refine va_sld (pc := 269) hx hb hX hbl hbA hS (l_in hi (show 3 < 8 by decide) hL) dL_law_269 ?_
  refine lv_aload_n (pc := 270) hx hb dL_law_270 rfl (lv_at hl 3 rfl) ?_
  refine lv_iload_n (pc := 271) hx hb dL_law_271 rfl (lv_at hl 0 rfl) ?_
  refine lv_iconst (pc := 272) (v := nI 4) hx hb dL_law_272 (by decide) ?_
  refine lv_iadd (pc := 273) hx hb dL_law_273 ?_
  refine va_sld (pc := 274) hx hb hX hbl hbA hS (l_in hi (show 4 < 8 by decide) hL) dL_law_274 ?_
  refine lv_aload_n (pc := 275) hx hb dL_law_275 rfl (lv_at hl 3 rfl) ?_
  refine lv_iload_n (pc := 276) hx hb dL_law_276 rfl (lv_at hl 0 rfl) ?_
  refine lv_iconst (pc := 277) (v := nI 5) hx hb dL_law_277 (by decide) ?_
  refine lv_iadd (pc := 278) hx hb dL_law_278 ?_
  refine va_sld (pc := 279) hx hb hX hbl hbA hS (l_in hi (show 5 < 8 by decide) hL) dL_law_279 ?_
  obtain ⟨r2, hr2, hM2⟩ := l_M_feed l D ci (fun q : Nat => s.heap.size ≤ q) sa WX hMI (xs (nI i + nI 1).toNatClampNeg) (xs (nI i + nI 2).toNatClampNeg) (xs (nI i + nI 3).toNatClampNeg) (xs (nI i + nI 4).toNatClampNeg) (xs (nI i + nI 5).toNatClampNeg)
  obtain ⟨fs, hh⟩ := hMI.hd WX
  refine q_call (pc := 280) (va_runV (As := [.int (xs (nI i + nI 1).toNatClampNeg), .int (xs (nI i + nI 2).toNatClampNeg), .int (xs (nI i + nI 3).toNatClampNeg), .int (xs (nI i + nI 4).toNatClampNeg), .int (xs (nI i + nI 5).toNatClampNeg)]) (rest := []) ⟨hx, hb, hml, hown, hts⟩ hM2 (cwV 5 hts gL_law_X11_feed rfl rfl rfl (by decide +kernel) ⟨Nat.le_of_ble_eq_true rfl, Nat.le_of_ble_eq_true rfl⟩) (q_preV (n1 := 0) (is1 := []) hK hA hZ hP hD hS rfl ⟨rfl, rfl, rfl⟩ 0 hh rfl) rfl rfl hl.1 rfl (lv_room (Nat.le_of_ble_eq_true rfl)) dL_law_280 (l_rm hn.2 hc hs (Nat.zero_le _) (Nat.zero_le _))) hS (fun t2 locs _ hB hS => ?_)
  obtain ⟨WM, hMI, hP, hD⟩ := hB
  have hP := l_swP hP
  have hD := l_swD hD
  refine lv_pop (pc := 283) hx hb dL_law_283 rfl ?_
  refine lv_goto (pc := 284) (tgt := 2146) hx hb dL_law_284 rfl ?_
  exact hgo WX WM _ _ _ _ _ _ _ _ _ hXI hMI hP hD hS hc hs
theorem law_1 (p : Program) (l : Launch) (e : Env) (s : State) (m : MethodId) (below : List Frame) (meth : Method) (c : Code) (b L : Nat) (xs : Nat → Int32) (D : va_G) (ci : Nat → ClassId) (sa : Nat → Nat) {a_x a_m i : Nat} {ls : Array Slot} (C0 : lL_C p l e s m below meth c b L xs D ci sa) (hi : i + 8 ≤ L) (hl : lv_has ls 4 [(3, .int (nI i)), (2, .ref a_m), (1, .ref a_x), (0, .ref b)]) (hgo : lL_go p l e s m below meth c b L xs D ci sa a_x a_m ls 2146) : lL_go p l e s m below meth c b L xs D ci sa a_x a_m ls 287 := by
  obtain ⟨hx, hb, hml, hown, hts, hX, hbl, hK, hZ, hret, hlocks, hL⟩ := C0
  intro WX WM t n s0 sv kv H locs cells slots hXI hMI hP hD hS hc hs
  have hA : ∀ q : Nat, s.heap.size ≤ q → (fun q : Nat => s.heap.size ≤ q) q := fun _ h => h
  have hbA : ¬ (fun q : Nat => s.heap.size ≤ q) b := Nat.not_le.mpr hbl
  have hn := hXI.n
  have hok := hXI.ok
  refine lv_aload_n (pc := 287) hx hb dL_law_287 rfl (lv_at hl 2 rfl) ?_
  refine lv_aload_n (pc := 288) hx hb dL_law_288 rfl (lv_at hl 3 rfl) ?_
  refine lv_iload_n (pc := 289) hx hb dL_law_289 rfl (lv_at hl 0 rfl) ?_
  refine lv_iconst (pc := 290) (v := nI 1) hx hb dL_law_290 (by decide) ?_
  refine lv_iadd (pc := 291) hx hb dL_law_291 ?_
  refine va_sld (pc := 292) hx hb hX hbl hbA hS (l_in hi (show 1 < 8 by decide) hL) dL_law_292 ?_
  refine lv_aload_n (pc := 293) hx hb dL_law_293 rfl (lv_at hl 3 rfl) ?_
  refine lv_iload_n (pc := 294) hx hb dL_law_294 rfl (lv_at hl 0 rfl) ?_
  refine lv_iconst (pc := 295) (v := nI 2) hx hb dL_law_295 (by decide) ?_
  refine lv_iadd (pc := 296) hx hb dL_law_296 ?_
  refine va_sld (pc := 297) hx hb hX hbl hbA hS (l_in hi (show 2 < 8 by decide) hL) dL_law_297 ?_
  refine lv_aload_n (pc := 298) hx hb dL_law_298 rfl (lv_at hl 3 rfl) ?_
  refine lv_iload_n (pc := 299) hx hb dL_law_299 rfl (lv_at hl 0 rfl) ?_
  refine lv_iconst (pc := 300) (v := nI 3) hx hb dL_law_300 (by decide) ?_
  refine lv_iadd (pc := 301) hx hb dL_law_301 ?_
  refine va_sld (pc := 302) hx hb hX hbl hbA hS (l_in hi (show 3 < 8 by decide) hL) dL_law_302 ?_
  obtain ⟨r, s2, hT, hM1⟩ := l_X_cut l D ci (fun q : Nat => s.heap.size ≤ q) sa WM hXI (xs (nI i + nI 1).toNatClampNeg) (xs (nI i + nI 2).toNatClampNeg) (xs (nI i + nI 3).toNatClampNeg)
  obtain ⟨fs, hh⟩ := hXI.hd WM
  refine q_call (pc := 303) (va_runV (As := [.int (xs (nI i + nI 1).toNatClampNeg), .int (xs (nI i + nI 2).toNatClampNeg), .int (xs (nI i + nI 3).toNatClampNeg)]) (rest := []) ⟨hx, hb, hml, hown, hts⟩ hM1 (cwV 3 hts gL_law_X10_cut rfl rfl rfl (by decide +kernel) ⟨Nat.le_of_ble_eq_true rfl, Nat.le_of_ble_eq_true rfl⟩) (q_preV (n1 := 0) (is1 := []) hK hA hZ hP hD hS rfl ⟨rfl, rfl, rfl⟩ 0 hh rfl) rfl rfl hl.1 rfl (lv_room (Nat.le_of_ble_eq_true rfl)) dL_law_303 (l_rm hn.2 hc hs (Nat.zero_le _) (Nat.zero_le _))) hS (fun t2 locs _ hB hS => ?_)
  obtain ⟨WX, hXI, hP, hD⟩ := hB
  refine lv_pop (pc := 306) hx hb dL_law_306 rfl ?_
  have hP := l_swP hP
  have hD := l_swD hD
  refine lv_aload_n (pc := 307) hx hb dL_law_307 rfl (lv_at hl 1 rfl) ?_
  refine lv_aload_n (pc := 308) hx hb dL_law_308 rfl (lv_at hl 3 rfl) ?_
  refine lv_iload_n (pc := 309) hx hb dL_law_309 rfl (lv_at hl 0 rfl) ?_
  refine lv_iconst (pc := 310) (v := nI 1) hx hb dL_law_310 (by decide) ?_
  refine lv_iadd (pc := 311) hx hb dL_law_311 ?_
  refine va_sld (pc := 312) hx hb hX hbl hbA hS (l_in hi (show 1 < 8 by decide) hL) dL_law_312 ?_
  refine lv_aload_n (pc := 313) hx hb dL_law_313 rfl (lv_at hl 3 rfl) ?_
  refine lv_iload_n (pc := 314) hx hb dL_law_314 rfl (lv_at hl 0 rfl) ?_
  refine lv_iconst (pc := 315) (v := nI 2) hx hb dL_law_315 (by decide) ?_
  refine lv_iadd (pc := 316) hx hb dL_law_316 ?_
  refine va_sld (pc := 317) hx hb hX hbl hbA hS (l_in hi (show 2 < 8 by decide) hL) dL_law_317 ?_
  refine lv_aload_n (pc := 318) hx hb dL_law_318 rfl (lv_at hl 3 rfl) ?_
  refine lv_iload_n (pc := 319) hx hb dL_law_319 rfl (lv_at hl 0 rfl) ?_
  refine lv_iconst (pc := 320) (v := nI 3) hx hb dL_law_320 (by decide) ?_
  refine lv_iadd (pc := 321) hx hb dL_law_321 ?_
  refine va_sld (pc := 322) hx hb hX hbl hbA hS (l_in hi (show 3 < 8 by decide) hL) dL_law_322 ?_
  obtain ⟨r2, s3, hT2, hM2⟩ := l_M_cut l D ci (fun q : Nat => s.heap.size ≤ q) sa WX hMI (xs (nI i + nI 1).toNatClampNeg) (xs (nI i + nI 2).toNatClampNeg) (xs (nI i + nI 3).toNatClampNeg)
  obtain ⟨fs, hh⟩ := hMI.hd WX
  refine q_call (pc := 323) (va_runV (As := [.int (xs (nI i + nI 1).toNatClampNeg), .int (xs (nI i + nI 2).toNatClampNeg), .int (xs (nI i + nI 3).toNatClampNeg)]) (rest := []) ⟨hx, hb, hml, hown, hts⟩ hM2 (cwV 3 hts gL_law_X11_cut rfl rfl rfl (by decide +kernel) ⟨Nat.le_of_ble_eq_true rfl, Nat.le_of_ble_eq_true rfl⟩) (q_preV (n1 := 0) (is1 := []) hK hA hZ hP hD hS rfl ⟨rfl, rfl, rfl⟩ 0 hh rfl) rfl rfl hl.1 rfl (lv_room (Nat.le_of_ble_eq_true rfl)) dL_law_323 (l_rm hn.2 hc hs (Nat.zero_le _) (Nat.zero_le _))) hS (fun t2 locs _ hB hS => ?_)
  obtain ⟨WM, hMI, hP, hD⟩ := hB
  obtain ⟨hrr, e23⟩ := l_tcut_one hok hT hT2
  rw [← e23] at hMI
  have hP := l_swP hP
  have hD := l_swD hD
  refine lv_pop (pc := 326) hx hb dL_law_326 rfl ?_
  refine lv_goto (pc := 327) (tgt := 2146) hx hb dL_law_327 rfl ?_
  exact hgo WX WM _ _ _ _ _ _ _ _ _ hXI hMI hP hD hS hc hs
theorem law_2 (p : Program) (l : Launch) (e : Env) (s : State) (m : MethodId) (below : List Frame) (meth : Method) (c : Code) (b L : Nat) (xs : Nat → Int32) (D : va_G) (ci : Nat → ClassId) (sa : Nat → Nat) {a_x a_m i : Nat} {ls : Array Slot} (C0 : lL_C p l e s m below meth c b L xs D ci sa) (hi : i + 8 ≤ L) (hl : lv_has ls 4 [(3, .int (nI i)), (2, .ref a_m), (1, .ref a_x), (0, .ref b)]) (hgo : lL_go p l e s m below meth c b L xs D ci sa a_x a_m ls 2146) : lL_go p l e s m below meth c b L xs D ci sa a_x a_m ls 330 := by
  obtain ⟨hx, hb, hml, hown, hts, hX, hbl, hK, hZ, hret, hlocks, hL⟩ := C0
  intro WX WM t n s0 sv kv H locs cells slots hXI hMI hP hD hS hc hs
  have hA : ∀ q : Nat, s.heap.size ≤ q → (fun q : Nat => s.heap.size ≤ q) q := fun _ h => h
  have hbA : ¬ (fun q : Nat => s.heap.size ≤ q) b := Nat.not_le.mpr hbl
  have hn := hXI.n
  have hok := hXI.ok
  refine lv_aload_n (pc := 330) hx hb dL_law_330 rfl (lv_at hl 2 rfl) ?_
  refine lv_aload_n (pc := 331) hx hb dL_law_331 rfl (lv_at hl 3 rfl) ?_
  refine lv_iload_n (pc := 332) hx hb dL_law_332 rfl (lv_at hl 0 rfl) ?_
  refine lv_iconst (pc := 333) (v := nI 1) hx hb dL_law_333 (by decide) ?_
  refine lv_iadd (pc := 334) hx hb dL_law_334 ?_
  refine va_sld (pc := 335) hx hb hX hbl hbA hS (l_in hi (show 1 < 8 by decide) hL) dL_law_335 ?_
  refine lv_aload_n (pc := 336) hx hb dL_law_336 rfl (lv_at hl 3 rfl) ?_
  refine lv_iload_n (pc := 337) hx hb dL_law_337 rfl (lv_at hl 0 rfl) ?_
  refine lv_iconst (pc := 338) (v := nI 2) hx hb dL_law_338 (by decide) ?_
  refine lv_iadd (pc := 339) hx hb dL_law_339 ?_
  refine va_sld (pc := 340) hx hb hX hbl hbA hS (l_in hi (show 2 < 8 by decide) hL) dL_law_340 ?_
  obtain ⟨r, hM1⟩ := l_X_level l D ci (fun q : Nat => s.heap.size ≤ q) sa WM hXI (xs (nI i + nI 1).toNatClampNeg) (xs (nI i + nI 2).toNatClampNeg)
  obtain ⟨fs, hh⟩ := hXI.hd WM
  refine q_call (pc := 341) (va_runV (As := [.int (xs (nI i + nI 1).toNatClampNeg), .int (xs (nI i + nI 2).toNatClampNeg)]) (rest := []) ⟨hx, hb, hml, hown, hts⟩ hM1 (cwV 2 hts gL_law_X10_level rfl rfl rfl (by decide +kernel) ⟨Nat.le_of_ble_eq_true rfl, Nat.le_of_ble_eq_true rfl⟩) (q_preV (n1 := 0) (is1 := []) hK hA hZ hP hD hS rfl ⟨rfl, rfl, rfl⟩ 0 hh rfl) rfl rfl hl.1 rfl (lv_room (Nat.le_of_ble_eq_true rfl)) dL_law_341 (l_rm hn.2 hc hs (Nat.zero_le _) (Nat.zero_le _))) hS (fun t2 locs _ hB hS => ?_)
  obtain ⟨WX, hXI, hP, hD⟩ := hB
  refine lv_pop (pc := 344) hx hb dL_law_344 rfl ?_
  have hP := l_swP hP
  have hD := l_swD hD
  refine lv_aload_n (pc := 345) hx hb dL_law_345 rfl (lv_at hl 1 rfl) ?_
  refine lv_aload_n (pc := 346) hx hb dL_law_346 rfl (lv_at hl 3 rfl) ?_
  refine lv_iload_n (pc := 347) hx hb dL_law_347 rfl (lv_at hl 0 rfl) ?_
  refine lv_iconst (pc := 348) (v := nI 1) hx hb dL_law_348 (by decide) ?_
  refine lv_iadd (pc := 349) hx hb dL_law_349 ?_
  refine va_sld (pc := 350) hx hb hX hbl hbA hS (l_in hi (show 1 < 8 by decide) hL) dL_law_350 ?_
  refine lv_aload_n (pc := 351) hx hb dL_law_351 rfl (lv_at hl 3 rfl) ?_
  refine lv_iload_n (pc := 352) hx hb dL_law_352 rfl (lv_at hl 0 rfl) ?_
  refine lv_iconst (pc := 353) (v := nI 2) hx hb dL_law_353 (by decide) ?_
  refine lv_iadd (pc := 354) hx hb dL_law_354 ?_
  refine va_sld (pc := 355) hx hb hX hbl hbA hS (l_in hi (show 2 < 8 by decide) hL) dL_law_355 ?_
  obtain ⟨r2, hM2⟩ := l_M_level l D ci (fun q : Nat => s.heap.size ≤ q) sa WX hMI (xs (nI i + nI 1).toNatClampNeg) (xs (nI i + nI 2).toNatClampNeg)
  obtain ⟨fs, hh⟩ := hMI.hd WX
  refine q_call (pc := 356) (va_runV (As := [.int (xs (nI i + nI 1).toNatClampNeg), .int (xs (nI i + nI 2).toNatClampNeg)]) (rest := []) ⟨hx, hb, hml, hown, hts⟩ hM2 (cwV 2 hts gL_law_X11_level rfl rfl rfl (by decide +kernel) ⟨Nat.le_of_ble_eq_true rfl, Nat.le_of_ble_eq_true rfl⟩) (q_preV (n1 := 0) (is1 := []) hK hA hZ hP hD hS rfl ⟨rfl, rfl, rfl⟩ 0 hh rfl) rfl rfl hl.1 rfl (lv_room (Nat.le_of_ble_eq_true rfl)) dL_law_356 (l_rm hn.2 hc hs (Nat.zero_le _) (Nat.zero_le _))) hS (fun t2 locs _ hB hS => ?_)
  obtain ⟨WM, hMI, hP, hD⟩ := hB
  have hP := l_swP hP
  have hD := l_swD hD
  refine lv_pop (pc := 359) hx hb dL_law_359 rfl ?_
  refine lv_goto (pc := 360) (tgt := 2146) hx hb dL_law_360 rfl ?_
  exact hgo WX WM _ _ _ _ _ _ _ _ _ hXI hMI hP hD hS hc hs
theorem law_3 (p : Program) (l : Launch) (e : Env) (s : State) (m : MethodId) (below : List Frame) (meth : Method) (c : Code) (b L : Nat) (xs : Nat → Int32) (D : va_G) (ci : Nat → ClassId) (sa : Nat → Nat) {a_x a_m i : Nat} {ls : Array Slot} (C0 : lL_C p l e s m below meth c b L xs D ci sa) (hi : i + 8 ≤ L) (hl : lv_has ls 4 [(3, .int (nI i)), (2, .ref a_m), (1, .ref a_x), (0, .ref b)]) (hgo : lL_go p l e s m below meth c b L xs D ci sa a_x a_m ls 2146) : lL_go p l e s m below meth c b L xs D ci sa a_x a_m ls 363 := by
  obtain ⟨hx, hb, hml, hown, hts, hX, hbl, hK, hZ, hret, hlocks, hL⟩ := C0
  intro WX WM t n s0 sv kv H locs cells slots hXI hMI hP hD hS hc hs
  have hA : ∀ q : Nat, s.heap.size ≤ q → (fun q : Nat => s.heap.size ≤ q) q := fun _ h => h
  have hbA : ¬ (fun q : Nat => s.heap.size ≤ q) b := Nat.not_le.mpr hbl
  have hn := hXI.n
  have hok := hXI.ok
  refine lv_aload_n (pc := 363) hx hb dL_law_363 rfl (lv_at hl 2 rfl) ?_
  refine lv_aload_n (pc := 364) hx hb dL_law_364 rfl (lv_at hl 3 rfl) ?_
  refine lv_iload_n (pc := 365) hx hb dL_law_365 rfl (lv_at hl 0 rfl) ?_
  refine lv_iconst (pc := 366) (v := nI 1) hx hb dL_law_366 (by decide) ?_
  refine lv_iadd (pc := 367) hx hb dL_law_367 ?_
  refine va_sld (pc := 368) hx hb hX hbl hbA hS (l_in hi (show 1 < 8 by decide) hL) dL_law_368 ?_
  refine lv_aload_n (pc := 369) hx hb dL_law_369 rfl (lv_at hl 3 rfl) ?_
  refine lv_iload_n (pc := 370) hx hb dL_law_370 rfl (lv_at hl 0 rfl) ?_
  refine lv_iconst (pc := 371) (v := nI 2) hx hb dL_law_371 (by decide) ?_
  refine lv_iadd (pc := 372) hx hb dL_law_372 ?_
  refine va_sld (pc := 373) hx hb hX hbl hbA hS (l_in hi (show 2 < 8 by decide) hL) dL_law_373 ?_
  refine lv_aload_n (pc := 374) hx hb dL_law_374 rfl (lv_at hl 3 rfl) ?_
  refine lv_iload_n (pc := 375) hx hb dL_law_375 rfl (lv_at hl 0 rfl) ?_
  refine lv_iconst (pc := 376) (v := nI 3) hx hb dL_law_376 (by decide) ?_
  refine lv_iadd (pc := 377) hx hb dL_law_377 ?_
  refine va_sld (pc := 378) hx hb hX hbl hbA hS (l_in hi (show 3 < 8 by decide) hL) dL_law_378 ?_
  obtain ⟨r, hM1⟩ := l_X_key l D ci (fun q : Nat => s.heap.size ≤ q) sa WM hXI (xs (nI i + nI 1).toNatClampNeg) (xs (nI i + nI 2).toNatClampNeg) (xs (nI i + nI 3).toNatClampNeg)
  obtain ⟨fs, hh⟩ := hXI.hd WM
  refine q_call (pc := 379) (va_runV (As := [.int (xs (nI i + nI 1).toNatClampNeg), .int (xs (nI i + nI 2).toNatClampNeg), .int (xs (nI i + nI 3).toNatClampNeg)]) (rest := []) ⟨hx, hb, hml, hown, hts⟩ hM1 (cwV 3 hts gL_law_X10_key rfl rfl rfl (by decide +kernel) ⟨Nat.le_of_ble_eq_true rfl, Nat.le_of_ble_eq_true rfl⟩) (q_preV (n1 := 0) (is1 := []) hK hA hZ hP hD hS rfl ⟨rfl, rfl, rfl⟩ 0 hh rfl) rfl rfl hl.1 rfl (lv_room (Nat.le_of_ble_eq_true rfl)) dL_law_379 (l_rm hn.2 hc hs (Nat.zero_le _) (Nat.zero_le _))) hS (fun t2 locs _ hB hS => ?_)
  obtain ⟨WX, hXI, hP, hD⟩ := hB
  refine lv_pop (pc := 382) hx hb dL_law_382 rfl ?_
  have hP := l_swP hP
  have hD := l_swD hD
  refine lv_aload_n (pc := 383) hx hb dL_law_383 rfl (lv_at hl 1 rfl) ?_
  refine lv_aload_n (pc := 384) hx hb dL_law_384 rfl (lv_at hl 3 rfl) ?_
  refine lv_iload_n (pc := 385) hx hb dL_law_385 rfl (lv_at hl 0 rfl) ?_
  refine lv_iconst (pc := 386) (v := nI 1) hx hb dL_law_386 (by decide) ?_
  refine lv_iadd (pc := 387) hx hb dL_law_387 ?_
  refine va_sld (pc := 388) hx hb hX hbl hbA hS (l_in hi (show 1 < 8 by decide) hL) dL_law_388 ?_
  refine lv_aload_n (pc := 389) hx hb dL_law_389 rfl (lv_at hl 3 rfl) ?_
  refine lv_iload_n (pc := 390) hx hb dL_law_390 rfl (lv_at hl 0 rfl) ?_
  refine lv_iconst (pc := 391) (v := nI 2) hx hb dL_law_391 (by decide) ?_
  refine lv_iadd (pc := 392) hx hb dL_law_392 ?_
  refine va_sld (pc := 393) hx hb hX hbl hbA hS (l_in hi (show 2 < 8 by decide) hL) dL_law_393 ?_
  refine lv_aload_n (pc := 394) hx hb dL_law_394 rfl (lv_at hl 3 rfl) ?_
  refine lv_iload_n (pc := 395) hx hb dL_law_395 rfl (lv_at hl 0 rfl) ?_
  refine lv_iconst (pc := 396) (v := nI 3) hx hb dL_law_396 (by decide) ?_
  refine lv_iadd (pc := 397) hx hb dL_law_397 ?_
  refine va_sld (pc := 398) hx hb hX hbl hbA hS (l_in hi (show 3 < 8 by decide) hL) dL_law_398 ?_
  obtain ⟨r2, hM2⟩ := l_M_key l D ci (fun q : Nat => s.heap.size ≤ q) sa WX hMI (xs (nI i + nI 1).toNatClampNeg) (xs (nI i + nI 2).toNatClampNeg) (xs (nI i + nI 3).toNatClampNeg)
  obtain ⟨fs, hh⟩ := hMI.hd WX
  refine q_call (pc := 399) (va_runV (As := [.int (xs (nI i + nI 1).toNatClampNeg), .int (xs (nI i + nI 2).toNatClampNeg), .int (xs (nI i + nI 3).toNatClampNeg)]) (rest := []) ⟨hx, hb, hml, hown, hts⟩ hM2 (cwV 3 hts gL_law_X11_key rfl rfl rfl (by decide +kernel) ⟨Nat.le_of_ble_eq_true rfl, Nat.le_of_ble_eq_true rfl⟩) (q_preV (n1 := 0) (is1 := []) hK hA hZ hP hD hS rfl ⟨rfl, rfl, rfl⟩ 0 hh rfl) rfl rfl hl.1 rfl (lv_room (Nat.le_of_ble_eq_true rfl)) dL_law_399 (l_rm hn.2 hc hs (Nat.zero_le _) (Nat.zero_le _))) hS (fun t2 locs _ hB hS => ?_)
  obtain ⟨WM, hMI, hP, hD⟩ := hB
  have hP := l_swP hP
  have hD := l_swD hD
  refine lv_pop (pc := 402) hx hb dL_law_402 rfl ?_
  refine lv_goto (pc := 403) (tgt := 2146) hx hb dL_law_403 rfl ?_
  exact hgo WX WM _ _ _ _ _ _ _ _ _ hXI hMI hP hD hS hc hs
theorem law_4 (p : Program) (l : Launch) (e : Env) (s : State) (m : MethodId) (below : List Frame) (meth : Method) (c : Code) (b L : Nat) (xs : Nat → Int32) (D : va_G) (ci : Nat → ClassId) (sa : Nat → Nat) {a_x a_m i : Nat} {ls : Array Slot} (C0 : lL_C p l e s m below meth c b L xs D ci sa) (hi : i + 8 ≤ L) (hl : lv_has ls 4 [(3, .int (nI i)), (2, .ref a_m), (1, .ref a_x), (0, .ref b)]) (hgo : lL_go p l e s m below meth c b L xs D ci sa a_x a_m ls 2146) : lL_go p l e s m below meth c b L xs D ci sa a_x a_m ls 406 := by
  obtain ⟨hx, hb, hml, hown, hts, hX, hbl, hK, hZ, hret, hlocks, hL⟩ := C0
  intro WX WM t n s0 sv kv H locs cells slots hXI hMI hP hD hS hc hs
  have hA : ∀ q : Nat, s.heap.size ≤ q → (fun q : Nat => s.heap.size ≤ q) q := fun _ h => h
  have hbA : ¬ (fun q : Nat => s.heap.size ≤ q) b := Nat.not_le.mpr hbl
  have hn := hXI.n
  have hok := hXI.ok
  refine lv_aload_n (pc := 406) hx hb dL_law_406 rfl (lv_at hl 2 rfl) ?_
  refine lv_aload_n (pc := 407) hx hb dL_law_407 rfl (lv_at hl 3 rfl) ?_
  refine lv_iload_n (pc := 408) hx hb dL_law_408 rfl (lv_at hl 0 rfl) ?_
  refine lv_iconst (pc := 409) (v := nI 1) hx hb dL_law_409 (by decide) ?_
  refine lv_iadd (pc := 410) hx hb dL_law_410 ?_
  refine va_sld (pc := 411) hx hb hX hbl hbA hS (l_in hi (show 1 < 8 by decide) hL) dL_law_411 ?_
  refine lv_aload_n (pc := 412) hx hb dL_law_412 rfl (lv_at hl 3 rfl) ?_
  refine lv_iload_n (pc := 413) hx hb dL_law_413 rfl (lv_at hl 0 rfl) ?_
  refine lv_iconst (pc := 414) (v := nI 2) hx hb dL_law_414 (by decide) ?_
  refine lv_iadd (pc := 415) hx hb dL_law_415 ?_
  refine va_sld (pc := 416) hx hb hX hbl hbA hS (l_in hi (show 2 < 8 by decide) hL) dL_law_416 ?_
  refine lv_aload_n (pc := 417) hx hb dL_law_417 rfl (lv_at hl 3 rfl) ?_
  refine lv_iload_n (pc := 418) hx hb dL_law_418 rfl (lv_at hl 0 rfl) ?_
  refine lv_iconst (pc := 419) (v := nI 3) hx hb dL_law_419 (by decide) ?_
  refine lv_iadd (pc := 420) hx hb dL_law_420 ?_
  refine va_sld (pc := 421) hx hb hX hbl hbA hS (l_in hi (show 3 < 8 by decide) hL) dL_law_421 ?_
  obtain ⟨r, hM1⟩ := l_X_name l D ci (fun q : Nat => s.heap.size ≤ q) sa WM hXI (xs (nI i + nI 1).toNatClampNeg) (xs (nI i + nI 2).toNatClampNeg) (xs (nI i + nI 3).toNatClampNeg)
  obtain ⟨fs, hh⟩ := hXI.hd WM
  refine q_call (pc := 422) (va_runV (As := [.int (xs (nI i + nI 1).toNatClampNeg), .int (xs (nI i + nI 2).toNatClampNeg), .int (xs (nI i + nI 3).toNatClampNeg)]) (rest := []) ⟨hx, hb, hml, hown, hts⟩ hM1 (cwV 3 hts gL_law_X10_name rfl rfl rfl (by decide +kernel) ⟨Nat.le_of_ble_eq_true rfl, Nat.le_of_ble_eq_true rfl⟩) (q_preV (n1 := 0) (is1 := []) hK hA hZ hP hD hS rfl ⟨rfl, rfl, rfl⟩ 0 hh rfl) rfl rfl hl.1 rfl (lv_room (Nat.le_of_ble_eq_true rfl)) dL_law_422 (l_rm hn.2 hc hs (Nat.zero_le _) (Nat.zero_le _))) hS (fun t2 locs _ hB hS => ?_)
  obtain ⟨WX, hXI, hP, hD⟩ := hB
  refine lv_pop (pc := 425) hx hb dL_law_425 rfl ?_
  have hP := l_swP hP
  have hD := l_swD hD
  refine lv_aload_n (pc := 426) hx hb dL_law_426 rfl (lv_at hl 1 rfl) ?_
  refine lv_aload_n (pc := 427) hx hb dL_law_427 rfl (lv_at hl 3 rfl) ?_
  refine lv_iload_n (pc := 428) hx hb dL_law_428 rfl (lv_at hl 0 rfl) ?_
  refine lv_iconst (pc := 429) (v := nI 1) hx hb dL_law_429 (by decide) ?_
  refine lv_iadd (pc := 430) hx hb dL_law_430 ?_
  refine va_sld (pc := 431) hx hb hX hbl hbA hS (l_in hi (show 1 < 8 by decide) hL) dL_law_431 ?_
  refine lv_aload_n (pc := 432) hx hb dL_law_432 rfl (lv_at hl 3 rfl) ?_
  refine lv_iload_n (pc := 433) hx hb dL_law_433 rfl (lv_at hl 0 rfl) ?_
  refine lv_iconst (pc := 434) (v := nI 2) hx hb dL_law_434 (by decide) ?_
  refine lv_iadd (pc := 435) hx hb dL_law_435 ?_
  refine va_sld (pc := 436) hx hb hX hbl hbA hS (l_in hi (show 2 < 8 by decide) hL) dL_law_436 ?_
  refine lv_aload_n (pc := 437) hx hb dL_law_437 rfl (lv_at hl 3 rfl) ?_
  refine lv_iload_n (pc := 438) hx hb dL_law_438 rfl (lv_at hl 0 rfl) ?_
  refine lv_iconst (pc := 439) (v := nI 3) hx hb dL_law_439 (by decide) ?_
  refine lv_iadd (pc := 440) hx hb dL_law_440 ?_
  refine va_sld (pc := 441) hx hb hX hbl hbA hS (l_in hi (show 3 < 8 by decide) hL) dL_law_441 ?_
  obtain ⟨r2, hM2⟩ := l_M_name l D ci (fun q : Nat => s.heap.size ≤ q) sa WX hMI (xs (nI i + nI 1).toNatClampNeg) (xs (nI i + nI 2).toNatClampNeg) (xs (nI i + nI 3).toNatClampNeg)
  obtain ⟨fs, hh⟩ := hMI.hd WX
  refine q_call (pc := 442) (va_runV (As := [.int (xs (nI i + nI 1).toNatClampNeg), .int (xs (nI i + nI 2).toNatClampNeg), .int (xs (nI i + nI 3).toNatClampNeg)]) (rest := []) ⟨hx, hb, hml, hown, hts⟩ hM2 (cwV 3 hts gL_law_X11_name rfl rfl rfl (by decide +kernel) ⟨Nat.le_of_ble_eq_true rfl, Nat.le_of_ble_eq_true rfl⟩) (q_preV (n1 := 0) (is1 := []) hK hA hZ hP hD hS rfl ⟨rfl, rfl, rfl⟩ 0 hh rfl) rfl rfl hl.1 rfl (lv_room (Nat.le_of_ble_eq_true rfl)) dL_law_442 (l_rm hn.2 hc hs (Nat.zero_le _) (Nat.zero_le _))) hS (fun t2 locs _ hB hS => ?_)
  obtain ⟨WM, hMI, hP, hD⟩ := hB
  have hP := l_swP hP
  have hD := l_swD hD
  refine lv_pop (pc := 445) hx hb dL_law_445 rfl ?_
  refine lv_goto (pc := 446) (tgt := 2146) hx hb dL_law_446 rfl ?_
  exact hgo WX WM _ _ _ _ _ _ _ _ _ hXI hMI hP hD hS hc hs
theorem law_5 (p : Program) (l : Launch) (e : Env) (s : State) (m : MethodId) (below : List Frame) (meth : Method) (c : Code) (b L : Nat) (xs : Nat → Int32) (D : va_G) (ci : Nat → ClassId) (sa : Nat → Nat) {a_x a_m i : Nat} {ls : Array Slot} (C0 : lL_C p l e s m below meth c b L xs D ci sa) (hi : i + 8 ≤ L) (hl : lv_has ls 4 [(3, .int (nI i)), (2, .ref a_m), (1, .ref a_x), (0, .ref b)]) (hgo : lL_go p l e s m below meth c b L xs D ci sa a_x a_m ls 2146) : lL_go p l e s m below meth c b L xs D ci sa a_x a_m ls 449 := by
  obtain ⟨hx, hb, hml, hown, hts, hX, hbl, hK, hZ, hret, hlocks, hL⟩ := C0
  intro WX WM t n s0 sv kv H locs cells slots hXI hMI hP hD hS hc hs
  have hA : ∀ q : Nat, s.heap.size ≤ q → (fun q : Nat => s.heap.size ≤ q) q := fun _ h => h
  have hbA : ¬ (fun q : Nat => s.heap.size ≤ q) b := Nat.not_le.mpr hbl
  have hn := hXI.n
  have hok := hXI.ok
  refine lv_aload_n (pc := 449) hx hb dL_law_449 rfl (lv_at hl 2 rfl) ?_
  refine lv_aload_n (pc := 450) hx hb dL_law_450 rfl (lv_at hl 3 rfl) ?_
  refine lv_iload_n (pc := 451) hx hb dL_law_451 rfl (lv_at hl 0 rfl) ?_
  refine lv_iconst (pc := 452) (v := nI 1) hx hb dL_law_452 (by decide) ?_
  refine lv_iadd (pc := 453) hx hb dL_law_453 ?_
  refine va_sld (pc := 454) hx hb hX hbl hbA hS (l_in hi (show 1 < 8 by decide) hL) dL_law_454 ?_
  refine lv_aload_n (pc := 455) hx hb dL_law_455 rfl (lv_at hl 3 rfl) ?_
  refine lv_iload_n (pc := 456) hx hb dL_law_456 rfl (lv_at hl 0 rfl) ?_
  refine lv_iconst (pc := 457) (v := nI 2) hx hb dL_law_457 (by decide) ?_
  refine lv_iadd (pc := 458) hx hb dL_law_458 ?_
  refine va_sld (pc := 459) hx hb hX hbl hbA hS (l_in hi (show 2 < 8 by decide) hL) dL_law_459 ?_
  obtain ⟨r, hM1⟩ := l_X_named l D ci (fun q : Nat => s.heap.size ≤ q) sa WM hXI (xs (nI i + nI 1).toNatClampNeg) (xs (nI i + nI 2).toNatClampNeg)
  obtain ⟨fs, hh⟩ := hXI.hd WM
  refine q_call (pc := 460) (va_runV (As := [.int (xs (nI i + nI 1).toNatClampNeg), .int (xs (nI i + nI 2).toNatClampNeg)]) (rest := []) ⟨hx, hb, hml, hown, hts⟩ hM1 (cwV 2 hts gL_law_X10_named rfl rfl rfl (by decide +kernel) ⟨Nat.le_of_ble_eq_true rfl, Nat.le_of_ble_eq_true rfl⟩) (q_preV (n1 := 0) (is1 := []) hK hA hZ hP hD hS rfl ⟨rfl, rfl, rfl⟩ 0 hh rfl) rfl rfl hl.1 rfl (lv_room (Nat.le_of_ble_eq_true rfl)) dL_law_460 (l_rm hn.2 hc hs (Nat.zero_le _) (Nat.zero_le _))) hS (fun t2 locs _ hB hS => ?_)
  obtain ⟨WX, hXI, hP, hD⟩ := hB
  refine lv_pop (pc := 463) hx hb dL_law_463 rfl ?_
  have hP := l_swP hP
  have hD := l_swD hD
  refine lv_aload_n (pc := 464) hx hb dL_law_464 rfl (lv_at hl 1 rfl) ?_
  refine lv_aload_n (pc := 465) hx hb dL_law_465 rfl (lv_at hl 3 rfl) ?_
  refine lv_iload_n (pc := 466) hx hb dL_law_466 rfl (lv_at hl 0 rfl) ?_
  refine lv_iconst (pc := 467) (v := nI 1) hx hb dL_law_467 (by decide) ?_
  refine lv_iadd (pc := 468) hx hb dL_law_468 ?_
  refine va_sld (pc := 469) hx hb hX hbl hbA hS (l_in hi (show 1 < 8 by decide) hL) dL_law_469 ?_
  refine lv_aload_n (pc := 470) hx hb dL_law_470 rfl (lv_at hl 3 rfl) ?_
  refine lv_iload_n (pc := 471) hx hb dL_law_471 rfl (lv_at hl 0 rfl) ?_
  refine lv_iconst (pc := 472) (v := nI 2) hx hb dL_law_472 (by decide) ?_
  refine lv_iadd (pc := 473) hx hb dL_law_473 ?_
  refine va_sld (pc := 474) hx hb hX hbl hbA hS (l_in hi (show 2 < 8 by decide) hL) dL_law_474 ?_
  obtain ⟨r2, hM2⟩ := l_M_named l D ci (fun q : Nat => s.heap.size ≤ q) sa WX hMI (xs (nI i + nI 1).toNatClampNeg) (xs (nI i + nI 2).toNatClampNeg)
  obtain ⟨fs, hh⟩ := hMI.hd WX
  refine q_call (pc := 475) (va_runV (As := [.int (xs (nI i + nI 1).toNatClampNeg), .int (xs (nI i + nI 2).toNatClampNeg)]) (rest := []) ⟨hx, hb, hml, hown, hts⟩ hM2 (cwV 2 hts gL_law_X11_named rfl rfl rfl (by decide +kernel) ⟨Nat.le_of_ble_eq_true rfl, Nat.le_of_ble_eq_true rfl⟩) (q_preV (n1 := 0) (is1 := []) hK hA hZ hP hD hS rfl ⟨rfl, rfl, rfl⟩ 0 hh rfl) rfl rfl hl.1 rfl (lv_room (Nat.le_of_ble_eq_true rfl)) dL_law_475 (l_rm hn.2 hc hs (Nat.zero_le _) (Nat.zero_le _))) hS (fun t2 locs _ hB hS => ?_)
  obtain ⟨WM, hMI, hP, hD⟩ := hB
  have hP := l_swP hP
  have hD := l_swD hD
  refine lv_pop (pc := 478) hx hb dL_law_478 rfl ?_
  refine lv_goto (pc := 479) (tgt := 2146) hx hb dL_law_479 rfl ?_
  exact hgo WX WM _ _ _ _ _ _ _ _ _ hXI hMI hP hD hS hc hs
theorem law_6 (p : Program) (l : Launch) (e : Env) (s : State) (m : MethodId) (below : List Frame) (meth : Method) (c : Code) (b L : Nat) (xs : Nat → Int32) (D : va_G) (ci : Nat → ClassId) (sa : Nat → Nat) {a_x a_m i : Nat} {ls : Array Slot} (C0 : lL_C p l e s m below meth c b L xs D ci sa) (hi : i + 8 ≤ L) (hl : lv_has ls 4 [(3, .int (nI i)), (2, .ref a_m), (1, .ref a_x), (0, .ref b)]) (hgo : lL_go p l e s m below meth c b L xs D ci sa a_x a_m ls 2146) : lL_go p l e s m below meth c b L xs D ci sa a_x a_m ls 482 := by
  obtain ⟨hx, hb, hml, hown, hts, hX, hbl, hK, hZ, hret, hlocks, hL⟩ := C0
  intro WX WM t n s0 sv kv H locs cells slots hXI hMI hP hD hS hc hs
  have hA : ∀ q : Nat, s.heap.size ≤ q → (fun q : Nat => s.heap.size ≤ q) q := fun _ h => h
  have hbA : ¬ (fun q : Nat => s.heap.size ≤ q) b := Nat.not_le.mpr hbl
  have hn := hXI.n
  have hok := hXI.ok
  refine lv_aload_n (pc := 482) hx hb dL_law_482 rfl (lv_at hl 2 rfl) ?_
  refine lv_aload_n (pc := 483) hx hb dL_law_483 rfl (lv_at hl 3 rfl) ?_
  refine lv_iload_n (pc := 484) hx hb dL_law_484 rfl (lv_at hl 0 rfl) ?_
  refine lv_iconst (pc := 485) (v := nI 1) hx hb dL_law_485 (by decide) ?_
  refine lv_iadd (pc := 486) hx hb dL_law_486 ?_
  refine va_sld (pc := 487) hx hb hX hbl hbA hS (l_in hi (show 1 < 8 by decide) hL) dL_law_487 ?_
  refine lv_aload_n (pc := 488) hx hb dL_law_488 rfl (lv_at hl 3 rfl) ?_
  refine lv_iload_n (pc := 489) hx hb dL_law_489 rfl (lv_at hl 0 rfl) ?_
  refine lv_iconst (pc := 490) (v := nI 2) hx hb dL_law_490 (by decide) ?_
  refine lv_iadd (pc := 491) hx hb dL_law_491 ?_
  refine va_sld (pc := 492) hx hb hX hbl hbA hS (l_in hi (show 2 < 8 by decide) hL) dL_law_492 ?_
  refine lv_aload_n (pc := 493) hx hb dL_law_493 rfl (lv_at hl 3 rfl) ?_
  refine lv_iload_n (pc := 494) hx hb dL_law_494 rfl (lv_at hl 0 rfl) ?_
  refine lv_iconst (pc := 495) (v := nI 3) hx hb dL_law_495 (by decide) ?_
  refine lv_iadd (pc := 496) hx hb dL_law_496 ?_
  refine va_sld (pc := 497) hx hb hX hbl hbA hS (l_in hi (show 3 < 8 by decide) hL) dL_law_497 ?_
  obtain ⟨r, hM1⟩ := l_X_edge l D ci (fun q : Nat => s.heap.size ≤ q) sa WM hXI (xs (nI i + nI 1).toNatClampNeg) (xs (nI i + nI 2).toNatClampNeg) (xs (nI i + nI 3).toNatClampNeg)
  obtain ⟨fs, hh⟩ := hXI.hd WM
  refine q_call (pc := 498) (va_runV (As := [.int (xs (nI i + nI 1).toNatClampNeg), .int (xs (nI i + nI 2).toNatClampNeg), .int (xs (nI i + nI 3).toNatClampNeg)]) (rest := []) ⟨hx, hb, hml, hown, hts⟩ hM1 (cwV 3 hts gL_law_X10_edge rfl rfl rfl (by decide +kernel) ⟨Nat.le_of_ble_eq_true rfl, Nat.le_of_ble_eq_true rfl⟩) (q_preV (n1 := 0) (is1 := []) hK hA hZ hP hD hS rfl ⟨rfl, rfl, rfl⟩ 0 hh rfl) rfl rfl hl.1 rfl (lv_room (Nat.le_of_ble_eq_true rfl)) dL_law_498 (l_rm hn.2 hc hs (Nat.zero_le _) (Nat.zero_le _))) hS (fun t2 locs _ hB hS => ?_)
  obtain ⟨WX, hXI, hP, hD⟩ := hB
  refine lv_pop2_2 (pc := 501) hx hb dL_law_501 rfl ?_
  have hP := l_swP hP
  have hD := l_swD hD
  refine lv_aload_n (pc := 502) hx hb dL_law_502 rfl (lv_at hl 1 rfl) ?_
  refine lv_aload_n (pc := 503) hx hb dL_law_503 rfl (lv_at hl 3 rfl) ?_
  refine lv_iload_n (pc := 504) hx hb dL_law_504 rfl (lv_at hl 0 rfl) ?_
  refine lv_iconst (pc := 505) (v := nI 1) hx hb dL_law_505 (by decide) ?_
  refine lv_iadd (pc := 506) hx hb dL_law_506 ?_
  refine va_sld (pc := 507) hx hb hX hbl hbA hS (l_in hi (show 1 < 8 by decide) hL) dL_law_507 ?_
  refine lv_aload_n (pc := 508) hx hb dL_law_508 rfl (lv_at hl 3 rfl) ?_
  refine lv_iload_n (pc := 509) hx hb dL_law_509 rfl (lv_at hl 0 rfl) ?_
  refine lv_iconst (pc := 510) (v := nI 2) hx hb dL_law_510 (by decide) ?_
  refine lv_iadd (pc := 511) hx hb dL_law_511 ?_
  refine va_sld (pc := 512) hx hb hX hbl hbA hS (l_in hi (show 2 < 8 by decide) hL) dL_law_512 ?_
  refine lv_aload_n (pc := 513) hx hb dL_law_513 rfl (lv_at hl 3 rfl) ?_
  refine lv_iload_n (pc := 514) hx hb dL_law_514 rfl (lv_at hl 0 rfl) ?_
  refine lv_iconst (pc := 515) (v := nI 3) hx hb dL_law_515 (by decide) ?_
  refine lv_iadd (pc := 516) hx hb dL_law_516 ?_
  refine va_sld (pc := 517) hx hb hX hbl hbA hS (l_in hi (show 3 < 8 by decide) hL) dL_law_517 ?_
  obtain ⟨r2, hM2⟩ := l_M_edge l D ci (fun q : Nat => s.heap.size ≤ q) sa WX hMI (xs (nI i + nI 1).toNatClampNeg) (xs (nI i + nI 2).toNatClampNeg) (xs (nI i + nI 3).toNatClampNeg)
  obtain ⟨fs, hh⟩ := hMI.hd WX
  refine q_call (pc := 518) (va_runV (As := [.int (xs (nI i + nI 1).toNatClampNeg), .int (xs (nI i + nI 2).toNatClampNeg), .int (xs (nI i + nI 3).toNatClampNeg)]) (rest := []) ⟨hx, hb, hml, hown, hts⟩ hM2 (cwV 3 hts gL_law_X11_edge rfl rfl rfl (by decide +kernel) ⟨Nat.le_of_ble_eq_true rfl, Nat.le_of_ble_eq_true rfl⟩) (q_preV (n1 := 0) (is1 := []) hK hA hZ hP hD hS rfl ⟨rfl, rfl, rfl⟩ 0 hh rfl) rfl rfl hl.1 rfl (lv_room (Nat.le_of_ble_eq_true rfl)) dL_law_518 (l_rm hn.2 hc hs (Nat.zero_le _) (Nat.zero_le _))) hS (fun t2 locs _ hB hS => ?_)
  obtain ⟨WM, hMI, hP, hD⟩ := hB
  have hP := l_swP hP
  have hD := l_swD hD
  refine lv_pop2_2 (pc := 521) hx hb dL_law_521 rfl ?_
  refine lv_goto (pc := 522) (tgt := 2146) hx hb dL_law_522 rfl ?_
  exact hgo WX WM _ _ _ _ _ _ _ _ _ hXI hMI hP hD hS hc hs
theorem law_7 (p : Program) (l : Launch) (e : Env) (s : State) (m : MethodId) (below : List Frame) (meth : Method) (c : Code) (b L : Nat) (xs : Nat → Int32) (D : va_G) (ci : Nat → ClassId) (sa : Nat → Nat) {a_x a_m i : Nat} {ls : Array Slot} (C0 : lL_C p l e s m below meth c b L xs D ci sa) (hi : i + 8 ≤ L) (hl : lv_has ls 4 [(3, .int (nI i)), (2, .ref a_m), (1, .ref a_x), (0, .ref b)]) (hgo : lL_go p l e s m below meth c b L xs D ci sa a_x a_m ls 2146) : lL_go p l e s m below meth c b L xs D ci sa a_x a_m ls 525 := by
  obtain ⟨hx, hb, hml, hown, hts, hX, hbl, hK, hZ, hret, hlocks, hL⟩ := C0
  intro WX WM t n s0 sv kv H locs cells slots hXI hMI hP hD hS hc hs
  have hA : ∀ q : Nat, s.heap.size ≤ q → (fun q : Nat => s.heap.size ≤ q) q := fun _ h => h
  have hbA : ¬ (fun q : Nat => s.heap.size ≤ q) b := Nat.not_le.mpr hbl
  have hn := hXI.n
  have hok := hXI.ok
  refine lv_aload_n (pc := 525) hx hb dL_law_525 rfl (lv_at hl 2 rfl) ?_
  refine lv_aload_n (pc := 526) hx hb dL_law_526 rfl (lv_at hl 3 rfl) ?_
  refine lv_iload_n (pc := 527) hx hb dL_law_527 rfl (lv_at hl 0 rfl) ?_
  refine lv_iconst (pc := 528) (v := nI 1) hx hb dL_law_528 (by decide) ?_
  refine lv_iadd (pc := 529) hx hb dL_law_529 ?_
  refine va_sld (pc := 530) hx hb hX hbl hbA hS (l_in hi (show 1 < 8 by decide) hL) dL_law_530 ?_
  refine lv_aload_n (pc := 531) hx hb dL_law_531 rfl (lv_at hl 3 rfl) ?_
  refine lv_iload_n (pc := 532) hx hb dL_law_532 rfl (lv_at hl 0 rfl) ?_
  refine lv_iconst (pc := 533) (v := nI 2) hx hb dL_law_533 (by decide) ?_
  refine lv_iadd (pc := 534) hx hb dL_law_534 ?_
  refine va_sld (pc := 535) hx hb hX hbl hbA hS (l_in hi (show 2 < 8 by decide) hL) dL_law_535 ?_
  refine lv_aload_n (pc := 536) hx hb dL_law_536 rfl (lv_at hl 3 rfl) ?_
  refine lv_iload_n (pc := 537) hx hb dL_law_537 rfl (lv_at hl 0 rfl) ?_
  refine lv_iconst (pc := 538) (v := nI 3) hx hb dL_law_538 (by decide) ?_
  refine lv_iadd (pc := 539) hx hb dL_law_539 ?_
  refine va_sld (pc := 540) hx hb hX hbl hbA hS (l_in hi (show 3 < 8 by decide) hL) dL_law_540 ?_
  obtain ⟨r, hM1⟩ := l_X_middle l D ci (fun q : Nat => s.heap.size ≤ q) sa WM hXI (xs (nI i + nI 1).toNatClampNeg) (xs (nI i + nI 2).toNatClampNeg) (xs (nI i + nI 3).toNatClampNeg)
  obtain ⟨fs, hh⟩ := hXI.hd WM
  refine q_call (pc := 541) (va_runV (As := [.int (xs (nI i + nI 1).toNatClampNeg), .int (xs (nI i + nI 2).toNatClampNeg), .int (xs (nI i + nI 3).toNatClampNeg)]) (rest := []) ⟨hx, hb, hml, hown, hts⟩ hM1 (cwV 3 hts gL_law_X10_middle rfl rfl rfl (by decide +kernel) ⟨Nat.le_of_ble_eq_true rfl, Nat.le_of_ble_eq_true rfl⟩) (q_preV (n1 := 0) (is1 := []) hK hA hZ hP hD hS rfl ⟨rfl, rfl, rfl⟩ 0 hh rfl) rfl rfl hl.1 rfl (lv_room (Nat.le_of_ble_eq_true rfl)) dL_law_541 (l_rm hn.2 hc hs (Nat.zero_le _) (Nat.zero_le _))) hS (fun t2 locs _ hB hS => ?_)
  obtain ⟨WX, hXI, hP, hD⟩ := hB
  refine lv_pop (pc := 544) hx hb dL_law_544 rfl ?_
  have hP := l_swP hP
  have hD := l_swD hD
  refine lv_aload_n (pc := 545) hx hb dL_law_545 rfl (lv_at hl 1 rfl) ?_
  refine lv_aload_n (pc := 546) hx hb dL_law_546 rfl (lv_at hl 3 rfl) ?_
  refine lv_iload_n (pc := 547) hx hb dL_law_547 rfl (lv_at hl 0 rfl) ?_
  refine lv_iconst (pc := 548) (v := nI 1) hx hb dL_law_548 (by decide) ?_
  refine lv_iadd (pc := 549) hx hb dL_law_549 ?_
  refine va_sld (pc := 550) hx hb hX hbl hbA hS (l_in hi (show 1 < 8 by decide) hL) dL_law_550 ?_
  refine lv_aload_n (pc := 551) hx hb dL_law_551 rfl (lv_at hl 3 rfl) ?_
  refine lv_iload_n (pc := 552) hx hb dL_law_552 rfl (lv_at hl 0 rfl) ?_
  refine lv_iconst (pc := 553) (v := nI 2) hx hb dL_law_553 (by decide) ?_
  refine lv_iadd (pc := 554) hx hb dL_law_554 ?_
  refine va_sld (pc := 555) hx hb hX hbl hbA hS (l_in hi (show 2 < 8 by decide) hL) dL_law_555 ?_
  refine lv_aload_n (pc := 556) hx hb dL_law_556 rfl (lv_at hl 3 rfl) ?_
  refine lv_iload_n (pc := 557) hx hb dL_law_557 rfl (lv_at hl 0 rfl) ?_
  refine lv_iconst (pc := 558) (v := nI 3) hx hb dL_law_558 (by decide) ?_
  refine lv_iadd (pc := 559) hx hb dL_law_559 ?_
  refine va_sld (pc := 560) hx hb hX hbl hbA hS (l_in hi (show 3 < 8 by decide) hL) dL_law_560 ?_
  obtain ⟨r2, hM2⟩ := l_M_middle l D ci (fun q : Nat => s.heap.size ≤ q) sa WX hMI (xs (nI i + nI 1).toNatClampNeg) (xs (nI i + nI 2).toNatClampNeg) (xs (nI i + nI 3).toNatClampNeg)
  obtain ⟨fs, hh⟩ := hMI.hd WX
  refine q_call (pc := 561) (va_runV (As := [.int (xs (nI i + nI 1).toNatClampNeg), .int (xs (nI i + nI 2).toNatClampNeg), .int (xs (nI i + nI 3).toNatClampNeg)]) (rest := []) ⟨hx, hb, hml, hown, hts⟩ hM2 (cwV 3 hts gL_law_X11_middle rfl rfl rfl (by decide +kernel) ⟨Nat.le_of_ble_eq_true rfl, Nat.le_of_ble_eq_true rfl⟩) (q_preV (n1 := 0) (is1 := []) hK hA hZ hP hD hS rfl ⟨rfl, rfl, rfl⟩ 0 hh rfl) rfl rfl hl.1 rfl (lv_room (Nat.le_of_ble_eq_true rfl)) dL_law_561 (l_rm hn.2 hc hs (Nat.zero_le _) (Nat.zero_le _))) hS (fun t2 locs _ hB hS => ?_)
  obtain ⟨WM, hMI, hP, hD⟩ := hB
  have hP := l_swP hP
  have hD := l_swD hD
  refine lv_pop (pc := 564) hx hb dL_law_564 rfl ?_
  refine lv_goto (pc := 565) (tgt := 2146) hx hb dL_law_565 rfl ?_
  exact hgo WX WM _ _ _ _ _ _ _ _ _ hXI hMI hP hD hS hc hs
theorem law_8 (p : Program) (l : Launch) (e : Env) (s : State) (m : MethodId) (below : List Frame) (meth : Method) (c : Code) (b L : Nat) (xs : Nat → Int32) (D : va_G) (ci : Nat → ClassId) (sa : Nat → Nat) {a_x a_m i : Nat} {ls : Array Slot} (C0 : lL_C p l e s m below meth c b L xs D ci sa) (hi : i + 8 ≤ L) (hl : lv_has ls 4 [(3, .int (nI i)), (2, .ref a_m), (1, .ref a_x), (0, .ref b)]) (hgo : lL_go p l e s m below meth c b L xs D ci sa a_x a_m ls 2146) : lL_go p l e s m below meth c b L xs D ci sa a_x a_m ls 568 := by
  obtain ⟨hx, hb, hml, hown, hts, hX, hbl, hK, hZ, hret, hlocks, hL⟩ := C0
  intro WX WM t n s0 sv kv H locs cells slots hXI hMI hP hD hS hc hs
  have hA : ∀ q : Nat, s.heap.size ≤ q → (fun q : Nat => s.heap.size ≤ q) q := fun _ h => h
  have hbA : ¬ (fun q : Nat => s.heap.size ≤ q) b := Nat.not_le.mpr hbl
  have hn := hXI.n
  have hok := hXI.ok
  refine lv_aload_n (pc := 568) hx hb dL_law_568 rfl (lv_at hl 2 rfl) ?_
  refine lv_aload_n (pc := 569) hx hb dL_law_569 rfl (lv_at hl 3 rfl) ?_
  refine lv_iload_n (pc := 570) hx hb dL_law_570 rfl (lv_at hl 0 rfl) ?_
  refine lv_iconst (pc := 571) (v := nI 1) hx hb dL_law_571 (by decide) ?_
  refine lv_iadd (pc := 572) hx hb dL_law_572 ?_
  refine va_sld (pc := 573) hx hb hX hbl hbA hS (l_in hi (show 1 < 8 by decide) hL) dL_law_573 ?_
  refine lv_aload_n (pc := 574) hx hb dL_law_574 rfl (lv_at hl 3 rfl) ?_
  refine lv_iload_n (pc := 575) hx hb dL_law_575 rfl (lv_at hl 0 rfl) ?_
  refine lv_iconst (pc := 576) (v := nI 2) hx hb dL_law_576 (by decide) ?_
  refine lv_iadd (pc := 577) hx hb dL_law_577 ?_
  refine va_sld (pc := 578) hx hb hX hbl hbA hS (l_in hi (show 2 < 8 by decide) hL) dL_law_578 ?_
  refine lv_aload_n (pc := 579) hx hb dL_law_579 rfl (lv_at hl 3 rfl) ?_
  refine lv_iload_n (pc := 580) hx hb dL_law_580 rfl (lv_at hl 0 rfl) ?_
  refine lv_iconst (pc := 581) (v := nI 3) hx hb dL_law_581 (by decide) ?_
  refine lv_iadd (pc := 582) hx hb dL_law_582 ?_
  refine va_sld (pc := 583) hx hb hX hbl hbA hS (l_in hi (show 3 < 8 by decide) hL) dL_law_583 ?_
  obtain ⟨r, hM1⟩ := l_X_at l D ci (fun q : Nat => s.heap.size ≤ q) sa WM hXI (xs (nI i + nI 1).toNatClampNeg) (xs (nI i + nI 2).toNatClampNeg) (xs (nI i + nI 3).toNatClampNeg)
  obtain ⟨fs, hh⟩ := hXI.hd WM
  refine q_call (pc := 584) (va_runV (As := [.int (xs (nI i + nI 1).toNatClampNeg), .int (xs (nI i + nI 2).toNatClampNeg), .int (xs (nI i + nI 3).toNatClampNeg)]) (rest := []) ⟨hx, hb, hml, hown, hts⟩ hM1 (cwV 3 hts gL_law_X10_at rfl rfl rfl (by decide +kernel) ⟨Nat.le_of_ble_eq_true rfl, Nat.le_of_ble_eq_true rfl⟩) (q_preV (n1 := 0) (is1 := []) hK hA hZ hP hD hS rfl ⟨rfl, rfl, rfl⟩ 0 hh rfl) rfl rfl hl.1 rfl (lv_room (Nat.le_of_ble_eq_true rfl)) dL_law_584 (l_rm hn.2 hc hs (Nat.zero_le _) (Nat.zero_le _))) hS (fun t2 locs _ hB hS => ?_)
  obtain ⟨WX, hXI, hP, hD⟩ := hB
  refine lv_pop (pc := 587) hx hb dL_law_587 rfl ?_
  have hP := l_swP hP
  have hD := l_swD hD
  refine lv_aload_n (pc := 588) hx hb dL_law_588 rfl (lv_at hl 1 rfl) ?_
  refine lv_aload_n (pc := 589) hx hb dL_law_589 rfl (lv_at hl 3 rfl) ?_
  refine lv_iload_n (pc := 590) hx hb dL_law_590 rfl (lv_at hl 0 rfl) ?_
  refine lv_iconst (pc := 591) (v := nI 1) hx hb dL_law_591 (by decide) ?_
  refine lv_iadd (pc := 592) hx hb dL_law_592 ?_
  refine va_sld (pc := 593) hx hb hX hbl hbA hS (l_in hi (show 1 < 8 by decide) hL) dL_law_593 ?_
  refine lv_aload_n (pc := 594) hx hb dL_law_594 rfl (lv_at hl 3 rfl) ?_
  refine lv_iload_n (pc := 595) hx hb dL_law_595 rfl (lv_at hl 0 rfl) ?_
  refine lv_iconst (pc := 596) (v := nI 2) hx hb dL_law_596 (by decide) ?_
  refine lv_iadd (pc := 597) hx hb dL_law_597 ?_
  refine va_sld (pc := 598) hx hb hX hbl hbA hS (l_in hi (show 2 < 8 by decide) hL) dL_law_598 ?_
  refine lv_aload_n (pc := 599) hx hb dL_law_599 rfl (lv_at hl 3 rfl) ?_
  refine lv_iload_n (pc := 600) hx hb dL_law_600 rfl (lv_at hl 0 rfl) ?_
  refine lv_iconst (pc := 601) (v := nI 3) hx hb dL_law_601 (by decide) ?_
  refine lv_iadd (pc := 602) hx hb dL_law_602 ?_
  refine va_sld (pc := 603) hx hb hX hbl hbA hS (l_in hi (show 3 < 8 by decide) hL) dL_law_603 ?_
  obtain ⟨r2, hM2⟩ := l_M_at l D ci (fun q : Nat => s.heap.size ≤ q) sa WX hMI (xs (nI i + nI 1).toNatClampNeg) (xs (nI i + nI 2).toNatClampNeg) (xs (nI i + nI 3).toNatClampNeg)
  obtain ⟨fs, hh⟩ := hMI.hd WX
  refine q_call (pc := 604) (va_runV (As := [.int (xs (nI i + nI 1).toNatClampNeg), .int (xs (nI i + nI 2).toNatClampNeg), .int (xs (nI i + nI 3).toNatClampNeg)]) (rest := []) ⟨hx, hb, hml, hown, hts⟩ hM2 (cwV 3 hts gL_law_X11_at rfl rfl rfl (by decide +kernel) ⟨Nat.le_of_ble_eq_true rfl, Nat.le_of_ble_eq_true rfl⟩) (q_preV (n1 := 0) (is1 := []) hK hA hZ hP hD hS rfl ⟨rfl, rfl, rfl⟩ 0 hh rfl) rfl rfl hl.1 rfl (lv_room (Nat.le_of_ble_eq_true rfl)) dL_law_604 (l_rm hn.2 hc hs (Nat.zero_le _) (Nat.zero_le _))) hS (fun t2 locs _ hB hS => ?_)
  obtain ⟨WM, hMI, hP, hD⟩ := hB
  have hP := l_swP hP
  have hD := l_swD hD
  refine lv_pop (pc := 607) hx hb dL_law_607 rfl ?_
  refine lv_goto (pc := 608) (tgt := 2146) hx hb dL_law_608 rfl ?_
  exact hgo WX WM _ _ _ _ _ _ _ _ _ hXI hMI hP hD hS hc hs
theorem law_9 (p : Program) (l : Launch) (e : Env) (s : State) (m : MethodId) (below : List Frame) (meth : Method) (c : Code) (b L : Nat) (xs : Nat → Int32) (D : va_G) (ci : Nat → ClassId) (sa : Nat → Nat) {a_x a_m i : Nat} {ls : Array Slot} (C0 : lL_C p l e s m below meth c b L xs D ci sa) (hi : i + 8 ≤ L) (hl : lv_has ls 4 [(3, .int (nI i)), (2, .ref a_m), (1, .ref a_x), (0, .ref b)]) (hgo : lL_go p l e s m below meth c b L xs D ci sa a_x a_m ls 2146) : lL_go p l e s m below meth c b L xs D ci sa a_x a_m ls 611 := by
  obtain ⟨hx, hb, hml, hown, hts, hX, hbl, hK, hZ, hret, hlocks, hL⟩ := C0
  intro WX WM t n s0 sv kv H locs cells slots hXI hMI hP hD hS hc hs
  have hA : ∀ q : Nat, s.heap.size ≤ q → (fun q : Nat => s.heap.size ≤ q) q := fun _ h => h
  have hbA : ¬ (fun q : Nat => s.heap.size ≤ q) b := Nat.not_le.mpr hbl
  have hn := hXI.n
  have hok := hXI.ok
  refine lv_aload_n (pc := 611) hx hb dL_law_611 rfl (lv_at hl 2 rfl) ?_
  refine lv_aload_n (pc := 612) hx hb dL_law_612 rfl (lv_at hl 3 rfl) ?_
  refine lv_iload_n (pc := 613) hx hb dL_law_613 rfl (lv_at hl 0 rfl) ?_
  refine lv_iconst (pc := 614) (v := nI 1) hx hb dL_law_614 (by decide) ?_
  refine lv_iadd (pc := 615) hx hb dL_law_615 ?_
  refine va_sld (pc := 616) hx hb hX hbl hbA hS (l_in hi (show 1 < 8 by decide) hL) dL_law_616 ?_
  refine lv_aload_n (pc := 617) hx hb dL_law_617 rfl (lv_at hl 3 rfl) ?_
  refine lv_iload_n (pc := 618) hx hb dL_law_618 rfl (lv_at hl 0 rfl) ?_
  refine lv_iconst (pc := 619) (v := nI 2) hx hb dL_law_619 (by decide) ?_
  refine lv_iadd (pc := 620) hx hb dL_law_620 ?_
  refine va_sld (pc := 621) hx hb hX hbl hbA hS (l_in hi (show 2 < 8 by decide) hL) dL_law_621 ?_
  refine lv_aload_n (pc := 622) hx hb dL_law_622 rfl (lv_at hl 3 rfl) ?_
  refine lv_iload_n (pc := 623) hx hb dL_law_623 rfl (lv_at hl 0 rfl) ?_
  refine lv_iconst (pc := 624) (v := nI 3) hx hb dL_law_624 (by decide) ?_
  refine lv_iadd (pc := 625) hx hb dL_law_625 ?_
  refine va_sld (pc := 626) hx hb hX hbl hbA hS (l_in hi (show 3 < 8 by decide) hL) dL_law_626 ?_
  obtain ⟨r, hM1⟩ := l_X_keyAt l D ci (fun q : Nat => s.heap.size ≤ q) sa WM hXI (xs (nI i + nI 1).toNatClampNeg) (xs (nI i + nI 2).toNatClampNeg) (xs (nI i + nI 3).toNatClampNeg)
  obtain ⟨fs, hh⟩ := hXI.hd WM
  refine q_call (pc := 627) (va_runV (As := [.int (xs (nI i + nI 1).toNatClampNeg), .int (xs (nI i + nI 2).toNatClampNeg), .int (xs (nI i + nI 3).toNatClampNeg)]) (rest := []) ⟨hx, hb, hml, hown, hts⟩ hM1 (cwV 3 hts gL_law_X10_keyAt rfl rfl rfl (by decide +kernel) ⟨Nat.le_of_ble_eq_true rfl, Nat.le_of_ble_eq_true rfl⟩) (q_preV (n1 := 0) (is1 := []) hK hA hZ hP hD hS rfl ⟨rfl, rfl, rfl⟩ 0 hh rfl) rfl rfl hl.1 rfl (lv_room (Nat.le_of_ble_eq_true rfl)) dL_law_627 (l_rm hn.2 hc hs (Nat.zero_le _) (Nat.zero_le _))) hS (fun t2 locs _ hB hS => ?_)
  obtain ⟨WX, hXI, hP, hD⟩ := hB
  refine lv_pop (pc := 630) hx hb dL_law_630 rfl ?_
  have hP := l_swP hP
  have hD := l_swD hD
  refine lv_aload_n (pc := 631) hx hb dL_law_631 rfl (lv_at hl 1 rfl) ?_
  refine lv_aload_n (pc := 632) hx hb dL_law_632 rfl (lv_at hl 3 rfl) ?_
  refine lv_iload_n (pc := 633) hx hb dL_law_633 rfl (lv_at hl 0 rfl) ?_
  refine lv_iconst (pc := 634) (v := nI 1) hx hb dL_law_634 (by decide) ?_
  refine lv_iadd (pc := 635) hx hb dL_law_635 ?_
  refine va_sld (pc := 636) hx hb hX hbl hbA hS (l_in hi (show 1 < 8 by decide) hL) dL_law_636 ?_
  refine lv_aload_n (pc := 637) hx hb dL_law_637 rfl (lv_at hl 3 rfl) ?_
  refine lv_iload_n (pc := 638) hx hb dL_law_638 rfl (lv_at hl 0 rfl) ?_
  refine lv_iconst (pc := 639) (v := nI 2) hx hb dL_law_639 (by decide) ?_
  refine lv_iadd (pc := 640) hx hb dL_law_640 ?_
  refine va_sld (pc := 641) hx hb hX hbl hbA hS (l_in hi (show 2 < 8 by decide) hL) dL_law_641 ?_
  refine lv_aload_n (pc := 642) hx hb dL_law_642 rfl (lv_at hl 3 rfl) ?_
  refine lv_iload_n (pc := 643) hx hb dL_law_643 rfl (lv_at hl 0 rfl) ?_
  refine lv_iconst (pc := 644) (v := nI 3) hx hb dL_law_644 (by decide) ?_
  refine lv_iadd (pc := 645) hx hb dL_law_645 ?_
  refine va_sld (pc := 646) hx hb hX hbl hbA hS (l_in hi (show 3 < 8 by decide) hL) dL_law_646 ?_
  obtain ⟨r2, hM2⟩ := l_M_keyAt l D ci (fun q : Nat => s.heap.size ≤ q) sa WX hMI (xs (nI i + nI 1).toNatClampNeg) (xs (nI i + nI 2).toNatClampNeg) (xs (nI i + nI 3).toNatClampNeg)
  obtain ⟨fs, hh⟩ := hMI.hd WX
  refine q_call (pc := 647) (va_runV (As := [.int (xs (nI i + nI 1).toNatClampNeg), .int (xs (nI i + nI 2).toNatClampNeg), .int (xs (nI i + nI 3).toNatClampNeg)]) (rest := []) ⟨hx, hb, hml, hown, hts⟩ hM2 (cwV 3 hts gL_law_X11_keyAt rfl rfl rfl (by decide +kernel) ⟨Nat.le_of_ble_eq_true rfl, Nat.le_of_ble_eq_true rfl⟩) (q_preV (n1 := 0) (is1 := []) hK hA hZ hP hD hS rfl ⟨rfl, rfl, rfl⟩ 0 hh rfl) rfl rfl hl.1 rfl (lv_room (Nat.le_of_ble_eq_true rfl)) dL_law_647 (l_rm hn.2 hc hs (Nat.zero_le _) (Nat.zero_le _))) hS (fun t2 locs _ hB hS => ?_)
  obtain ⟨WM, hMI, hP, hD⟩ := hB
  have hP := l_swP hP
  have hD := l_swD hD
  refine lv_pop (pc := 650) hx hb dL_law_650 rfl ?_
  refine lv_goto (pc := 651) (tgt := 2146) hx hb dL_law_651 rfl ?_
  exact hgo WX WM _ _ _ _ _ _ _ _ _ hXI hMI hP hD hS hc hs
theorem law_10 (p : Program) (l : Launch) (e : Env) (s : State) (m : MethodId) (below : List Frame) (meth : Method) (c : Code) (b L : Nat) (xs : Nat → Int32) (D : va_G) (ci : Nat → ClassId) (sa : Nat → Nat) {a_x a_m i : Nat} {ls : Array Slot} (C0 : lL_C p l e s m below meth c b L xs D ci sa) (hi : i + 8 ≤ L) (hl : lv_has ls 4 [(3, .int (nI i)), (2, .ref a_m), (1, .ref a_x), (0, .ref b)]) (hgo : lL_go p l e s m below meth c b L xs D ci sa a_x a_m ls 2146) : lL_go p l e s m below meth c b L xs D ci sa a_x a_m ls 654 := by
  obtain ⟨hx, hb, hml, hown, hts, hX, hbl, hK, hZ, hret, hlocks, hL⟩ := C0
  intro WX WM t n s0 sv kv H locs cells slots hXI hMI hP hD hS hc hs
  have hA : ∀ q : Nat, s.heap.size ≤ q → (fun q : Nat => s.heap.size ≤ q) q := fun _ h => h
  have hbA : ¬ (fun q : Nat => s.heap.size ≤ q) b := Nat.not_le.mpr hbl
  have hn := hXI.n
  have hok := hXI.ok
  refine lv_aload_n (pc := 654) hx hb dL_law_654 rfl (lv_at hl 2 rfl) ?_
  refine lv_aload_n (pc := 655) hx hb dL_law_655 rfl (lv_at hl 3 rfl) ?_
  refine lv_iload_n (pc := 656) hx hb dL_law_656 rfl (lv_at hl 0 rfl) ?_
  refine lv_iconst (pc := 657) (v := nI 1) hx hb dL_law_657 (by decide) ?_
  refine lv_iadd (pc := 658) hx hb dL_law_658 ?_
  refine va_sld (pc := 659) hx hb hX hbl hbA hS (l_in hi (show 1 < 8 by decide) hL) dL_law_659 ?_
  refine lv_aload_n (pc := 660) hx hb dL_law_660 rfl (lv_at hl 3 rfl) ?_
  refine lv_iload_n (pc := 661) hx hb dL_law_661 rfl (lv_at hl 0 rfl) ?_
  refine lv_iconst (pc := 662) (v := nI 2) hx hb dL_law_662 (by decide) ?_
  refine lv_iadd (pc := 663) hx hb dL_law_663 ?_
  refine va_sld (pc := 664) hx hb hX hbl hbA hS (l_in hi (show 2 < 8 by decide) hL) dL_law_664 ?_
  refine lv_aload_n (pc := 665) hx hb dL_law_665 rfl (lv_at hl 3 rfl) ?_
  refine lv_iload_n (pc := 666) hx hb dL_law_666 rfl (lv_at hl 0 rfl) ?_
  refine lv_iconst (pc := 667) (v := nI 3) hx hb dL_law_667 (by decide) ?_
  refine lv_iadd (pc := 668) hx hb dL_law_668 ?_
  refine va_sld (pc := 669) hx hb hX hbl hbA hS (l_in hi (show 3 < 8 by decide) hL) dL_law_669 ?_
  obtain ⟨r, hM1⟩ := l_X_parent l D ci (fun q : Nat => s.heap.size ≤ q) sa WM hXI (xs (nI i + nI 1).toNatClampNeg) (xs (nI i + nI 2).toNatClampNeg) (xs (nI i + nI 3).toNatClampNeg)
  obtain ⟨fs, hh⟩ := hXI.hd WM
  refine q_call (pc := 670) (va_runV (As := [.int (xs (nI i + nI 1).toNatClampNeg), .int (xs (nI i + nI 2).toNatClampNeg), .int (xs (nI i + nI 3).toNatClampNeg)]) (rest := []) ⟨hx, hb, hml, hown, hts⟩ hM1 (cwV 3 hts gL_law_X10_parent rfl rfl rfl (by decide +kernel) ⟨Nat.le_of_ble_eq_true rfl, Nat.le_of_ble_eq_true rfl⟩) (q_preV (n1 := 0) (is1 := []) hK hA hZ hP hD hS rfl ⟨rfl, rfl, rfl⟩ 0 hh rfl) rfl rfl hl.1 rfl (lv_room (Nat.le_of_ble_eq_true rfl)) dL_law_670 (l_rm hn.2 hc hs (Nat.zero_le _) (Nat.zero_le _))) hS (fun t2 locs _ hB hS => ?_)
  obtain ⟨WX, hXI, hP, hD⟩ := hB
  refine lv_pop (pc := 673) hx hb dL_law_673 rfl ?_
  have hP := l_swP hP
  have hD := l_swD hD
  refine lv_aload_n (pc := 674) hx hb dL_law_674 rfl (lv_at hl 1 rfl) ?_
  refine lv_aload_n (pc := 675) hx hb dL_law_675 rfl (lv_at hl 3 rfl) ?_
  refine lv_iload_n (pc := 676) hx hb dL_law_676 rfl (lv_at hl 0 rfl) ?_
  refine lv_iconst (pc := 677) (v := nI 1) hx hb dL_law_677 (by decide) ?_
  refine lv_iadd (pc := 678) hx hb dL_law_678 ?_
  refine va_sld (pc := 679) hx hb hX hbl hbA hS (l_in hi (show 1 < 8 by decide) hL) dL_law_679 ?_
  refine lv_aload_n (pc := 680) hx hb dL_law_680 rfl (lv_at hl 3 rfl) ?_
  refine lv_iload_n (pc := 681) hx hb dL_law_681 rfl (lv_at hl 0 rfl) ?_
  refine lv_iconst (pc := 682) (v := nI 2) hx hb dL_law_682 (by decide) ?_
  refine lv_iadd (pc := 683) hx hb dL_law_683 ?_
  refine va_sld (pc := 684) hx hb hX hbl hbA hS (l_in hi (show 2 < 8 by decide) hL) dL_law_684 ?_
  refine lv_aload_n (pc := 685) hx hb dL_law_685 rfl (lv_at hl 3 rfl) ?_
  refine lv_iload_n (pc := 686) hx hb dL_law_686 rfl (lv_at hl 0 rfl) ?_
  refine lv_iconst (pc := 687) (v := nI 3) hx hb dL_law_687 (by decide) ?_
  refine lv_iadd (pc := 688) hx hb dL_law_688 ?_
  refine va_sld (pc := 689) hx hb hX hbl hbA hS (l_in hi (show 3 < 8 by decide) hL) dL_law_689 ?_
  obtain ⟨r2, hM2⟩ := l_M_parent l D ci (fun q : Nat => s.heap.size ≤ q) sa WX hMI (xs (nI i + nI 1).toNatClampNeg) (xs (nI i + nI 2).toNatClampNeg) (xs (nI i + nI 3).toNatClampNeg)
  obtain ⟨fs, hh⟩ := hMI.hd WX
  refine q_call (pc := 690) (va_runV (As := [.int (xs (nI i + nI 1).toNatClampNeg), .int (xs (nI i + nI 2).toNatClampNeg), .int (xs (nI i + nI 3).toNatClampNeg)]) (rest := []) ⟨hx, hb, hml, hown, hts⟩ hM2 (cwV 3 hts gL_law_X11_parent rfl rfl rfl (by decide +kernel) ⟨Nat.le_of_ble_eq_true rfl, Nat.le_of_ble_eq_true rfl⟩) (q_preV (n1 := 0) (is1 := []) hK hA hZ hP hD hS rfl ⟨rfl, rfl, rfl⟩ 0 hh rfl) rfl rfl hl.1 rfl (lv_room (Nat.le_of_ble_eq_true rfl)) dL_law_690 (l_rm hn.2 hc hs (Nat.zero_le _) (Nat.zero_le _))) hS (fun t2 locs _ hB hS => ?_)
  obtain ⟨WM, hMI, hP, hD⟩ := hB
  have hP := l_swP hP
  have hD := l_swD hD
  refine lv_pop (pc := 693) hx hb dL_law_693 rfl ?_
  refine lv_goto (pc := 694) (tgt := 2146) hx hb dL_law_694 rfl ?_
  exact hgo WX WM _ _ _ _ _ _ _ _ _ hXI hMI hP hD hS hc hs
end
section
/-! the law's cases -/
theorem law_11 (p : Program) (l : Launch) (e : Env) (s : State) (m : MethodId) (below : List Frame) (meth : Method) (c : Code) (b L : Nat) (xs : Nat → Int32) (D : va_G) (ci : Nat → ClassId) (sa : Nat → Nat) {a_x a_m i : Nat} {ls : Array Slot} (C0 : lL_C p l e s m below meth c b L xs D ci sa) (hi : i + 8 ≤ L) (hl : lv_has ls 4 [(3, .int (nI i)), (2, .ref a_m), (1, .ref a_x), (0, .ref b)]) (hgo : lL_go p l e s m below meth c b L xs D ci sa a_x a_m ls 2146) : lL_go p l e s m below meth c b L xs D ci sa a_x a_m ls 697 := by
  obtain ⟨hx, hb, hml, hown, hts, hX, hbl, hK, hZ, hret, hlocks, hL⟩ := C0
  intro WX WM t n s0 sv kv H locs cells slots hXI hMI hP hD hS hc hs
  have hA : ∀ q : Nat, s.heap.size ≤ q → (fun q : Nat => s.heap.size ≤ q) q := fun _ h => h
  have hbA : ¬ (fun q : Nat => s.heap.size ≤ q) b := Nat.not_le.mpr hbl
  have hn := hXI.n
  have hok := hXI.ok
  refine lv_aload_n (pc := 697) hx hb dL_law_697 rfl (lv_at hl 2 rfl) ?_
  refine lv_aload_n (pc := 698) hx hb dL_law_698 rfl (lv_at hl 3 rfl) ?_
  refine lv_iload_n (pc := 699) hx hb dL_law_699 rfl (lv_at hl 0 rfl) ?_
  refine lv_iconst (pc := 700) (v := nI 1) hx hb dL_law_700 (by decide) ?_
  refine lv_iadd (pc := 701) hx hb dL_law_701 ?_
  refine va_sld (pc := 702) hx hb hX hbl hbA hS (l_in hi (show 1 < 8 by decide) hL) dL_law_702 ?_
  refine lv_aload_n (pc := 703) hx hb dL_law_703 rfl (lv_at hl 3 rfl) ?_
  refine lv_iload_n (pc := 704) hx hb dL_law_704 rfl (lv_at hl 0 rfl) ?_
  refine lv_iconst (pc := 705) (v := nI 2) hx hb dL_law_705 (by decide) ?_
  refine lv_iadd (pc := 706) hx hb dL_law_706 ?_
  refine va_sld (pc := 707) hx hb hX hbl hbA hS (l_in hi (show 2 < 8 by decide) hL) dL_law_707 ?_
  refine lv_aload_n (pc := 708) hx hb dL_law_708 rfl (lv_at hl 3 rfl) ?_
  refine lv_iload_n (pc := 709) hx hb dL_law_709 rfl (lv_at hl 0 rfl) ?_
  refine lv_iconst (pc := 710) (v := nI 3) hx hb dL_law_710 (by decide) ?_
  refine lv_iadd (pc := 711) hx hb dL_law_711 ?_
  refine va_sld (pc := 712) hx hb hX hbl hbA hS (l_in hi (show 3 < 8 by decide) hL) dL_law_712 ?_
  refine lv_aload_n (pc := 713) hx hb dL_law_713 rfl (lv_at hl 3 rfl) ?_
  refine lv_iload_n (pc := 714) hx hb dL_law_714 rfl (lv_at hl 0 rfl) ?_
  refine lv_iconst (pc := 715) (v := nI 4) hx hb dL_law_715 (by decide) ?_
  refine lv_iadd (pc := 716) hx hb dL_law_716 ?_
  refine va_sld (pc := 717) hx hb hX hbl hbA hS (l_in hi (show 4 < 8 by decide) hL) dL_law_717 ?_
  obtain ⟨r, hM1⟩ := l_X_child l D ci (fun q : Nat => s.heap.size ≤ q) sa WM hXI (xs (nI i + nI 1).toNatClampNeg) (xs (nI i + nI 2).toNatClampNeg) (xs (nI i + nI 3).toNatClampNeg) (xs (nI i + nI 4).toNatClampNeg)
  obtain ⟨fs, hh⟩ := hXI.hd WM
  refine q_call (pc := 718) (va_runV (As := [.int (xs (nI i + nI 1).toNatClampNeg), .int (xs (nI i + nI 2).toNatClampNeg), .int (xs (nI i + nI 3).toNatClampNeg), .int (xs (nI i + nI 4).toNatClampNeg)]) (rest := []) ⟨hx, hb, hml, hown, hts⟩ hM1 (cwV 4 hts gL_law_X10_child rfl rfl rfl (by decide +kernel) ⟨Nat.le_of_ble_eq_true rfl, Nat.le_of_ble_eq_true rfl⟩) (q_preV (n1 := 0) (is1 := []) hK hA hZ hP hD hS rfl ⟨rfl, rfl, rfl⟩ 0 hh rfl) rfl rfl hl.1 rfl (lv_room (Nat.le_of_ble_eq_true rfl)) dL_law_718 (l_rm hn.2 hc hs (Nat.zero_le _) (Nat.zero_le _))) hS (fun t2 locs _ hB hS => ?_)
  obtain ⟨WX, hXI, hP, hD⟩ := hB
  refine lv_pop (pc := 721) hx hb dL_law_721 rfl ?_
  have hP := l_swP hP
  have hD := l_swD hD
  refine lv_aload_n (pc := 722) hx hb dL_law_722 rfl (lv_at hl 1 rfl) ?_
  refine lv_aload_n (pc := 723) hx hb dL_law_723 rfl (lv_at hl 3 rfl) ?_
  refine lv_iload_n (pc := 724) hx hb dL_law_724 rfl (lv_at hl 0 rfl) ?_
  refine lv_iconst (pc := 725) (v := nI 1) hx hb dL_law_725 (by decide) ?_
  refine lv_iadd (pc := 726) hx hb dL_law_726 ?_
  refine va_sld (pc := 727) hx hb hX hbl hbA hS (l_in hi (show 1 < 8 by decide) hL) dL_law_727 ?_
  refine lv_aload_n (pc := 728) hx hb dL_law_728 rfl (lv_at hl 3 rfl) ?_
  refine lv_iload_n (pc := 729) hx hb dL_law_729 rfl (lv_at hl 0 rfl) ?_
  refine lv_iconst (pc := 730) (v := nI 2) hx hb dL_law_730 (by decide) ?_
  refine lv_iadd (pc := 731) hx hb dL_law_731 ?_
  refine va_sld (pc := 732) hx hb hX hbl hbA hS (l_in hi (show 2 < 8 by decide) hL) dL_law_732 ?_
  refine lv_aload_n (pc := 733) hx hb dL_law_733 rfl (lv_at hl 3 rfl) ?_
  refine lv_iload_n (pc := 734) hx hb dL_law_734 rfl (lv_at hl 0 rfl) ?_
  refine lv_iconst (pc := 735) (v := nI 3) hx hb dL_law_735 (by decide) ?_
  refine lv_iadd (pc := 736) hx hb dL_law_736 ?_
  refine va_sld (pc := 737) hx hb hX hbl hbA hS (l_in hi (show 3 < 8 by decide) hL) dL_law_737 ?_
  refine lv_aload_n (pc := 738) hx hb dL_law_738 rfl (lv_at hl 3 rfl) ?_
  refine lv_iload_n (pc := 739) hx hb dL_law_739 rfl (lv_at hl 0 rfl) ?_
  refine lv_iconst (pc := 740) (v := nI 4) hx hb dL_law_740 (by decide) ?_
  refine lv_iadd (pc := 741) hx hb dL_law_741 ?_
  refine va_sld (pc := 742) hx hb hX hbl hbA hS (l_in hi (show 4 < 8 by decide) hL) dL_law_742 ?_
  obtain ⟨r2, hM2⟩ := l_M_child l D ci (fun q : Nat => s.heap.size ≤ q) sa WX hMI (xs (nI i + nI 1).toNatClampNeg) (xs (nI i + nI 2).toNatClampNeg) (xs (nI i + nI 3).toNatClampNeg) (xs (nI i + nI 4).toNatClampNeg)
  obtain ⟨fs, hh⟩ := hMI.hd WX
  refine q_call (pc := 743) (va_runV (As := [.int (xs (nI i + nI 1).toNatClampNeg), .int (xs (nI i + nI 2).toNatClampNeg), .int (xs (nI i + nI 3).toNatClampNeg), .int (xs (nI i + nI 4).toNatClampNeg)]) (rest := []) ⟨hx, hb, hml, hown, hts⟩ hM2 (cwV 4 hts gL_law_X11_child rfl rfl rfl (by decide +kernel) ⟨Nat.le_of_ble_eq_true rfl, Nat.le_of_ble_eq_true rfl⟩) (q_preV (n1 := 0) (is1 := []) hK hA hZ hP hD hS rfl ⟨rfl, rfl, rfl⟩ 0 hh rfl) rfl rfl hl.1 rfl (lv_room (Nat.le_of_ble_eq_true rfl)) dL_law_743 (l_rm hn.2 hc hs (Nat.zero_le _) (Nat.zero_le _))) hS (fun t2 locs _ hB hS => ?_)
  obtain ⟨WM, hMI, hP, hD⟩ := hB
  have hP := l_swP hP
  have hD := l_swD hD
  refine lv_pop (pc := 746) hx hb dL_law_746 rfl ?_
  refine lv_goto (pc := 747) (tgt := 2146) hx hb dL_law_747 rfl ?_
  exact hgo WX WM _ _ _ _ _ _ _ _ _ hXI hMI hP hD hS hc hs
theorem law_12 (p : Program) (l : Launch) (e : Env) (s : State) (m : MethodId) (below : List Frame) (meth : Method) (c : Code) (b L : Nat) (xs : Nat → Int32) (D : va_G) (ci : Nat → ClassId) (sa : Nat → Nat) {a_x a_m i : Nat} {ls : Array Slot} (C0 : lL_C p l e s m below meth c b L xs D ci sa) (hi : i + 8 ≤ L) (hl : lv_has ls 4 [(3, .int (nI i)), (2, .ref a_m), (1, .ref a_x), (0, .ref b)]) (hgo : lL_go p l e s m below meth c b L xs D ci sa a_x a_m ls 2146) : lL_go p l e s m below meth c b L xs D ci sa a_x a_m ls 750 := by
  obtain ⟨hx, hb, hml, hown, hts, hX, hbl, hK, hZ, hret, hlocks, hL⟩ := C0
  intro WX WM t n s0 sv kv H locs cells slots hXI hMI hP hD hS hc hs
  have hA : ∀ q : Nat, s.heap.size ≤ q → (fun q : Nat => s.heap.size ≤ q) q := fun _ h => h
  have hbA : ¬ (fun q : Nat => s.heap.size ≤ q) b := Nat.not_le.mpr hbl
  have hn := hXI.n
  have hok := hXI.ok
  refine lv_aload_n (pc := 750) hx hb dL_law_750 rfl (lv_at hl 2 rfl) ?_
  refine lv_aload_n (pc := 751) hx hb dL_law_751 rfl (lv_at hl 3 rfl) ?_
  refine lv_iload_n (pc := 752) hx hb dL_law_752 rfl (lv_at hl 0 rfl) ?_
  refine lv_iconst (pc := 753) (v := nI 1) hx hb dL_law_753 (by decide) ?_
  refine lv_iadd (pc := 754) hx hb dL_law_754 ?_
  refine va_sld (pc := 755) hx hb hX hbl hbA hS (l_in hi (show 1 < 8 by decide) hL) dL_law_755 ?_
  refine lv_aload_n (pc := 756) hx hb dL_law_756 rfl (lv_at hl 3 rfl) ?_
  refine lv_iload_n (pc := 757) hx hb dL_law_757 rfl (lv_at hl 0 rfl) ?_
  refine lv_iconst (pc := 758) (v := nI 2) hx hb dL_law_758 (by decide) ?_
  refine lv_iadd (pc := 759) hx hb dL_law_759 ?_
  refine va_sld (pc := 760) hx hb hX hbl hbA hS (l_in hi (show 2 < 8 by decide) hL) dL_law_760 ?_
  refine lv_aload_n (pc := 761) hx hb dL_law_761 rfl (lv_at hl 3 rfl) ?_
  refine lv_iload_n (pc := 762) hx hb dL_law_762 rfl (lv_at hl 0 rfl) ?_
  refine lv_iconst (pc := 763) (v := nI 3) hx hb dL_law_763 (by decide) ?_
  refine lv_iadd (pc := 764) hx hb dL_law_764 ?_
  refine va_sld (pc := 765) hx hb hX hbl hbA hS (l_in hi (show 3 < 8 by decide) hL) dL_law_765 ?_
  refine lv_aload_n (pc := 766) hx hb dL_law_766 rfl (lv_at hl 3 rfl) ?_
  refine lv_iload_n (pc := 767) hx hb dL_law_767 rfl (lv_at hl 0 rfl) ?_
  refine lv_iconst (pc := 768) (v := nI 4) hx hb dL_law_768 (by decide) ?_
  refine lv_iadd (pc := 769) hx hb dL_law_769 ?_
  refine va_sld (pc := 770) hx hb hX hbl hbA hS (l_in hi (show 4 < 8 by decide) hL) dL_law_770 ?_
  obtain ⟨r, hM1⟩ := l_X_common l D ci (fun q : Nat => s.heap.size ≤ q) sa WM hXI (xs (nI i + nI 1).toNatClampNeg) (xs (nI i + nI 2).toNatClampNeg) (xs (nI i + nI 3).toNatClampNeg) (xs (nI i + nI 4).toNatClampNeg)
  obtain ⟨fs, hh⟩ := hXI.hd WM
  refine q_call (pc := 771) (va_runV (As := [.int (xs (nI i + nI 1).toNatClampNeg), .int (xs (nI i + nI 2).toNatClampNeg), .int (xs (nI i + nI 3).toNatClampNeg), .int (xs (nI i + nI 4).toNatClampNeg)]) (rest := []) ⟨hx, hb, hml, hown, hts⟩ hM1 (cwV 4 hts gL_law_X10_common rfl rfl rfl (by decide +kernel) ⟨Nat.le_of_ble_eq_true rfl, Nat.le_of_ble_eq_true rfl⟩) (q_preV (n1 := 0) (is1 := []) hK hA hZ hP hD hS rfl ⟨rfl, rfl, rfl⟩ 0 hh rfl) rfl rfl hl.1 rfl (lv_room (Nat.le_of_ble_eq_true rfl)) dL_law_771 (l_rm hn.2 hc hs (Nat.zero_le _) (Nat.zero_le _))) hS (fun t2 locs _ hB hS => ?_)
  obtain ⟨WX, hXI, hP, hD⟩ := hB
  refine lv_pop (pc := 774) hx hb dL_law_774 rfl ?_
  have hP := l_swP hP
  have hD := l_swD hD
  refine lv_aload_n (pc := 775) hx hb dL_law_775 rfl (lv_at hl 1 rfl) ?_
  refine lv_aload_n (pc := 776) hx hb dL_law_776 rfl (lv_at hl 3 rfl) ?_
  refine lv_iload_n (pc := 777) hx hb dL_law_777 rfl (lv_at hl 0 rfl) ?_
  refine lv_iconst (pc := 778) (v := nI 1) hx hb dL_law_778 (by decide) ?_
  refine lv_iadd (pc := 779) hx hb dL_law_779 ?_
  refine va_sld (pc := 780) hx hb hX hbl hbA hS (l_in hi (show 1 < 8 by decide) hL) dL_law_780 ?_
  refine lv_aload_n (pc := 781) hx hb dL_law_781 rfl (lv_at hl 3 rfl) ?_
  refine lv_iload_n (pc := 782) hx hb dL_law_782 rfl (lv_at hl 0 rfl) ?_
  refine lv_iconst (pc := 783) (v := nI 2) hx hb dL_law_783 (by decide) ?_
  refine lv_iadd (pc := 784) hx hb dL_law_784 ?_
  refine va_sld (pc := 785) hx hb hX hbl hbA hS (l_in hi (show 2 < 8 by decide) hL) dL_law_785 ?_
  refine lv_aload_n (pc := 786) hx hb dL_law_786 rfl (lv_at hl 3 rfl) ?_
  refine lv_iload_n (pc := 787) hx hb dL_law_787 rfl (lv_at hl 0 rfl) ?_
  refine lv_iconst (pc := 788) (v := nI 3) hx hb dL_law_788 (by decide) ?_
  refine lv_iadd (pc := 789) hx hb dL_law_789 ?_
  refine va_sld (pc := 790) hx hb hX hbl hbA hS (l_in hi (show 3 < 8 by decide) hL) dL_law_790 ?_
  refine lv_aload_n (pc := 791) hx hb dL_law_791 rfl (lv_at hl 3 rfl) ?_
  refine lv_iload_n (pc := 792) hx hb dL_law_792 rfl (lv_at hl 0 rfl) ?_
  refine lv_iconst (pc := 793) (v := nI 4) hx hb dL_law_793 (by decide) ?_
  refine lv_iadd (pc := 794) hx hb dL_law_794 ?_
  refine va_sld (pc := 795) hx hb hX hbl hbA hS (l_in hi (show 4 < 8 by decide) hL) dL_law_795 ?_
  obtain ⟨r2, hM2⟩ := l_M_common l D ci (fun q : Nat => s.heap.size ≤ q) sa WX hMI (xs (nI i + nI 1).toNatClampNeg) (xs (nI i + nI 2).toNatClampNeg) (xs (nI i + nI 3).toNatClampNeg) (xs (nI i + nI 4).toNatClampNeg)
  obtain ⟨fs, hh⟩ := hMI.hd WX
  refine q_call (pc := 796) (va_runV (As := [.int (xs (nI i + nI 1).toNatClampNeg), .int (xs (nI i + nI 2).toNatClampNeg), .int (xs (nI i + nI 3).toNatClampNeg), .int (xs (nI i + nI 4).toNatClampNeg)]) (rest := []) ⟨hx, hb, hml, hown, hts⟩ hM2 (cwV 4 hts gL_law_X11_common_ rfl rfl rfl (by decide +kernel) ⟨Nat.le_of_ble_eq_true rfl, Nat.le_of_ble_eq_true rfl⟩) (q_preV (n1 := 0) (is1 := []) hK hA hZ hP hD hS rfl ⟨rfl, rfl, rfl⟩ 0 hh rfl) rfl rfl hl.1 rfl (lv_room (Nat.le_of_ble_eq_true rfl)) dL_law_796 (l_rm hn.2 hc hs (Nat.zero_le _) (Nat.zero_le _))) hS (fun t2 locs _ hB hS => ?_)
  obtain ⟨WM, hMI, hP, hD⟩ := hB
  have hP := l_swP hP
  have hD := l_swD hD
  refine lv_pop (pc := 799) hx hb dL_law_799 rfl ?_
  refine lv_goto (pc := 800) (tgt := 2146) hx hb dL_law_800 rfl ?_
  exact hgo WX WM _ _ _ _ _ _ _ _ _ hXI hMI hP hD hS hc hs
theorem law_13 (p : Program) (l : Launch) (e : Env) (s : State) (m : MethodId) (below : List Frame) (meth : Method) (c : Code) (b L : Nat) (xs : Nat → Int32) (D : va_G) (ci : Nat → ClassId) (sa : Nat → Nat) {a_x a_m i : Nat} {ls : Array Slot} (C0 : lL_C p l e s m below meth c b L xs D ci sa) (hi : i + 8 ≤ L) (hl : lv_has ls 4 [(3, .int (nI i)), (2, .ref a_m), (1, .ref a_x), (0, .ref b)]) (hgo : lL_go p l e s m below meth c b L xs D ci sa a_x a_m ls 2146) : lL_go p l e s m below meth c b L xs D ci sa a_x a_m ls 803 := by
  obtain ⟨hx, hb, hml, hown, hts, hX, hbl, hK, hZ, hret, hlocks, hL⟩ := C0
  intro WX WM t n s0 sv kv H locs cells slots hXI hMI hP hD hS hc hs
  have hA : ∀ q : Nat, s.heap.size ≤ q → (fun q : Nat => s.heap.size ≤ q) q := fun _ h => h
  have hbA : ¬ (fun q : Nat => s.heap.size ≤ q) b := Nat.not_le.mpr hbl
  have hn := hXI.n
  have hok := hXI.ok
  refine lv_aload_n (pc := 803) hx hb dL_law_803 rfl (lv_at hl 2 rfl) ?_
  refine lv_aload_n (pc := 804) hx hb dL_law_804 rfl (lv_at hl 3 rfl) ?_
  refine lv_iload_n (pc := 805) hx hb dL_law_805 rfl (lv_at hl 0 rfl) ?_
  refine lv_iconst (pc := 806) (v := nI 1) hx hb dL_law_806 (by decide) ?_
  refine lv_iadd (pc := 807) hx hb dL_law_807 ?_
  refine va_sld (pc := 808) hx hb hX hbl hbA hS (l_in hi (show 1 < 8 by decide) hL) dL_law_808 ?_
  refine lv_aload_n (pc := 809) hx hb dL_law_809 rfl (lv_at hl 3 rfl) ?_
  refine lv_iload_n (pc := 810) hx hb dL_law_810 rfl (lv_at hl 0 rfl) ?_
  refine lv_iconst (pc := 811) (v := nI 2) hx hb dL_law_811 (by decide) ?_
  refine lv_iadd (pc := 812) hx hb dL_law_812 ?_
  refine va_sld (pc := 813) hx hb hX hbl hbA hS (l_in hi (show 2 < 8 by decide) hL) dL_law_813 ?_
  refine lv_aload_n (pc := 814) hx hb dL_law_814 rfl (lv_at hl 3 rfl) ?_
  refine lv_iload_n (pc := 815) hx hb dL_law_815 rfl (lv_at hl 0 rfl) ?_
  refine lv_iconst (pc := 816) (v := nI 3) hx hb dL_law_816 (by decide) ?_
  refine lv_iadd (pc := 817) hx hb dL_law_817 ?_
  refine va_sld (pc := 818) hx hb hX hbl hbA hS (l_in hi (show 3 < 8 by decide) hL) dL_law_818 ?_
  refine lv_aload_n (pc := 819) hx hb dL_law_819 rfl (lv_at hl 3 rfl) ?_
  refine lv_iload_n (pc := 820) hx hb dL_law_820 rfl (lv_at hl 0 rfl) ?_
  refine lv_iconst (pc := 821) (v := nI 4) hx hb dL_law_821 (by decide) ?_
  refine lv_iadd (pc := 822) hx hb dL_law_822 ?_
  refine va_sld (pc := 823) hx hb hX hbl hbA hS (l_in hi (show 4 < 8 by decide) hL) dL_law_823 ?_
  obtain ⟨r, hM1⟩ := l_X_neighbour l D ci (fun q : Nat => s.heap.size ≤ q) sa WM hXI (xs (nI i + nI 1).toNatClampNeg) (xs (nI i + nI 2).toNatClampNeg) (xs (nI i + nI 3).toNatClampNeg) (xs (nI i + nI 4).toNatClampNeg)
  obtain ⟨fs, hh⟩ := hXI.hd WM
  refine q_call (pc := 824) (va_runV (As := [.int (xs (nI i + nI 1).toNatClampNeg), .int (xs (nI i + nI 2).toNatClampNeg), .int (xs (nI i + nI 3).toNatClampNeg), .int (xs (nI i + nI 4).toNatClampNeg)]) (rest := []) ⟨hx, hb, hml, hown, hts⟩ hM1 (cwV 4 hts gL_law_X10_neighbour rfl rfl rfl (by decide +kernel) ⟨Nat.le_of_ble_eq_true rfl, Nat.le_of_ble_eq_true rfl⟩) (q_preV (n1 := 0) (is1 := []) hK hA hZ hP hD hS rfl ⟨rfl, rfl, rfl⟩ 0 hh rfl) rfl rfl hl.1 rfl (lv_room (Nat.le_of_ble_eq_true rfl)) dL_law_824 (l_rm hn.2 hc hs (Nat.zero_le _) (Nat.zero_le _))) hS (fun t2 locs _ hB hS => ?_)
  obtain ⟨WX, hXI, hP, hD⟩ := hB
  refine lv_pop (pc := 827) hx hb dL_law_827 rfl ?_
  have hP := l_swP hP
  have hD := l_swD hD
  refine lv_aload_n (pc := 828) hx hb dL_law_828 rfl (lv_at hl 1 rfl) ?_
  refine lv_aload_n (pc := 829) hx hb dL_law_829 rfl (lv_at hl 3 rfl) ?_
  refine lv_iload_n (pc := 830) hx hb dL_law_830 rfl (lv_at hl 0 rfl) ?_
  refine lv_iconst (pc := 831) (v := nI 1) hx hb dL_law_831 (by decide) ?_
  refine lv_iadd (pc := 832) hx hb dL_law_832 ?_
  refine va_sld (pc := 833) hx hb hX hbl hbA hS (l_in hi (show 1 < 8 by decide) hL) dL_law_833 ?_
  refine lv_aload_n (pc := 834) hx hb dL_law_834 rfl (lv_at hl 3 rfl) ?_
  refine lv_iload_n (pc := 835) hx hb dL_law_835 rfl (lv_at hl 0 rfl) ?_
  refine lv_iconst (pc := 836) (v := nI 2) hx hb dL_law_836 (by decide) ?_
  refine lv_iadd (pc := 837) hx hb dL_law_837 ?_
  refine va_sld (pc := 838) hx hb hX hbl hbA hS (l_in hi (show 2 < 8 by decide) hL) dL_law_838 ?_
  refine lv_aload_n (pc := 839) hx hb dL_law_839 rfl (lv_at hl 3 rfl) ?_
  refine lv_iload_n (pc := 840) hx hb dL_law_840 rfl (lv_at hl 0 rfl) ?_
  refine lv_iconst (pc := 841) (v := nI 3) hx hb dL_law_841 (by decide) ?_
  refine lv_iadd (pc := 842) hx hb dL_law_842 ?_
  refine va_sld (pc := 843) hx hb hX hbl hbA hS (l_in hi (show 3 < 8 by decide) hL) dL_law_843 ?_
  refine lv_aload_n (pc := 844) hx hb dL_law_844 rfl (lv_at hl 3 rfl) ?_
  refine lv_iload_n (pc := 845) hx hb dL_law_845 rfl (lv_at hl 0 rfl) ?_
  refine lv_iconst (pc := 846) (v := nI 4) hx hb dL_law_846 (by decide) ?_
  refine lv_iadd (pc := 847) hx hb dL_law_847 ?_
  refine va_sld (pc := 848) hx hb hX hbl hbA hS (l_in hi (show 4 < 8 by decide) hL) dL_law_848 ?_
  obtain ⟨r2, hM2⟩ := l_M_neighbour l D ci (fun q : Nat => s.heap.size ≤ q) sa WX hMI (xs (nI i + nI 1).toNatClampNeg) (xs (nI i + nI 2).toNatClampNeg) (xs (nI i + nI 3).toNatClampNeg) (xs (nI i + nI 4).toNatClampNeg)
  obtain ⟨fs, hh⟩ := hMI.hd WX
  refine q_call (pc := 849) (va_runV (As := [.int (xs (nI i + nI 1).toNatClampNeg), .int (xs (nI i + nI 2).toNatClampNeg), .int (xs (nI i + nI 3).toNatClampNeg), .int (xs (nI i + nI 4).toNatClampNeg)]) (rest := []) ⟨hx, hb, hml, hown, hts⟩ hM2 (cwV 4 hts gL_law_X11_neighbour rfl rfl rfl (by decide +kernel) ⟨Nat.le_of_ble_eq_true rfl, Nat.le_of_ble_eq_true rfl⟩) (q_preV (n1 := 0) (is1 := []) hK hA hZ hP hD hS rfl ⟨rfl, rfl, rfl⟩ 0 hh rfl) rfl rfl hl.1 rfl (lv_room (Nat.le_of_ble_eq_true rfl)) dL_law_849 (l_rm hn.2 hc hs (Nat.zero_le _) (Nat.zero_le _))) hS (fun t2 locs _ hB hS => ?_)
  obtain ⟨WM, hMI, hP, hD⟩ := hB
  have hP := l_swP hP
  have hD := l_swD hD
  refine lv_pop (pc := 852) hx hb dL_law_852 rfl ?_
  refine lv_goto (pc := 853) (tgt := 2146) hx hb dL_law_853 rfl ?_
  exact hgo WX WM _ _ _ _ _ _ _ _ _ hXI hMI hP hD hS hc hs
theorem law_14 (p : Program) (l : Launch) (e : Env) (s : State) (m : MethodId) (below : List Frame) (meth : Method) (c : Code) (b L : Nat) (xs : Nat → Int32) (D : va_G) (ci : Nat → ClassId) (sa : Nat → Nat) {a_x a_m i : Nat} {ls : Array Slot} (C0 : lL_C p l e s m below meth c b L xs D ci sa) (hi : i + 8 ≤ L) (hl : lv_has ls 4 [(3, .int (nI i)), (2, .ref a_m), (1, .ref a_x), (0, .ref b)]) (hgo : lL_go p l e s m below meth c b L xs D ci sa a_x a_m ls 2146) : lL_go p l e s m below meth c b L xs D ci sa a_x a_m ls 856 := by
  obtain ⟨hx, hb, hml, hown, hts, hX, hbl, hK, hZ, hret, hlocks, hL⟩ := C0
  intro WX WM t n s0 sv kv H locs cells slots hXI hMI hP hD hS hc hs
  have hA : ∀ q : Nat, s.heap.size ≤ q → (fun q : Nat => s.heap.size ≤ q) q := fun _ h => h
  have hbA : ¬ (fun q : Nat => s.heap.size ≤ q) b := Nat.not_le.mpr hbl
  have hn := hXI.n
  have hok := hXI.ok
  refine lv_aload_n (pc := 856) hx hb dL_law_856 rfl (lv_at hl 2 rfl) ?_
  refine lv_aload_n (pc := 857) hx hb dL_law_857 rfl (lv_at hl 3 rfl) ?_
  refine lv_iload_n (pc := 858) hx hb dL_law_858 rfl (lv_at hl 0 rfl) ?_
  refine lv_iconst (pc := 859) (v := nI 1) hx hb dL_law_859 (by decide) ?_
  refine lv_iadd (pc := 860) hx hb dL_law_860 ?_
  refine va_sld (pc := 861) hx hb hX hbl hbA hS (l_in hi (show 1 < 8 by decide) hL) dL_law_861 ?_
  refine lv_aload_n (pc := 862) hx hb dL_law_862 rfl (lv_at hl 3 rfl) ?_
  refine lv_iload_n (pc := 863) hx hb dL_law_863 rfl (lv_at hl 0 rfl) ?_
  refine lv_iconst (pc := 864) (v := nI 2) hx hb dL_law_864 (by decide) ?_
  refine lv_iadd (pc := 865) hx hb dL_law_865 ?_
  refine va_sld (pc := 866) hx hb hX hbl hbA hS (l_in hi (show 2 < 8 by decide) hL) dL_law_866 ?_
  refine lv_aload_n (pc := 867) hx hb dL_law_867 rfl (lv_at hl 3 rfl) ?_
  refine lv_iload_n (pc := 868) hx hb dL_law_868 rfl (lv_at hl 0 rfl) ?_
  refine lv_iconst (pc := 869) (v := nI 3) hx hb dL_law_869 (by decide) ?_
  refine lv_iadd (pc := 870) hx hb dL_law_870 ?_
  refine va_sld (pc := 871) hx hb hX hbl hbA hS (l_in hi (show 3 < 8 by decide) hL) dL_law_871 ?_
  obtain ⟨r, hM1⟩ := l_X_around l D ci (fun q : Nat => s.heap.size ≤ q) sa WM hXI (xs (nI i + nI 1).toNatClampNeg) (xs (nI i + nI 2).toNatClampNeg) (xs (nI i + nI 3).toNatClampNeg)
  obtain ⟨fs, hh⟩ := hXI.hd WM
  refine q_call (pc := 872) (va_runV (As := [.int (xs (nI i + nI 1).toNatClampNeg), .int (xs (nI i + nI 2).toNatClampNeg), .int (xs (nI i + nI 3).toNatClampNeg)]) (rest := []) ⟨hx, hb, hml, hown, hts⟩ hM1 (cwV 3 hts gL_law_X10_around rfl rfl rfl (by decide +kernel) ⟨Nat.le_of_ble_eq_true rfl, Nat.le_of_ble_eq_true rfl⟩) (q_preV (n1 := 0) (is1 := []) hK hA hZ hP hD hS rfl ⟨rfl, rfl, rfl⟩ 0 hh rfl) rfl rfl hl.1 rfl (lv_room (Nat.le_of_ble_eq_true rfl)) dL_law_872 (l_rm hn.2 hc hs (Nat.zero_le _) (Nat.zero_le _))) hS (fun t2 locs _ hB hS => ?_)
  obtain ⟨WX, hXI, hP, hD⟩ := hB
  refine lv_pop (pc := 875) hx hb dL_law_875 rfl ?_
  have hP := l_swP hP
  have hD := l_swD hD
  refine lv_aload_n (pc := 876) hx hb dL_law_876 rfl (lv_at hl 1 rfl) ?_
  refine lv_aload_n (pc := 877) hx hb dL_law_877 rfl (lv_at hl 3 rfl) ?_
  refine lv_iload_n (pc := 878) hx hb dL_law_878 rfl (lv_at hl 0 rfl) ?_
  refine lv_iconst (pc := 879) (v := nI 1) hx hb dL_law_879 (by decide) ?_
  refine lv_iadd (pc := 880) hx hb dL_law_880 ?_
  refine va_sld (pc := 881) hx hb hX hbl hbA hS (l_in hi (show 1 < 8 by decide) hL) dL_law_881 ?_
  refine lv_aload_n (pc := 882) hx hb dL_law_882 rfl (lv_at hl 3 rfl) ?_
  refine lv_iload_n (pc := 883) hx hb dL_law_883 rfl (lv_at hl 0 rfl) ?_
  refine lv_iconst (pc := 884) (v := nI 2) hx hb dL_law_884 (by decide) ?_
  refine lv_iadd (pc := 885) hx hb dL_law_885 ?_
  refine va_sld (pc := 886) hx hb hX hbl hbA hS (l_in hi (show 2 < 8 by decide) hL) dL_law_886 ?_
  refine lv_aload_n (pc := 887) hx hb dL_law_887 rfl (lv_at hl 3 rfl) ?_
  refine lv_iload_n (pc := 888) hx hb dL_law_888 rfl (lv_at hl 0 rfl) ?_
  refine lv_iconst (pc := 889) (v := nI 3) hx hb dL_law_889 (by decide) ?_
  refine lv_iadd (pc := 890) hx hb dL_law_890 ?_
  refine va_sld (pc := 891) hx hb hX hbl hbA hS (l_in hi (show 3 < 8 by decide) hL) dL_law_891 ?_
  obtain ⟨r2, hM2⟩ := l_M_around l D ci (fun q : Nat => s.heap.size ≤ q) sa WX hMI (xs (nI i + nI 1).toNatClampNeg) (xs (nI i + nI 2).toNatClampNeg) (xs (nI i + nI 3).toNatClampNeg)
  obtain ⟨fs, hh⟩ := hMI.hd WX
  refine q_call (pc := 892) (va_runV (As := [.int (xs (nI i + nI 1).toNatClampNeg), .int (xs (nI i + nI 2).toNatClampNeg), .int (xs (nI i + nI 3).toNatClampNeg)]) (rest := []) ⟨hx, hb, hml, hown, hts⟩ hM2 (cwV 3 hts gL_law_X11_around rfl rfl rfl (by decide +kernel) ⟨Nat.le_of_ble_eq_true rfl, Nat.le_of_ble_eq_true rfl⟩) (q_preV (n1 := 0) (is1 := []) hK hA hZ hP hD hS rfl ⟨rfl, rfl, rfl⟩ 0 hh rfl) rfl rfl hl.1 rfl (lv_room (Nat.le_of_ble_eq_true rfl)) dL_law_892 (l_rm hn.2 hc hs (Nat.zero_le _) (Nat.zero_le _))) hS (fun t2 locs _ hB hS => ?_)
  obtain ⟨WM, hMI, hP, hD⟩ := hB
  have hP := l_swP hP
  have hD := l_swD hD
  refine lv_pop (pc := 895) hx hb dL_law_895 rfl ?_
  refine lv_goto (pc := 896) (tgt := 2146) hx hb dL_law_896 rfl ?_
  exact hgo WX WM _ _ _ _ _ _ _ _ _ hXI hMI hP hD hS hc hs
theorem law_15 (p : Program) (l : Launch) (e : Env) (s : State) (m : MethodId) (below : List Frame) (meth : Method) (c : Code) (b L : Nat) (xs : Nat → Int32) (D : va_G) (ci : Nat → ClassId) (sa : Nat → Nat) {a_x a_m i : Nat} {ls : Array Slot} (C0 : lL_C p l e s m below meth c b L xs D ci sa) (hi : i + 8 ≤ L) (hl : lv_has ls 4 [(3, .int (nI i)), (2, .ref a_m), (1, .ref a_x), (0, .ref b)]) (hgo : lL_go p l e s m below meth c b L xs D ci sa a_x a_m ls 2146) : lL_go p l e s m below meth c b L xs D ci sa a_x a_m ls 899 := by
  obtain ⟨hx, hb, hml, hown, hts, hX, hbl, hK, hZ, hret, hlocks, hL⟩ := C0
  intro WX WM t n s0 sv kv H locs cells slots hXI hMI hP hD hS hc hs
  have hA : ∀ q : Nat, s.heap.size ≤ q → (fun q : Nat => s.heap.size ≤ q) q := fun _ h => h
  have hbA : ¬ (fun q : Nat => s.heap.size ≤ q) b := Nat.not_le.mpr hbl
  have hn := hXI.n
  have hok := hXI.ok
  refine lv_aload_n (pc := 899) hx hb dL_law_899 rfl (lv_at hl 2 rfl) ?_
  refine lv_aload_n (pc := 900) hx hb dL_law_900 rfl (lv_at hl 3 rfl) ?_
  refine lv_iload_n (pc := 901) hx hb dL_law_901 rfl (lv_at hl 0 rfl) ?_
  refine lv_iconst (pc := 902) (v := nI 1) hx hb dL_law_902 (by decide) ?_
  refine lv_iadd (pc := 903) hx hb dL_law_903 ?_
  refine va_sld (pc := 904) hx hb hX hbl hbA hS (l_in hi (show 1 < 8 by decide) hL) dL_law_904 ?_
  refine lv_aload_n (pc := 905) hx hb dL_law_905 rfl (lv_at hl 3 rfl) ?_
  refine lv_iload_n (pc := 906) hx hb dL_law_906 rfl (lv_at hl 0 rfl) ?_
  refine lv_iconst (pc := 907) (v := nI 2) hx hb dL_law_907 (by decide) ?_
  refine lv_iadd (pc := 908) hx hb dL_law_908 ?_
  refine va_sld (pc := 909) hx hb hX hbl hbA hS (l_in hi (show 2 < 8 by decide) hL) dL_law_909 ?_
  refine lv_aload_n (pc := 910) hx hb dL_law_910 rfl (lv_at hl 3 rfl) ?_
  refine lv_iload_n (pc := 911) hx hb dL_law_911 rfl (lv_at hl 0 rfl) ?_
  refine lv_iconst (pc := 912) (v := nI 3) hx hb dL_law_912 (by decide) ?_
  refine lv_iadd (pc := 913) hx hb dL_law_913 ?_
  refine va_sld (pc := 914) hx hb hX hbl hbA hS (l_in hi (show 3 < 8 by decide) hL) dL_law_914 ?_
  obtain ⟨r, hM1⟩ := l_X_side l D ci (fun q : Nat => s.heap.size ≤ q) sa WM hXI (xs (nI i + nI 1).toNatClampNeg) (xs (nI i + nI 2).toNatClampNeg) (xs (nI i + nI 3).toNatClampNeg)
  obtain ⟨fs, hh⟩ := hXI.hd WM
  refine q_call (pc := 915) (va_runV (As := [.int (xs (nI i + nI 1).toNatClampNeg), .int (xs (nI i + nI 2).toNatClampNeg), .int (xs (nI i + nI 3).toNatClampNeg)]) (rest := []) ⟨hx, hb, hml, hown, hts⟩ hM1 (cwV 3 hts gL_law_X10_side rfl rfl rfl (by decide +kernel) ⟨Nat.le_of_ble_eq_true rfl, Nat.le_of_ble_eq_true rfl⟩) (q_preV (n1 := 0) (is1 := []) hK hA hZ hP hD hS rfl ⟨rfl, rfl, rfl⟩ 0 hh rfl) rfl rfl hl.1 rfl (lv_room (Nat.le_of_ble_eq_true rfl)) dL_law_915 (l_rm hn.2 hc hs (Nat.zero_le _) (Nat.zero_le _))) hS (fun t2 locs _ hB hS => ?_)
  obtain ⟨WX, hXI, hP, hD⟩ := hB
  refine lv_pop (pc := 918) hx hb dL_law_918 rfl ?_
  have hP := l_swP hP
  have hD := l_swD hD
  refine lv_aload_n (pc := 919) hx hb dL_law_919 rfl (lv_at hl 1 rfl) ?_
  refine lv_aload_n (pc := 920) hx hb dL_law_920 rfl (lv_at hl 3 rfl) ?_
  refine lv_iload_n (pc := 921) hx hb dL_law_921 rfl (lv_at hl 0 rfl) ?_
  refine lv_iconst (pc := 922) (v := nI 1) hx hb dL_law_922 (by decide) ?_
  refine lv_iadd (pc := 923) hx hb dL_law_923 ?_
  refine va_sld (pc := 924) hx hb hX hbl hbA hS (l_in hi (show 1 < 8 by decide) hL) dL_law_924 ?_
  refine lv_aload_n (pc := 925) hx hb dL_law_925 rfl (lv_at hl 3 rfl) ?_
  refine lv_iload_n (pc := 926) hx hb dL_law_926 rfl (lv_at hl 0 rfl) ?_
  refine lv_iconst (pc := 927) (v := nI 2) hx hb dL_law_927 (by decide) ?_
  refine lv_iadd (pc := 928) hx hb dL_law_928 ?_
  refine va_sld (pc := 929) hx hb hX hbl hbA hS (l_in hi (show 2 < 8 by decide) hL) dL_law_929 ?_
  refine lv_aload_n (pc := 930) hx hb dL_law_930 rfl (lv_at hl 3 rfl) ?_
  refine lv_iload_n (pc := 931) hx hb dL_law_931 rfl (lv_at hl 0 rfl) ?_
  refine lv_iconst (pc := 932) (v := nI 3) hx hb dL_law_932 (by decide) ?_
  refine lv_iadd (pc := 933) hx hb dL_law_933 ?_
  refine va_sld (pc := 934) hx hb hX hbl hbA hS (l_in hi (show 3 < 8 by decide) hL) dL_law_934 ?_
  obtain ⟨r2, hM2⟩ := l_M_side l D ci (fun q : Nat => s.heap.size ≤ q) sa WX hMI (xs (nI i + nI 1).toNatClampNeg) (xs (nI i + nI 2).toNatClampNeg) (xs (nI i + nI 3).toNatClampNeg)
  obtain ⟨fs, hh⟩ := hMI.hd WX
  refine q_call (pc := 935) (va_runV (As := [.int (xs (nI i + nI 1).toNatClampNeg), .int (xs (nI i + nI 2).toNatClampNeg), .int (xs (nI i + nI 3).toNatClampNeg)]) (rest := []) ⟨hx, hb, hml, hown, hts⟩ hM2 (cwV 3 hts gL_law_X11_side rfl rfl rfl (by decide +kernel) ⟨Nat.le_of_ble_eq_true rfl, Nat.le_of_ble_eq_true rfl⟩) (q_preV (n1 := 0) (is1 := []) hK hA hZ hP hD hS rfl ⟨rfl, rfl, rfl⟩ 0 hh rfl) rfl rfl hl.1 rfl (lv_room (Nat.le_of_ble_eq_true rfl)) dL_law_935 (l_rm hn.2 hc hs (Nat.zero_le _) (Nat.zero_le _))) hS (fun t2 locs _ hB hS => ?_)
  obtain ⟨WM, hMI, hP, hD⟩ := hB
  have hP := l_swP hP
  have hD := l_swD hD
  refine lv_pop (pc := 938) hx hb dL_law_938 rfl ?_
  refine lv_goto (pc := 939) (tgt := 2146) hx hb dL_law_939 rfl ?_
  exact hgo WX WM _ _ _ _ _ _ _ _ _ hXI hMI hP hD hS hc hs
theorem law_16 (p : Program) (l : Launch) (e : Env) (s : State) (m : MethodId) (below : List Frame) (meth : Method) (c : Code) (b L : Nat) (xs : Nat → Int32) (D : va_G) (ci : Nat → ClassId) (sa : Nat → Nat) {a_x a_m i : Nat} {ls : Array Slot} (C0 : lL_C p l e s m below meth c b L xs D ci sa) (hi : i + 8 ≤ L) (hl : lv_has ls 4 [(3, .int (nI i)), (2, .ref a_m), (1, .ref a_x), (0, .ref b)]) (hgo : lL_go p l e s m below meth c b L xs D ci sa a_x a_m ls 2146) : lL_go p l e s m below meth c b L xs D ci sa a_x a_m ls 942 := by
  obtain ⟨hx, hb, hml, hown, hts, hX, hbl, hK, hZ, hret, hlocks, hL⟩ := C0
  intro WX WM t n s0 sv kv H locs cells slots hXI hMI hP hD hS hc hs
  have hA : ∀ q : Nat, s.heap.size ≤ q → (fun q : Nat => s.heap.size ≤ q) q := fun _ h => h
  have hbA : ¬ (fun q : Nat => s.heap.size ≤ q) b := Nat.not_le.mpr hbl
  have hn := hXI.n
  have hok := hXI.ok
  refine lv_aload_n (pc := 942) hx hb dL_law_942 rfl (lv_at hl 2 rfl) ?_
  refine lv_aload_n (pc := 943) hx hb dL_law_943 rfl (lv_at hl 3 rfl) ?_
  refine lv_iload_n (pc := 944) hx hb dL_law_944 rfl (lv_at hl 0 rfl) ?_
  refine lv_iconst (pc := 945) (v := nI 1) hx hb dL_law_945 (by decide) ?_
  refine lv_iadd (pc := 946) hx hb dL_law_946 ?_
  refine va_sld (pc := 947) hx hb hX hbl hbA hS (l_in hi (show 1 < 8 by decide) hL) dL_law_947 ?_
  refine lv_aload_n (pc := 948) hx hb dL_law_948 rfl (lv_at hl 3 rfl) ?_
  refine lv_iload_n (pc := 949) hx hb dL_law_949 rfl (lv_at hl 0 rfl) ?_
  refine lv_iconst (pc := 950) (v := nI 2) hx hb dL_law_950 (by decide) ?_
  refine lv_iadd (pc := 951) hx hb dL_law_951 ?_
  refine va_sld (pc := 952) hx hb hX hbl hbA hS (l_in hi (show 2 < 8 by decide) hL) dL_law_952 ?_
  refine lv_aload_n (pc := 953) hx hb dL_law_953 rfl (lv_at hl 3 rfl) ?_
  refine lv_iload_n (pc := 954) hx hb dL_law_954 rfl (lv_at hl 0 rfl) ?_
  refine lv_iconst (pc := 955) (v := nI 3) hx hb dL_law_955 (by decide) ?_
  refine lv_iadd (pc := 956) hx hb dL_law_956 ?_
  refine va_sld (pc := 957) hx hb hX hbl hbA hS (l_in hi (show 3 < 8 by decide) hL) dL_law_957 ?_
  rcases l_X_steps l D ci (fun q : Nat => s.heap.size ≤ q) sa WM hXI (xs (nI i + nI 1).toNatClampNeg) (xs (nI i + nI 2).toNatClampNeg) (xs (nI i + nI 3).toNatClampNeg) with ⟨r, hM1⟩ | ⟨nL, r, hL1, hL2, hL3, hM1⟩
  · skip
    obtain ⟨fs, hh⟩ := hXI.hd WM
    refine q_call (pc := 958) (va_runV (As := [.int (xs (nI i + nI 1).toNatClampNeg), .int (xs (nI i + nI 2).toNatClampNeg), .int (xs (nI i + nI 3).toNatClampNeg)]) (rest := []) ⟨hx, hb, hml, hown, hts⟩ hM1 (cwV 3 hts gL_law_X10_steps rfl rfl rfl (by decide +kernel) ⟨Nat.le_of_ble_eq_true rfl, Nat.le_of_ble_eq_true rfl⟩) (q_preV (n1 := 0) (is1 := []) hK hA hZ hP hD hS rfl ⟨rfl, rfl, rfl⟩ 0 hh rfl) rfl rfl hl.1 rfl (lv_room (Nat.le_of_ble_eq_true rfl)) dL_law_958 (l_rm hn.2 hc hs (Nat.zero_le _) (Nat.zero_le _))) hS (fun t2 locs _ hB hS => ?_)
    obtain ⟨WX, hXI, hP, hD⟩ := hB
    refine lv_pop (pc := 961) hx hb dL_law_961 rfl ?_
    have hP := l_swP hP
    have hD := l_swD hD
    refine lv_aload_n (pc := 962) hx hb dL_law_962 rfl (lv_at hl 1 rfl) ?_
    refine lv_aload_n (pc := 963) hx hb dL_law_963 rfl (lv_at hl 3 rfl) ?_
    refine lv_iload_n (pc := 964) hx hb dL_law_964 rfl (lv_at hl 0 rfl) ?_
    refine lv_iconst (pc := 965) (v := nI 1) hx hb dL_law_965 (by decide) ?_
    refine lv_iadd (pc := 966) hx hb dL_law_966 ?_
    refine va_sld (pc := 967) hx hb hX hbl hbA hS (l_in hi (show 1 < 8 by decide) hL) dL_law_967 ?_
    refine lv_aload_n (pc := 968) hx hb dL_law_968 rfl (lv_at hl 3 rfl) ?_
    refine lv_iload_n (pc := 969) hx hb dL_law_969 rfl (lv_at hl 0 rfl) ?_
    refine lv_iconst (pc := 970) (v := nI 2) hx hb dL_law_970 (by decide) ?_
    refine lv_iadd (pc := 971) hx hb dL_law_971 ?_
    refine va_sld (pc := 972) hx hb hX hbl hbA hS (l_in hi (show 2 < 8 by decide) hL) dL_law_972 ?_
    refine lv_aload_n (pc := 973) hx hb dL_law_973 rfl (lv_at hl 3 rfl) ?_
    refine lv_iload_n (pc := 974) hx hb dL_law_974 rfl (lv_at hl 0 rfl) ?_
    refine lv_iconst (pc := 975) (v := nI 3) hx hb dL_law_975 (by decide) ?_
    refine lv_iadd (pc := 976) hx hb dL_law_976 ?_
    refine va_sld (pc := 977) hx hb hX hbl hbA hS (l_in hi (show 3 < 8 by decide) hL) dL_law_977 ?_
    obtain ⟨r2, hM2⟩ := l_M_steps l D ci (fun q : Nat => s.heap.size ≤ q) sa WX hMI (xs (nI i + nI 1).toNatClampNeg) (xs (nI i + nI 2).toNatClampNeg) (xs (nI i + nI 3).toNatClampNeg)
    obtain ⟨fs, hh⟩ := hMI.hd WX
    refine q_call (pc := 978) (va_runV (As := [.int (xs (nI i + nI 1).toNatClampNeg), .int (xs (nI i + nI 2).toNatClampNeg), .int (xs (nI i + nI 3).toNatClampNeg)]) (rest := []) ⟨hx, hb, hml, hown, hts⟩ hM2 (cwV 3 hts gL_law_X11_steps rfl rfl rfl (by decide +kernel) ⟨Nat.le_of_ble_eq_true rfl, Nat.le_of_ble_eq_true rfl⟩) (q_preV (n1 := 0) (is1 := []) hK hA hZ hP hD hS rfl ⟨rfl, rfl, rfl⟩ 0 hh rfl) rfl rfl hl.1 rfl (lv_room (Nat.le_of_ble_eq_true rfl)) dL_law_978 (l_rm hn.2 hc hs (Nat.zero_le _) (Nat.zero_le _))) hS (fun t2 locs _ hB hS => ?_)
    obtain ⟨WM, hMI, hP, hD⟩ := hB
    have hP := l_swP hP
    have hD := l_swD hD
    refine lv_pop (pc := 981) hx hb dL_law_981 rfl ?_
    refine lv_goto (pc := 982) (tgt := 2146) hx hb dL_law_982 rfl ?_
    exact hgo WX WM _ _ _ _ _ _ _ _ _ hXI hMI hP hD hS hc hs
  · have hpot := l_pot hn.1 hL3 hL1 hc hs
    obtain ⟨fs, hh⟩ := hXI.hd WM
    refine q_call (pc := 958) (va_runV (As := [.int (xs (nI i + nI 1).toNatClampNeg), .int (xs (nI i + nI 2).toNatClampNeg), .int (xs (nI i + nI 3).toNatClampNeg)]) (rest := []) ⟨hx, hb, hml, hown, hts⟩ hM1 (cwV 3 hts gL_law_X10_steps rfl rfl rfl (by decide +kernel) ⟨Nat.le_of_ble_eq_true rfl, Nat.le_of_ble_eq_true rfl⟩) (q_preV (n1 := 0) (is1 := []) hK hA hZ hP hD hS rfl ⟨rfl, rfl, rfl⟩ 0 hh rfl) rfl rfl hl.1 rfl (lv_room (Nat.le_of_ble_eq_true rfl)) dL_law_958 (l_rm hn.2 hc hs (Nat.le_refl _) (by omega))) hS (fun t2 locs _ hB hS => ?_)
    have hc : cells + 2 ≤ 200 + nL := hpot.1
    have hs : 1000 * (slots + (nL + nL)) ≤ 45000000 + nL * nL + 2000 * nL := hpot.2
    obtain ⟨WX, hXI, hP, hD⟩ := hB
    refine lv_pop (pc := 961) hx hb dL_law_961 rfl ?_
    have hn := hXI.n
    have hP := l_swP hP
    have hD := l_swD hD
    refine lv_aload_n (pc := 962) hx hb dL_law_962 rfl (lv_at hl 1 rfl) ?_
    refine lv_aload_n (pc := 963) hx hb dL_law_963 rfl (lv_at hl 3 rfl) ?_
    refine lv_iload_n (pc := 964) hx hb dL_law_964 rfl (lv_at hl 0 rfl) ?_
    refine lv_iconst (pc := 965) (v := nI 1) hx hb dL_law_965 (by decide) ?_
    refine lv_iadd (pc := 966) hx hb dL_law_966 ?_
    refine va_sld (pc := 967) hx hb hX hbl hbA hS (l_in hi (show 1 < 8 by decide) hL) dL_law_967 ?_
    refine lv_aload_n (pc := 968) hx hb dL_law_968 rfl (lv_at hl 3 rfl) ?_
    refine lv_iload_n (pc := 969) hx hb dL_law_969 rfl (lv_at hl 0 rfl) ?_
    refine lv_iconst (pc := 970) (v := nI 2) hx hb dL_law_970 (by decide) ?_
    refine lv_iadd (pc := 971) hx hb dL_law_971 ?_
    refine va_sld (pc := 972) hx hb hX hbl hbA hS (l_in hi (show 2 < 8 by decide) hL) dL_law_972 ?_
    refine lv_aload_n (pc := 973) hx hb dL_law_973 rfl (lv_at hl 3 rfl) ?_
    refine lv_iload_n (pc := 974) hx hb dL_law_974 rfl (lv_at hl 0 rfl) ?_
    refine lv_iconst (pc := 975) (v := nI 3) hx hb dL_law_975 (by decide) ?_
    refine lv_iadd (pc := 976) hx hb dL_law_976 ?_
    refine va_sld (pc := 977) hx hb hX hbl hbA hS (l_in hi (show 3 < 8 by decide) hL) dL_law_977 ?_
    obtain ⟨r2, hM2⟩ := l_M_steps l D ci (fun q : Nat => s.heap.size ≤ q) sa WX hMI (xs (nI i + nI 1).toNatClampNeg) (xs (nI i + nI 2).toNatClampNeg) (xs (nI i + nI 3).toNatClampNeg)
    obtain ⟨fs, hh⟩ := hMI.hd WX
    refine q_call (pc := 978) (va_runV (As := [.int (xs (nI i + nI 1).toNatClampNeg), .int (xs (nI i + nI 2).toNatClampNeg), .int (xs (nI i + nI 3).toNatClampNeg)]) (rest := []) ⟨hx, hb, hml, hown, hts⟩ hM2 (cwV 3 hts gL_law_X11_steps rfl rfl rfl (by decide +kernel) ⟨Nat.le_of_ble_eq_true rfl, Nat.le_of_ble_eq_true rfl⟩) (q_preV (n1 := 0) (is1 := []) hK hA hZ hP hD hS rfl ⟨rfl, rfl, rfl⟩ 0 hh rfl) rfl rfl hl.1 rfl (lv_room (Nat.le_of_ble_eq_true rfl)) dL_law_978 (l_rm hn.2 hc hs (Nat.zero_le _) (Nat.zero_le _))) hS (fun t2 locs _ hB hS => ?_)
    obtain ⟨WM, hMI, hP, hD⟩ := hB
    have hP := l_swP hP
    have hD := l_swD hD
    refine lv_pop (pc := 981) hx hb dL_law_981 rfl ?_
    refine lv_goto (pc := 982) (tgt := 2146) hx hb dL_law_982 rfl ?_
    exact hgo WX WM _ _ _ _ _ _ _ _ _ hXI hMI hP hD hS hc hs
theorem law_17 (p : Program) (l : Launch) (e : Env) (s : State) (m : MethodId) (below : List Frame) (meth : Method) (c : Code) (b L : Nat) (xs : Nat → Int32) (D : va_G) (ci : Nat → ClassId) (sa : Nat → Nat) {a_x a_m i : Nat} {ls : Array Slot} (C0 : lL_C p l e s m below meth c b L xs D ci sa) (hi : i + 8 ≤ L) (hl : lv_has ls 4 [(3, .int (nI i)), (2, .ref a_m), (1, .ref a_x), (0, .ref b)]) (hgo : lL_go p l e s m below meth c b L xs D ci sa a_x a_m ls 2146) : lL_go p l e s m below meth c b L xs D ci sa a_x a_m ls 985 := by
  obtain ⟨hx, hb, hml, hown, hts, hX, hbl, hK, hZ, hret, hlocks, hL⟩ := C0
  intro WX WM t n s0 sv kv H locs cells slots hXI hMI hP hD hS hc hs
  have hA : ∀ q : Nat, s.heap.size ≤ q → (fun q : Nat => s.heap.size ≤ q) q := fun _ h => h
  have hbA : ¬ (fun q : Nat => s.heap.size ≤ q) b := Nat.not_le.mpr hbl
  have hn := hXI.n
  have hok := hXI.ok
  refine lv_aload_n (pc := 985) hx hb dL_law_985 rfl (lv_at hl 2 rfl) ?_
  refine lv_aload_n (pc := 986) hx hb dL_law_986 rfl (lv_at hl 3 rfl) ?_
  refine lv_iload_n (pc := 987) hx hb dL_law_987 rfl (lv_at hl 0 rfl) ?_
  refine lv_iconst (pc := 988) (v := nI 1) hx hb dL_law_988 (by decide) ?_
  refine lv_iadd (pc := 989) hx hb dL_law_989 ?_
  refine va_sld (pc := 990) hx hb hX hbl hbA hS (l_in hi (show 1 < 8 by decide) hL) dL_law_990 ?_
  refine lv_aload_n (pc := 991) hx hb dL_law_991 rfl (lv_at hl 3 rfl) ?_
  refine lv_iload_n (pc := 992) hx hb dL_law_992 rfl (lv_at hl 0 rfl) ?_
  refine lv_iconst (pc := 993) (v := nI 2) hx hb dL_law_993 (by decide) ?_
  refine lv_iadd (pc := 994) hx hb dL_law_994 ?_
  refine va_sld (pc := 995) hx hb hX hbl hbA hS (l_in hi (show 2 < 8 by decide) hL) dL_law_995 ?_
  refine lv_aload_n (pc := 996) hx hb dL_law_996 rfl (lv_at hl 3 rfl) ?_
  refine lv_iload_n (pc := 997) hx hb dL_law_997 rfl (lv_at hl 0 rfl) ?_
  refine lv_iconst (pc := 998) (v := nI 3) hx hb dL_law_998 (by decide) ?_
  refine lv_iadd (pc := 999) hx hb dL_law_999 ?_
  refine va_sld (pc := 1000) hx hb hX hbl hbA hS (l_in hi (show 3 < 8 by decide) hL) dL_law_1000 ?_
  refine lv_aload_n (pc := 1001) hx hb dL_law_1001 rfl (lv_at hl 3 rfl) ?_
  refine lv_iload_n (pc := 1002) hx hb dL_law_1002 rfl (lv_at hl 0 rfl) ?_
  refine lv_iconst (pc := 1003) (v := nI 4) hx hb dL_law_1003 (by decide) ?_
  refine lv_iadd (pc := 1004) hx hb dL_law_1004 ?_
  refine va_sld (pc := 1005) hx hb hX hbl hbA hS (l_in hi (show 4 < 8 by decide) hL) dL_law_1005 ?_
  rcases l_X_way l D ci (fun q : Nat => s.heap.size ≤ q) sa WM hXI (xs (nI i + nI 1).toNatClampNeg) (xs (nI i + nI 2).toNatClampNeg) (xs (nI i + nI 3).toNatClampNeg) (xs (nI i + nI 4).toNatClampNeg) with ⟨r, hM1⟩ | ⟨nL, r, hL1, hL2, hL3, hM1⟩
  · skip
    obtain ⟨fs, hh⟩ := hXI.hd WM
    refine q_call (pc := 1006) (va_runV (As := [.int (xs (nI i + nI 1).toNatClampNeg), .int (xs (nI i + nI 2).toNatClampNeg), .int (xs (nI i + nI 3).toNatClampNeg), .int (xs (nI i + nI 4).toNatClampNeg)]) (rest := []) ⟨hx, hb, hml, hown, hts⟩ hM1 (cwV 4 hts gL_law_X10_way rfl rfl rfl (by decide +kernel) ⟨Nat.le_of_ble_eq_true rfl, Nat.le_of_ble_eq_true rfl⟩) (q_preV (n1 := 0) (is1 := []) hK hA hZ hP hD hS rfl ⟨rfl, rfl, rfl⟩ 0 hh rfl) rfl rfl hl.1 rfl (lv_room (Nat.le_of_ble_eq_true rfl)) dL_law_1006 (l_rm hn.2 hc hs (Nat.zero_le _) (Nat.zero_le _))) hS (fun t2 locs _ hB hS => ?_)
    obtain ⟨WX, hXI, hP, hD⟩ := hB
    refine lv_pop (pc := 1009) hx hb dL_law_1009 rfl ?_
    have hP := l_swP hP
    have hD := l_swD hD
    refine lv_aload_n (pc := 1010) hx hb dL_law_1010 rfl (lv_at hl 1 rfl) ?_
    refine lv_aload_n (pc := 1011) hx hb dL_law_1011 rfl (lv_at hl 3 rfl) ?_
    refine lv_iload_n (pc := 1012) hx hb dL_law_1012 rfl (lv_at hl 0 rfl) ?_
    refine lv_iconst (pc := 1013) (v := nI 1) hx hb dL_law_1013 (by decide) ?_
    refine lv_iadd (pc := 1014) hx hb dL_law_1014 ?_
    refine va_sld (pc := 1015) hx hb hX hbl hbA hS (l_in hi (show 1 < 8 by decide) hL) dL_law_1015 ?_
    refine lv_aload_n (pc := 1016) hx hb dL_law_1016 rfl (lv_at hl 3 rfl) ?_
    refine lv_iload_n (pc := 1017) hx hb dL_law_1017 rfl (lv_at hl 0 rfl) ?_
    refine lv_iconst (pc := 1018) (v := nI 2) hx hb dL_law_1018 (by decide) ?_
    refine lv_iadd (pc := 1019) hx hb dL_law_1019 ?_
    refine va_sld (pc := 1020) hx hb hX hbl hbA hS (l_in hi (show 2 < 8 by decide) hL) dL_law_1020 ?_
    refine lv_aload_n (pc := 1021) hx hb dL_law_1021 rfl (lv_at hl 3 rfl) ?_
    refine lv_iload_n (pc := 1022) hx hb dL_law_1022 rfl (lv_at hl 0 rfl) ?_
    refine lv_iconst (pc := 1023) (v := nI 3) hx hb dL_law_1023 (by decide) ?_
    refine lv_iadd (pc := 1024) hx hb dL_law_1024 ?_
    refine va_sld (pc := 1025) hx hb hX hbl hbA hS (l_in hi (show 3 < 8 by decide) hL) dL_law_1025 ?_
    refine lv_aload_n (pc := 1026) hx hb dL_law_1026 rfl (lv_at hl 3 rfl) ?_
    refine lv_iload_n (pc := 1027) hx hb dL_law_1027 rfl (lv_at hl 0 rfl) ?_
    refine lv_iconst (pc := 1028) (v := nI 4) hx hb dL_law_1028 (by decide) ?_
    refine lv_iadd (pc := 1029) hx hb dL_law_1029 ?_
    refine va_sld (pc := 1030) hx hb hX hbl hbA hS (l_in hi (show 4 < 8 by decide) hL) dL_law_1030 ?_
    obtain ⟨r2, hM2⟩ := l_M_way l D ci (fun q : Nat => s.heap.size ≤ q) sa WX hMI (xs (nI i + nI 1).toNatClampNeg) (xs (nI i + nI 2).toNatClampNeg) (xs (nI i + nI 3).toNatClampNeg) (xs (nI i + nI 4).toNatClampNeg)
    obtain ⟨fs, hh⟩ := hMI.hd WX
    refine q_call (pc := 1031) (va_runV (As := [.int (xs (nI i + nI 1).toNatClampNeg), .int (xs (nI i + nI 2).toNatClampNeg), .int (xs (nI i + nI 3).toNatClampNeg), .int (xs (nI i + nI 4).toNatClampNeg)]) (rest := []) ⟨hx, hb, hml, hown, hts⟩ hM2 (cwV 4 hts gL_law_X11_way rfl rfl rfl (by decide +kernel) ⟨Nat.le_of_ble_eq_true rfl, Nat.le_of_ble_eq_true rfl⟩) (q_preV (n1 := 0) (is1 := []) hK hA hZ hP hD hS rfl ⟨rfl, rfl, rfl⟩ 0 hh rfl) rfl rfl hl.1 rfl (lv_room (Nat.le_of_ble_eq_true rfl)) dL_law_1031 (l_rm hn.2 hc hs (Nat.zero_le _) (Nat.zero_le _))) hS (fun t2 locs _ hB hS => ?_)
    obtain ⟨WM, hMI, hP, hD⟩ := hB
    have hP := l_swP hP
    have hD := l_swD hD
    refine lv_pop (pc := 1034) hx hb dL_law_1034 rfl ?_
    refine lv_goto (pc := 1035) (tgt := 2146) hx hb dL_law_1035 rfl ?_
    exact hgo WX WM _ _ _ _ _ _ _ _ _ hXI hMI hP hD hS hc hs
  · have hpot := l_pot hn.1 hL3 hL1 hc hs
    obtain ⟨fs, hh⟩ := hXI.hd WM
    refine q_call (pc := 1006) (va_runV (As := [.int (xs (nI i + nI 1).toNatClampNeg), .int (xs (nI i + nI 2).toNatClampNeg), .int (xs (nI i + nI 3).toNatClampNeg), .int (xs (nI i + nI 4).toNatClampNeg)]) (rest := []) ⟨hx, hb, hml, hown, hts⟩ hM1 (cwV 4 hts gL_law_X10_way rfl rfl rfl (by decide +kernel) ⟨Nat.le_of_ble_eq_true rfl, Nat.le_of_ble_eq_true rfl⟩) (q_preV (n1 := 0) (is1 := []) hK hA hZ hP hD hS rfl ⟨rfl, rfl, rfl⟩ 0 hh rfl) rfl rfl hl.1 rfl (lv_room (Nat.le_of_ble_eq_true rfl)) dL_law_1006 (l_rm hn.2 hc hs (Nat.le_refl _) (by omega))) hS (fun t2 locs _ hB hS => ?_)
    have hc : cells + 2 ≤ 200 + nL := hpot.1
    have hs : 1000 * (slots + (nL + nL)) ≤ 45000000 + nL * nL + 2000 * nL := hpot.2
    obtain ⟨WX, hXI, hP, hD⟩ := hB
    refine lv_pop (pc := 1009) hx hb dL_law_1009 rfl ?_
    have hn := hXI.n
    have hP := l_swP hP
    have hD := l_swD hD
    refine lv_aload_n (pc := 1010) hx hb dL_law_1010 rfl (lv_at hl 1 rfl) ?_
    refine lv_aload_n (pc := 1011) hx hb dL_law_1011 rfl (lv_at hl 3 rfl) ?_
    refine lv_iload_n (pc := 1012) hx hb dL_law_1012 rfl (lv_at hl 0 rfl) ?_
    refine lv_iconst (pc := 1013) (v := nI 1) hx hb dL_law_1013 (by decide) ?_
    refine lv_iadd (pc := 1014) hx hb dL_law_1014 ?_
    refine va_sld (pc := 1015) hx hb hX hbl hbA hS (l_in hi (show 1 < 8 by decide) hL) dL_law_1015 ?_
    refine lv_aload_n (pc := 1016) hx hb dL_law_1016 rfl (lv_at hl 3 rfl) ?_
    refine lv_iload_n (pc := 1017) hx hb dL_law_1017 rfl (lv_at hl 0 rfl) ?_
    refine lv_iconst (pc := 1018) (v := nI 2) hx hb dL_law_1018 (by decide) ?_
    refine lv_iadd (pc := 1019) hx hb dL_law_1019 ?_
    refine va_sld (pc := 1020) hx hb hX hbl hbA hS (l_in hi (show 2 < 8 by decide) hL) dL_law_1020 ?_
    refine lv_aload_n (pc := 1021) hx hb dL_law_1021 rfl (lv_at hl 3 rfl) ?_
    refine lv_iload_n (pc := 1022) hx hb dL_law_1022 rfl (lv_at hl 0 rfl) ?_
    refine lv_iconst (pc := 1023) (v := nI 3) hx hb dL_law_1023 (by decide) ?_
    refine lv_iadd (pc := 1024) hx hb dL_law_1024 ?_
    refine va_sld (pc := 1025) hx hb hX hbl hbA hS (l_in hi (show 3 < 8 by decide) hL) dL_law_1025 ?_
    refine lv_aload_n (pc := 1026) hx hb dL_law_1026 rfl (lv_at hl 3 rfl) ?_
    refine lv_iload_n (pc := 1027) hx hb dL_law_1027 rfl (lv_at hl 0 rfl) ?_
    refine lv_iconst (pc := 1028) (v := nI 4) hx hb dL_law_1028 (by decide) ?_
    refine lv_iadd (pc := 1029) hx hb dL_law_1029 ?_
    refine va_sld (pc := 1030) hx hb hX hbl hbA hS (l_in hi (show 4 < 8 by decide) hL) dL_law_1030 ?_
    obtain ⟨r2, hM2⟩ := l_M_way l D ci (fun q : Nat => s.heap.size ≤ q) sa WX hMI (xs (nI i + nI 1).toNatClampNeg) (xs (nI i + nI 2).toNatClampNeg) (xs (nI i + nI 3).toNatClampNeg) (xs (nI i + nI 4).toNatClampNeg)
    obtain ⟨fs, hh⟩ := hMI.hd WX
    refine q_call (pc := 1031) (va_runV (As := [.int (xs (nI i + nI 1).toNatClampNeg), .int (xs (nI i + nI 2).toNatClampNeg), .int (xs (nI i + nI 3).toNatClampNeg), .int (xs (nI i + nI 4).toNatClampNeg)]) (rest := []) ⟨hx, hb, hml, hown, hts⟩ hM2 (cwV 4 hts gL_law_X11_way rfl rfl rfl (by decide +kernel) ⟨Nat.le_of_ble_eq_true rfl, Nat.le_of_ble_eq_true rfl⟩) (q_preV (n1 := 0) (is1 := []) hK hA hZ hP hD hS rfl ⟨rfl, rfl, rfl⟩ 0 hh rfl) rfl rfl hl.1 rfl (lv_room (Nat.le_of_ble_eq_true rfl)) dL_law_1031 (l_rm hn.2 hc hs (Nat.zero_le _) (Nat.zero_le _))) hS (fun t2 locs _ hB hS => ?_)
    obtain ⟨WM, hMI, hP, hD⟩ := hB
    have hP := l_swP hP
    have hD := l_swD hD
    refine lv_pop (pc := 1034) hx hb dL_law_1034 rfl ?_
    refine lv_goto (pc := 1035) (tgt := 2146) hx hb dL_law_1035 rfl ?_
    exact hgo WX WM _ _ _ _ _ _ _ _ _ hXI hMI hP hD hS hc hs
theorem law_18 (p : Program) (l : Launch) (e : Env) (s : State) (m : MethodId) (below : List Frame) (meth : Method) (c : Code) (b L : Nat) (xs : Nat → Int32) (D : va_G) (ci : Nat → ClassId) (sa : Nat → Nat) {a_x a_m i : Nat} {ls : Array Slot} (C0 : lL_C p l e s m below meth c b L xs D ci sa) (hi : i + 8 ≤ L) (hl : lv_has ls 4 [(3, .int (nI i)), (2, .ref a_m), (1, .ref a_x), (0, .ref b)]) (hgo : lL_go p l e s m below meth c b L xs D ci sa a_x a_m ls 2146) : lL_go p l e s m below meth c b L xs D ci sa a_x a_m ls 1038 := by
  obtain ⟨hx, hb, hml, hown, hts, hX, hbl, hK, hZ, hret, hlocks, hL⟩ := C0
  intro WX WM t n s0 sv kv H locs cells slots hXI hMI hP hD hS hc hs
  have hA : ∀ q : Nat, s.heap.size ≤ q → (fun q : Nat => s.heap.size ≤ q) q := fun _ h => h
  have hbA : ¬ (fun q : Nat => s.heap.size ≤ q) b := Nat.not_le.mpr hbl
  have hn := hXI.n
  have hok := hXI.ok
  refine lv_aload_n (pc := 1038) hx hb dL_law_1038 rfl (lv_at hl 2 rfl) ?_
  refine lv_aload_n (pc := 1039) hx hb dL_law_1039 rfl (lv_at hl 3 rfl) ?_
  refine lv_iload_n (pc := 1040) hx hb dL_law_1040 rfl (lv_at hl 0 rfl) ?_
  refine lv_iconst (pc := 1041) (v := nI 1) hx hb dL_law_1041 (by decide) ?_
  refine lv_iadd (pc := 1042) hx hb dL_law_1042 ?_
  refine va_sld (pc := 1043) hx hb hX hbl hbA hS (l_in hi (show 1 < 8 by decide) hL) dL_law_1043 ?_
  refine lv_aload_n (pc := 1044) hx hb dL_law_1044 rfl (lv_at hl 3 rfl) ?_
  refine lv_iload_n (pc := 1045) hx hb dL_law_1045 rfl (lv_at hl 0 rfl) ?_
  refine lv_iconst (pc := 1046) (v := nI 2) hx hb dL_law_1046 (by decide) ?_
  refine lv_iadd (pc := 1047) hx hb dL_law_1047 ?_
  refine va_sld (pc := 1048) hx hb hX hbl hbA hS (l_in hi (show 2 < 8 by decide) hL) dL_law_1048 ?_
  refine lv_aload_n (pc := 1049) hx hb dL_law_1049 rfl (lv_at hl 3 rfl) ?_
  refine lv_iload_n (pc := 1050) hx hb dL_law_1050 rfl (lv_at hl 0 rfl) ?_
  refine lv_iconst (pc := 1051) (v := nI 3) hx hb dL_law_1051 (by decide) ?_
  refine lv_iadd (pc := 1052) hx hb dL_law_1052 ?_
  refine va_sld (pc := 1053) hx hb hX hbl hbA hS (l_in hi (show 3 < 8 by decide) hL) dL_law_1053 ?_
  rcases l_X_reach l D ci (fun q : Nat => s.heap.size ≤ q) sa WM hXI (xs (nI i + nI 1).toNatClampNeg) (xs (nI i + nI 2).toNatClampNeg) (xs (nI i + nI 3).toNatClampNeg) with ⟨r, hM1⟩ | ⟨nL, r, hL1, hL2, hL3, hM1⟩
  · skip
    obtain ⟨fs, hh⟩ := hXI.hd WM
    refine q_call (pc := 1054) (va_runV (As := [.int (xs (nI i + nI 1).toNatClampNeg), .int (xs (nI i + nI 2).toNatClampNeg), .int (xs (nI i + nI 3).toNatClampNeg)]) (rest := []) ⟨hx, hb, hml, hown, hts⟩ hM1 (cwV 3 hts gL_law_X10_reach rfl rfl rfl (by decide +kernel) ⟨Nat.le_of_ble_eq_true rfl, Nat.le_of_ble_eq_true rfl⟩) (q_preV (n1 := 0) (is1 := []) hK hA hZ hP hD hS rfl ⟨rfl, rfl, rfl⟩ 0 hh rfl) rfl rfl hl.1 rfl (lv_room (Nat.le_of_ble_eq_true rfl)) dL_law_1054 (l_rm hn.2 hc hs (Nat.zero_le _) (Nat.zero_le _))) hS (fun t2 locs _ hB hS => ?_)
    obtain ⟨WX, hXI, hP, hD⟩ := hB
    refine lv_pop (pc := 1057) hx hb dL_law_1057 rfl ?_
    have hP := l_swP hP
    have hD := l_swD hD
    refine lv_aload_n (pc := 1058) hx hb dL_law_1058 rfl (lv_at hl 1 rfl) ?_
    refine lv_aload_n (pc := 1059) hx hb dL_law_1059 rfl (lv_at hl 3 rfl) ?_
    refine lv_iload_n (pc := 1060) hx hb dL_law_1060 rfl (lv_at hl 0 rfl) ?_
    refine lv_iconst (pc := 1061) (v := nI 1) hx hb dL_law_1061 (by decide) ?_
    refine lv_iadd (pc := 1062) hx hb dL_law_1062 ?_
    refine va_sld (pc := 1063) hx hb hX hbl hbA hS (l_in hi (show 1 < 8 by decide) hL) dL_law_1063 ?_
    refine lv_aload_n (pc := 1064) hx hb dL_law_1064 rfl (lv_at hl 3 rfl) ?_
    refine lv_iload_n (pc := 1065) hx hb dL_law_1065 rfl (lv_at hl 0 rfl) ?_
    refine lv_iconst (pc := 1066) (v := nI 2) hx hb dL_law_1066 (by decide) ?_
    refine lv_iadd (pc := 1067) hx hb dL_law_1067 ?_
    refine va_sld (pc := 1068) hx hb hX hbl hbA hS (l_in hi (show 2 < 8 by decide) hL) dL_law_1068 ?_
    refine lv_aload_n (pc := 1069) hx hb dL_law_1069 rfl (lv_at hl 3 rfl) ?_
    refine lv_iload_n (pc := 1070) hx hb dL_law_1070 rfl (lv_at hl 0 rfl) ?_
    refine lv_iconst (pc := 1071) (v := nI 3) hx hb dL_law_1071 (by decide) ?_
    refine lv_iadd (pc := 1072) hx hb dL_law_1072 ?_
    refine va_sld (pc := 1073) hx hb hX hbl hbA hS (l_in hi (show 3 < 8 by decide) hL) dL_law_1073 ?_
    obtain ⟨r2, hM2⟩ := l_M_reach l D ci (fun q : Nat => s.heap.size ≤ q) sa WX hMI (xs (nI i + nI 1).toNatClampNeg) (xs (nI i + nI 2).toNatClampNeg) (xs (nI i + nI 3).toNatClampNeg)
    obtain ⟨fs, hh⟩ := hMI.hd WX
    refine q_call (pc := 1074) (va_runV (As := [.int (xs (nI i + nI 1).toNatClampNeg), .int (xs (nI i + nI 2).toNatClampNeg), .int (xs (nI i + nI 3).toNatClampNeg)]) (rest := []) ⟨hx, hb, hml, hown, hts⟩ hM2 (cwV 3 hts gL_law_X11_reach rfl rfl rfl (by decide +kernel) ⟨Nat.le_of_ble_eq_true rfl, Nat.le_of_ble_eq_true rfl⟩) (q_preV (n1 := 0) (is1 := []) hK hA hZ hP hD hS rfl ⟨rfl, rfl, rfl⟩ 0 hh rfl) rfl rfl hl.1 rfl (lv_room (Nat.le_of_ble_eq_true rfl)) dL_law_1074 (l_rm hn.2 hc hs (Nat.zero_le _) (Nat.zero_le _))) hS (fun t2 locs _ hB hS => ?_)
    obtain ⟨WM, hMI, hP, hD⟩ := hB
    have hP := l_swP hP
    have hD := l_swD hD
    refine lv_pop (pc := 1077) hx hb dL_law_1077 rfl ?_
    refine lv_goto (pc := 1078) (tgt := 2146) hx hb dL_law_1078 rfl ?_
    exact hgo WX WM _ _ _ _ _ _ _ _ _ hXI hMI hP hD hS hc hs
  · have hpot := l_pot hn.1 hL3 hL1 hc hs
    obtain ⟨fs, hh⟩ := hXI.hd WM
    refine q_call (pc := 1054) (va_runV (As := [.int (xs (nI i + nI 1).toNatClampNeg), .int (xs (nI i + nI 2).toNatClampNeg), .int (xs (nI i + nI 3).toNatClampNeg)]) (rest := []) ⟨hx, hb, hml, hown, hts⟩ hM1 (cwV 3 hts gL_law_X10_reach rfl rfl rfl (by decide +kernel) ⟨Nat.le_of_ble_eq_true rfl, Nat.le_of_ble_eq_true rfl⟩) (q_preV (n1 := 0) (is1 := []) hK hA hZ hP hD hS rfl ⟨rfl, rfl, rfl⟩ 0 hh rfl) rfl rfl hl.1 rfl (lv_room (Nat.le_of_ble_eq_true rfl)) dL_law_1054 (l_rm hn.2 hc hs (Nat.le_refl _) (by omega))) hS (fun t2 locs _ hB hS => ?_)
    have hc : cells + 2 ≤ 200 + nL := hpot.1
    have hs : 1000 * (slots + (nL + nL)) ≤ 45000000 + nL * nL + 2000 * nL := hpot.2
    obtain ⟨WX, hXI, hP, hD⟩ := hB
    refine lv_pop (pc := 1057) hx hb dL_law_1057 rfl ?_
    have hn := hXI.n
    have hP := l_swP hP
    have hD := l_swD hD
    refine lv_aload_n (pc := 1058) hx hb dL_law_1058 rfl (lv_at hl 1 rfl) ?_
    refine lv_aload_n (pc := 1059) hx hb dL_law_1059 rfl (lv_at hl 3 rfl) ?_
    refine lv_iload_n (pc := 1060) hx hb dL_law_1060 rfl (lv_at hl 0 rfl) ?_
    refine lv_iconst (pc := 1061) (v := nI 1) hx hb dL_law_1061 (by decide) ?_
    refine lv_iadd (pc := 1062) hx hb dL_law_1062 ?_
    refine va_sld (pc := 1063) hx hb hX hbl hbA hS (l_in hi (show 1 < 8 by decide) hL) dL_law_1063 ?_
    refine lv_aload_n (pc := 1064) hx hb dL_law_1064 rfl (lv_at hl 3 rfl) ?_
    refine lv_iload_n (pc := 1065) hx hb dL_law_1065 rfl (lv_at hl 0 rfl) ?_
    refine lv_iconst (pc := 1066) (v := nI 2) hx hb dL_law_1066 (by decide) ?_
    refine lv_iadd (pc := 1067) hx hb dL_law_1067 ?_
    refine va_sld (pc := 1068) hx hb hX hbl hbA hS (l_in hi (show 2 < 8 by decide) hL) dL_law_1068 ?_
    refine lv_aload_n (pc := 1069) hx hb dL_law_1069 rfl (lv_at hl 3 rfl) ?_
    refine lv_iload_n (pc := 1070) hx hb dL_law_1070 rfl (lv_at hl 0 rfl) ?_
    refine lv_iconst (pc := 1071) (v := nI 3) hx hb dL_law_1071 (by decide) ?_
    refine lv_iadd (pc := 1072) hx hb dL_law_1072 ?_
    refine va_sld (pc := 1073) hx hb hX hbl hbA hS (l_in hi (show 3 < 8 by decide) hL) dL_law_1073 ?_
    obtain ⟨r2, hM2⟩ := l_M_reach l D ci (fun q : Nat => s.heap.size ≤ q) sa WX hMI (xs (nI i + nI 1).toNatClampNeg) (xs (nI i + nI 2).toNatClampNeg) (xs (nI i + nI 3).toNatClampNeg)
    obtain ⟨fs, hh⟩ := hMI.hd WX
    refine q_call (pc := 1074) (va_runV (As := [.int (xs (nI i + nI 1).toNatClampNeg), .int (xs (nI i + nI 2).toNatClampNeg), .int (xs (nI i + nI 3).toNatClampNeg)]) (rest := []) ⟨hx, hb, hml, hown, hts⟩ hM2 (cwV 3 hts gL_law_X11_reach rfl rfl rfl (by decide +kernel) ⟨Nat.le_of_ble_eq_true rfl, Nat.le_of_ble_eq_true rfl⟩) (q_preV (n1 := 0) (is1 := []) hK hA hZ hP hD hS rfl ⟨rfl, rfl, rfl⟩ 0 hh rfl) rfl rfl hl.1 rfl (lv_room (Nat.le_of_ble_eq_true rfl)) dL_law_1074 (l_rm hn.2 hc hs (Nat.zero_le _) (Nat.zero_le _))) hS (fun t2 locs _ hB hS => ?_)
    obtain ⟨WM, hMI, hP, hD⟩ := hB
    have hP := l_swP hP
    have hD := l_swD hD
    refine lv_pop (pc := 1077) hx hb dL_law_1077 rfl ?_
    refine lv_goto (pc := 1078) (tgt := 2146) hx hb dL_law_1078 rfl ?_
    exact hgo WX WM _ _ _ _ _ _ _ _ _ hXI hMI hP hD hS hc hs
theorem law_19 (p : Program) (l : Launch) (e : Env) (s : State) (m : MethodId) (below : List Frame) (meth : Method) (c : Code) (b L : Nat) (xs : Nat → Int32) (D : va_G) (ci : Nat → ClassId) (sa : Nat → Nat) {a_x a_m i : Nat} {ls : Array Slot} (C0 : lL_C p l e s m below meth c b L xs D ci sa) (hi : i + 8 ≤ L) (hl : lv_has ls 4 [(3, .int (nI i)), (2, .ref a_m), (1, .ref a_x), (0, .ref b)]) (hgo : lL_go p l e s m below meth c b L xs D ci sa a_x a_m ls 2146) : lL_go p l e s m below meth c b L xs D ci sa a_x a_m ls 1081 := by
  obtain ⟨hx, hb, hml, hown, hts, hX, hbl, hK, hZ, hret, hlocks, hL⟩ := C0
  intro WX WM t n s0 sv kv H locs cells slots hXI hMI hP hD hS hc hs
  have hA : ∀ q : Nat, s.heap.size ≤ q → (fun q : Nat => s.heap.size ≤ q) q := fun _ h => h
  have hbA : ¬ (fun q : Nat => s.heap.size ≤ q) b := Nat.not_le.mpr hbl
  have hn := hXI.n
  have hok := hXI.ok
  refine lv_aload_n (pc := 1081) hx hb dL_law_1081 rfl (lv_at hl 2 rfl) ?_
  refine lv_aload_n (pc := 1082) hx hb dL_law_1082 rfl (lv_at hl 3 rfl) ?_
  refine lv_iload_n (pc := 1083) hx hb dL_law_1083 rfl (lv_at hl 0 rfl) ?_
  refine lv_iconst (pc := 1084) (v := nI 1) hx hb dL_law_1084 (by decide) ?_
  refine lv_iadd (pc := 1085) hx hb dL_law_1085 ?_
  refine va_sld (pc := 1086) hx hb hX hbl hbA hS (l_in hi (show 1 < 8 by decide) hL) dL_law_1086 ?_
  refine lv_aload_n (pc := 1087) hx hb dL_law_1087 rfl (lv_at hl 3 rfl) ?_
  refine lv_iload_n (pc := 1088) hx hb dL_law_1088 rfl (lv_at hl 0 rfl) ?_
  refine lv_iconst (pc := 1089) (v := nI 2) hx hb dL_law_1089 (by decide) ?_
  refine lv_iadd (pc := 1090) hx hb dL_law_1090 ?_
  refine va_sld (pc := 1091) hx hb hX hbl hbA hS (l_in hi (show 2 < 8 by decide) hL) dL_law_1091 ?_
  refine lv_aload_n (pc := 1092) hx hb dL_law_1092 rfl (lv_at hl 3 rfl) ?_
  refine lv_iload_n (pc := 1093) hx hb dL_law_1093 rfl (lv_at hl 0 rfl) ?_
  refine lv_iconst (pc := 1094) (v := nI 3) hx hb dL_law_1094 (by decide) ?_
  refine lv_iadd (pc := 1095) hx hb dL_law_1095 ?_
  refine va_sld (pc := 1096) hx hb hX hbl hbA hS (l_in hi (show 3 < 8 by decide) hL) dL_law_1096 ?_
  rcases l_X_farthest l D ci (fun q : Nat => s.heap.size ≤ q) sa WM hXI (xs (nI i + nI 1).toNatClampNeg) (xs (nI i + nI 2).toNatClampNeg) (xs (nI i + nI 3).toNatClampNeg) with ⟨r, hM1⟩ | ⟨nL, r, hL1, hL2, hL3, hM1⟩
  · skip
    obtain ⟨fs, hh⟩ := hXI.hd WM
    refine q_call (pc := 1097) (va_runV (As := [.int (xs (nI i + nI 1).toNatClampNeg), .int (xs (nI i + nI 2).toNatClampNeg), .int (xs (nI i + nI 3).toNatClampNeg)]) (rest := []) ⟨hx, hb, hml, hown, hts⟩ hM1 (cwV 3 hts gL_law_X10_farthest rfl rfl rfl (by decide +kernel) ⟨Nat.le_of_ble_eq_true rfl, Nat.le_of_ble_eq_true rfl⟩) (q_preV (n1 := 0) (is1 := []) hK hA hZ hP hD hS rfl ⟨rfl, rfl, rfl⟩ 0 hh rfl) rfl rfl hl.1 rfl (lv_room (Nat.le_of_ble_eq_true rfl)) dL_law_1097 (l_rm hn.2 hc hs (Nat.zero_le _) (Nat.zero_le _))) hS (fun t2 locs _ hB hS => ?_)
    obtain ⟨WX, hXI, hP, hD⟩ := hB
    refine lv_pop (pc := 1100) hx hb dL_law_1100 rfl ?_
    have hP := l_swP hP
    have hD := l_swD hD
    refine lv_aload_n (pc := 1101) hx hb dL_law_1101 rfl (lv_at hl 1 rfl) ?_
    refine lv_aload_n (pc := 1102) hx hb dL_law_1102 rfl (lv_at hl 3 rfl) ?_
    refine lv_iload_n (pc := 1103) hx hb dL_law_1103 rfl (lv_at hl 0 rfl) ?_
    refine lv_iconst (pc := 1104) (v := nI 1) hx hb dL_law_1104 (by decide) ?_
    refine lv_iadd (pc := 1105) hx hb dL_law_1105 ?_
    refine va_sld (pc := 1106) hx hb hX hbl hbA hS (l_in hi (show 1 < 8 by decide) hL) dL_law_1106 ?_
    refine lv_aload_n (pc := 1107) hx hb dL_law_1107 rfl (lv_at hl 3 rfl) ?_
    refine lv_iload_n (pc := 1108) hx hb dL_law_1108 rfl (lv_at hl 0 rfl) ?_
    refine lv_iconst (pc := 1109) (v := nI 2) hx hb dL_law_1109 (by decide) ?_
    refine lv_iadd (pc := 1110) hx hb dL_law_1110 ?_
    refine va_sld (pc := 1111) hx hb hX hbl hbA hS (l_in hi (show 2 < 8 by decide) hL) dL_law_1111 ?_
    refine lv_aload_n (pc := 1112) hx hb dL_law_1112 rfl (lv_at hl 3 rfl) ?_
    refine lv_iload_n (pc := 1113) hx hb dL_law_1113 rfl (lv_at hl 0 rfl) ?_
    refine lv_iconst (pc := 1114) (v := nI 3) hx hb dL_law_1114 (by decide) ?_
    refine lv_iadd (pc := 1115) hx hb dL_law_1115 ?_
    refine va_sld (pc := 1116) hx hb hX hbl hbA hS (l_in hi (show 3 < 8 by decide) hL) dL_law_1116 ?_
    obtain ⟨r2, hM2⟩ := l_M_farthest l D ci (fun q : Nat => s.heap.size ≤ q) sa WX hMI (xs (nI i + nI 1).toNatClampNeg) (xs (nI i + nI 2).toNatClampNeg) (xs (nI i + nI 3).toNatClampNeg)
    obtain ⟨fs, hh⟩ := hMI.hd WX
    refine q_call (pc := 1117) (va_runV (As := [.int (xs (nI i + nI 1).toNatClampNeg), .int (xs (nI i + nI 2).toNatClampNeg), .int (xs (nI i + nI 3).toNatClampNeg)]) (rest := []) ⟨hx, hb, hml, hown, hts⟩ hM2 (cwV 3 hts gL_law_X11_farthest rfl rfl rfl (by decide +kernel) ⟨Nat.le_of_ble_eq_true rfl, Nat.le_of_ble_eq_true rfl⟩) (q_preV (n1 := 0) (is1 := []) hK hA hZ hP hD hS rfl ⟨rfl, rfl, rfl⟩ 0 hh rfl) rfl rfl hl.1 rfl (lv_room (Nat.le_of_ble_eq_true rfl)) dL_law_1117 (l_rm hn.2 hc hs (Nat.zero_le _) (Nat.zero_le _))) hS (fun t2 locs _ hB hS => ?_)
    obtain ⟨WM, hMI, hP, hD⟩ := hB
    have hP := l_swP hP
    have hD := l_swD hD
    refine lv_pop (pc := 1120) hx hb dL_law_1120 rfl ?_
    refine lv_goto (pc := 1121) (tgt := 2146) hx hb dL_law_1121 rfl ?_
    exact hgo WX WM _ _ _ _ _ _ _ _ _ hXI hMI hP hD hS hc hs
  · have hpot := l_pot hn.1 hL3 hL1 hc hs
    obtain ⟨fs, hh⟩ := hXI.hd WM
    refine q_call (pc := 1097) (va_runV (As := [.int (xs (nI i + nI 1).toNatClampNeg), .int (xs (nI i + nI 2).toNatClampNeg), .int (xs (nI i + nI 3).toNatClampNeg)]) (rest := []) ⟨hx, hb, hml, hown, hts⟩ hM1 (cwV 3 hts gL_law_X10_farthest rfl rfl rfl (by decide +kernel) ⟨Nat.le_of_ble_eq_true rfl, Nat.le_of_ble_eq_true rfl⟩) (q_preV (n1 := 0) (is1 := []) hK hA hZ hP hD hS rfl ⟨rfl, rfl, rfl⟩ 0 hh rfl) rfl rfl hl.1 rfl (lv_room (Nat.le_of_ble_eq_true rfl)) dL_law_1097 (l_rm hn.2 hc hs (Nat.le_refl _) (by omega))) hS (fun t2 locs _ hB hS => ?_)
    have hc : cells + 2 ≤ 200 + nL := hpot.1
    have hs : 1000 * (slots + (nL + nL)) ≤ 45000000 + nL * nL + 2000 * nL := hpot.2
    obtain ⟨WX, hXI, hP, hD⟩ := hB
    refine lv_pop (pc := 1100) hx hb dL_law_1100 rfl ?_
    have hn := hXI.n
    have hP := l_swP hP
    have hD := l_swD hD
    refine lv_aload_n (pc := 1101) hx hb dL_law_1101 rfl (lv_at hl 1 rfl) ?_
    refine lv_aload_n (pc := 1102) hx hb dL_law_1102 rfl (lv_at hl 3 rfl) ?_
    refine lv_iload_n (pc := 1103) hx hb dL_law_1103 rfl (lv_at hl 0 rfl) ?_
    refine lv_iconst (pc := 1104) (v := nI 1) hx hb dL_law_1104 (by decide) ?_
    refine lv_iadd (pc := 1105) hx hb dL_law_1105 ?_
    refine va_sld (pc := 1106) hx hb hX hbl hbA hS (l_in hi (show 1 < 8 by decide) hL) dL_law_1106 ?_
    refine lv_aload_n (pc := 1107) hx hb dL_law_1107 rfl (lv_at hl 3 rfl) ?_
    refine lv_iload_n (pc := 1108) hx hb dL_law_1108 rfl (lv_at hl 0 rfl) ?_
    refine lv_iconst (pc := 1109) (v := nI 2) hx hb dL_law_1109 (by decide) ?_
    refine lv_iadd (pc := 1110) hx hb dL_law_1110 ?_
    refine va_sld (pc := 1111) hx hb hX hbl hbA hS (l_in hi (show 2 < 8 by decide) hL) dL_law_1111 ?_
    refine lv_aload_n (pc := 1112) hx hb dL_law_1112 rfl (lv_at hl 3 rfl) ?_
    refine lv_iload_n (pc := 1113) hx hb dL_law_1113 rfl (lv_at hl 0 rfl) ?_
    refine lv_iconst (pc := 1114) (v := nI 3) hx hb dL_law_1114 (by decide) ?_
    refine lv_iadd (pc := 1115) hx hb dL_law_1115 ?_
    refine va_sld (pc := 1116) hx hb hX hbl hbA hS (l_in hi (show 3 < 8 by decide) hL) dL_law_1116 ?_
    obtain ⟨r2, hM2⟩ := l_M_farthest l D ci (fun q : Nat => s.heap.size ≤ q) sa WX hMI (xs (nI i + nI 1).toNatClampNeg) (xs (nI i + nI 2).toNatClampNeg) (xs (nI i + nI 3).toNatClampNeg)
    obtain ⟨fs, hh⟩ := hMI.hd WX
    refine q_call (pc := 1117) (va_runV (As := [.int (xs (nI i + nI 1).toNatClampNeg), .int (xs (nI i + nI 2).toNatClampNeg), .int (xs (nI i + nI 3).toNatClampNeg)]) (rest := []) ⟨hx, hb, hml, hown, hts⟩ hM2 (cwV 3 hts gL_law_X11_farthest rfl rfl rfl (by decide +kernel) ⟨Nat.le_of_ble_eq_true rfl, Nat.le_of_ble_eq_true rfl⟩) (q_preV (n1 := 0) (is1 := []) hK hA hZ hP hD hS rfl ⟨rfl, rfl, rfl⟩ 0 hh rfl) rfl rfl hl.1 rfl (lv_room (Nat.le_of_ble_eq_true rfl)) dL_law_1117 (l_rm hn.2 hc hs (Nat.zero_le _) (Nat.zero_le _))) hS (fun t2 locs _ hB hS => ?_)
    obtain ⟨WM, hMI, hP, hD⟩ := hB
    have hP := l_swP hP
    have hD := l_swD hD
    refine lv_pop (pc := 1120) hx hb dL_law_1120 rfl ?_
    refine lv_goto (pc := 1121) (tgt := 2146) hx hb dL_law_1121 rfl ?_
    exact hgo WX WM _ _ _ _ _ _ _ _ _ hXI hMI hP hD hS hc hs
theorem law_20 (p : Program) (l : Launch) (e : Env) (s : State) (m : MethodId) (below : List Frame) (meth : Method) (c : Code) (b L : Nat) (xs : Nat → Int32) (D : va_G) (ci : Nat → ClassId) (sa : Nat → Nat) {a_x a_m i : Nat} {ls : Array Slot} (C0 : lL_C p l e s m below meth c b L xs D ci sa) (hi : i + 8 ≤ L) (hl : lv_has ls 4 [(3, .int (nI i)), (2, .ref a_m), (1, .ref a_x), (0, .ref b)]) (hgo : lL_go p l e s m below meth c b L xs D ci sa a_x a_m ls 2146) : lL_go p l e s m below meth c b L xs D ci sa a_x a_m ls 1124 := by
  obtain ⟨hx, hb, hml, hown, hts, hX, hbl, hK, hZ, hret, hlocks, hL⟩ := C0
  intro WX WM t n s0 sv kv H locs cells slots hXI hMI hP hD hS hc hs
  have hA : ∀ q : Nat, s.heap.size ≤ q → (fun q : Nat => s.heap.size ≤ q) q := fun _ h => h
  have hbA : ¬ (fun q : Nat => s.heap.size ≤ q) b := Nat.not_le.mpr hbl
  have hn := hXI.n
  have hok := hXI.ok
  refine lv_aload_n (pc := 1124) hx hb dL_law_1124 rfl (lv_at hl 2 rfl) ?_
  refine lv_aload_n (pc := 1125) hx hb dL_law_1125 rfl (lv_at hl 3 rfl) ?_
  refine lv_iload_n (pc := 1126) hx hb dL_law_1126 rfl (lv_at hl 0 rfl) ?_
  refine lv_iconst (pc := 1127) (v := nI 1) hx hb dL_law_1127 (by decide) ?_
  refine lv_iadd (pc := 1128) hx hb dL_law_1128 ?_
  refine va_sld (pc := 1129) hx hb hX hbl hbA hS (l_in hi (show 1 < 8 by decide) hL) dL_law_1129 ?_
  refine lv_aload_n (pc := 1130) hx hb dL_law_1130 rfl (lv_at hl 3 rfl) ?_
  refine lv_iload_n (pc := 1131) hx hb dL_law_1131 rfl (lv_at hl 0 rfl) ?_
  refine lv_iconst (pc := 1132) (v := nI 2) hx hb dL_law_1132 (by decide) ?_
  refine lv_iadd (pc := 1133) hx hb dL_law_1133 ?_
  refine va_sld (pc := 1134) hx hb hX hbl hbA hS (l_in hi (show 2 < 8 by decide) hL) dL_law_1134 ?_
  refine lv_aload_n (pc := 1135) hx hb dL_law_1135 rfl (lv_at hl 3 rfl) ?_
  refine lv_iload_n (pc := 1136) hx hb dL_law_1136 rfl (lv_at hl 0 rfl) ?_
  refine lv_iconst (pc := 1137) (v := nI 3) hx hb dL_law_1137 (by decide) ?_
  refine lv_iadd (pc := 1138) hx hb dL_law_1138 ?_
  refine va_sld (pc := 1139) hx hb hX hbl hbA hS (l_in hi (show 3 < 8 by decide) hL) dL_law_1139 ?_
  obtain ⟨r, hr, hM1⟩ := l_X_corners l D ci (fun q : Nat => s.heap.size ≤ q) sa WM hXI (xs (nI i + nI 1).toNatClampNeg) (xs (nI i + nI 2).toNatClampNeg) (xs (nI i + nI 3).toNatClampNeg)
  obtain ⟨fs, hh⟩ := hXI.hd WM
  refine q_call (pc := 1140) (va_runV (As := [.int (xs (nI i + nI 1).toNatClampNeg), .int (xs (nI i + nI 2).toNatClampNeg), .int (xs (nI i + nI 3).toNatClampNeg)]) (rest := []) ⟨hx, hb, hml, hown, hts⟩ hM1 (cwV 3 hts gL_law_X10_corners rfl rfl rfl (by decide +kernel) ⟨Nat.le_of_ble_eq_true rfl, Nat.le_of_ble_eq_true rfl⟩) (q_preV (n1 := 0) (is1 := []) hK hA hZ hP hD hS rfl ⟨rfl, rfl, rfl⟩ 0 hh rfl) rfl rfl hl.1 rfl (lv_room (Nat.le_of_ble_eq_true rfl)) dL_law_1140 (l_rm hn.2 hc hs (Nat.zero_le _) (Nat.zero_le _))) hS (fun t2 locs _ hB hS => ?_)
  obtain ⟨WX, hXI, hP, hD⟩ := hB
  have hP := l_swP hP
  have hD := l_swD hD
  refine lv_aload_n (pc := 1143) hx hb dL_law_1143 rfl (lv_at hl 1 rfl) ?_
  refine lv_aload_n (pc := 1144) hx hb dL_law_1144 rfl (lv_at hl 3 rfl) ?_
  refine lv_iload_n (pc := 1145) hx hb dL_law_1145 rfl (lv_at hl 0 rfl) ?_
  refine lv_iconst (pc := 1146) (v := nI 1) hx hb dL_law_1146 (by decide) ?_
  refine lv_iadd (pc := 1147) hx hb dL_law_1147 ?_
  refine va_sld (pc := 1148) hx hb hX hbl hbA hS (l_in hi (show 1 < 8 by decide) hL) dL_law_1148 ?_
  refine lv_aload_n (pc := 1149) hx hb dL_law_1149 rfl (lv_at hl 3 rfl) ?_
  refine lv_iload_n (pc := 1150) hx hb dL_law_1150 rfl (lv_at hl 0 rfl) ?_
  refine lv_iconst (pc := 1151) (v := nI 2) hx hb dL_law_1151 (by decide) ?_
  refine lv_iadd (pc := 1152) hx hb dL_law_1152 ?_
  refine va_sld (pc := 1153) hx hb hX hbl hbA hS (l_in hi (show 2 < 8 by decide) hL) dL_law_1153 ?_
  refine lv_aload_n (pc := 1154) hx hb dL_law_1154 rfl (lv_at hl 3 rfl) ?_
  refine lv_iload_n (pc := 1155) hx hb dL_law_1155 rfl (lv_at hl 0 rfl) ?_
  refine lv_iconst (pc := 1156) (v := nI 3) hx hb dL_law_1156 (by decide) ?_
  refine lv_iadd (pc := 1157) hx hb dL_law_1157 ?_
  refine va_sld (pc := 1158) hx hb hX hbl hbA hS (l_in hi (show 3 < 8 by decide) hL) dL_law_1158 ?_
  obtain ⟨r2, hr2, hM2⟩ := l_M_corners l D ci (fun q : Nat => s.heap.size ≤ q) sa WX hMI (xs (nI i + nI 1).toNatClampNeg) (xs (nI i + nI 2).toNatClampNeg) (xs (nI i + nI 3).toNatClampNeg)
  obtain ⟨fs, hh⟩ := hMI.hd WX
  refine q_call (pc := 1159) (va_runV (As := [.int (xs (nI i + nI 1).toNatClampNeg), .int (xs (nI i + nI 2).toNatClampNeg), .int (xs (nI i + nI 3).toNatClampNeg)]) (rest := [.int r]) ⟨hx, hb, hml, hown, hts⟩ hM2 (cwV 3 hts gL_law_X11_corners rfl rfl rfl (by decide +kernel) ⟨Nat.le_of_ble_eq_true rfl, Nat.le_of_ble_eq_true rfl⟩) (q_preV (n1 := 0) (is1 := []) hK hA hZ hP hD hS rfl ⟨rfl, rfl, rfl⟩ 0 hh rfl) rfl rfl hl.1 rfl (lv_room (Nat.le_of_ble_eq_true rfl)) dL_law_1159 (l_rm hn.2 hc hs (Nat.zero_le _) (Nat.zero_le _))) hS (fun t2 locs _ hB hS => ?_)
  obtain ⟨WM, hMI, hP, hD⟩ := hB
  have hP := l_swP hP
  have hD := l_swD hD
  refine lv_icmp_eq (pc := 1162) (tgt := 2146) hx hb dL_law_1162 rfl (fun _ => ?_) (fun hne => absurd (l_acorners_one hok hr hr2) hne)
  exact hgo WX WM _ _ _ _ _ _ _ _ _ hXI hMI hP hD hS hc hs
theorem law_21 (p : Program) (l : Launch) (e : Env) (s : State) (m : MethodId) (below : List Frame) (meth : Method) (c : Code) (b L : Nat) (xs : Nat → Int32) (D : va_G) (ci : Nat → ClassId) (sa : Nat → Nat) {a_x a_m i : Nat} {ls : Array Slot} (C0 : lL_C p l e s m below meth c b L xs D ci sa) (hi : i + 8 ≤ L) (hl : lv_has ls 4 [(3, .int (nI i)), (2, .ref a_m), (1, .ref a_x), (0, .ref b)]) (hgo : lL_go p l e s m below meth c b L xs D ci sa a_x a_m ls 2146) : lL_go p l e s m below meth c b L xs D ci sa a_x a_m ls 1167 := by
  obtain ⟨hx, hb, hml, hown, hts, hX, hbl, hK, hZ, hret, hlocks, hL⟩ := C0
  intro WX WM t n s0 sv kv H locs cells slots hXI hMI hP hD hS hc hs
  have hA : ∀ q : Nat, s.heap.size ≤ q → (fun q : Nat => s.heap.size ≤ q) q := fun _ h => h
  have hbA : ¬ (fun q : Nat => s.heap.size ≤ q) b := Nat.not_le.mpr hbl
  have hn := hXI.n
  have hok := hXI.ok
  refine lv_aload_n (pc := 1167) hx hb dL_law_1167 rfl (lv_at hl 2 rfl) ?_
  refine lv_aload_n (pc := 1168) hx hb dL_law_1168 rfl (lv_at hl 3 rfl) ?_
  refine lv_iload_n (pc := 1169) hx hb dL_law_1169 rfl (lv_at hl 0 rfl) ?_
  refine lv_iconst (pc := 1170) (v := nI 1) hx hb dL_law_1170 (by decide) ?_
  refine lv_iadd (pc := 1171) hx hb dL_law_1171 ?_
  refine va_sld (pc := 1172) hx hb hX hbl hbA hS (l_in hi (show 1 < 8 by decide) hL) dL_law_1172 ?_
  refine lv_aload_n (pc := 1173) hx hb dL_law_1173 rfl (lv_at hl 3 rfl) ?_
  refine lv_iload_n (pc := 1174) hx hb dL_law_1174 rfl (lv_at hl 0 rfl) ?_
  refine lv_iconst (pc := 1175) (v := nI 2) hx hb dL_law_1175 (by decide) ?_
  refine lv_iadd (pc := 1176) hx hb dL_law_1176 ?_
  refine va_sld (pc := 1177) hx hb hX hbl hbA hS (l_in hi (show 2 < 8 by decide) hL) dL_law_1177 ?_
  refine lv_aload_n (pc := 1178) hx hb dL_law_1178 rfl (lv_at hl 3 rfl) ?_
  refine lv_iload_n (pc := 1179) hx hb dL_law_1179 rfl (lv_at hl 0 rfl) ?_
  refine lv_iconst (pc := 1180) (v := nI 3) hx hb dL_law_1180 (by decide) ?_
  refine lv_iadd (pc := 1181) hx hb dL_law_1181 ?_
  refine va_sld (pc := 1182) hx hb hX hbl hbA hS (l_in hi (show 3 < 8 by decide) hL) dL_law_1182 ?_
  obtain ⟨r, hM1⟩ := l_X_jog l D ci (fun q : Nat => s.heap.size ≤ q) sa WM hXI (xs (nI i + nI 1).toNatClampNeg) (xs (nI i + nI 2).toNatClampNeg) (xs (nI i + nI 3).toNatClampNeg)
  obtain ⟨fs, hh⟩ := hXI.hd WM
  refine q_call (pc := 1183) (va_runV (As := [.int (xs (nI i + nI 1).toNatClampNeg), .int (xs (nI i + nI 2).toNatClampNeg), .int (xs (nI i + nI 3).toNatClampNeg)]) (rest := []) ⟨hx, hb, hml, hown, hts⟩ hM1 (cwV 3 hts gL_law_X10_jog rfl rfl rfl (by decide +kernel) ⟨Nat.le_of_ble_eq_true rfl, Nat.le_of_ble_eq_true rfl⟩) (q_preV (n1 := 0) (is1 := []) hK hA hZ hP hD hS rfl ⟨rfl, rfl, rfl⟩ 0 hh rfl) rfl rfl hl.1 rfl (lv_room (Nat.le_of_ble_eq_true rfl)) dL_law_1183 (l_rm hn.2 hc hs (Nat.zero_le _) (Nat.zero_le _))) hS (fun t2 locs _ hB hS => ?_)
  obtain ⟨WX, hXI, hP, hD⟩ := hB
  refine lv_pop (pc := 1186) hx hb dL_law_1186 rfl ?_
  have hP := l_swP hP
  have hD := l_swD hD
  refine lv_aload_n (pc := 1187) hx hb dL_law_1187 rfl (lv_at hl 1 rfl) ?_
  refine lv_aload_n (pc := 1188) hx hb dL_law_1188 rfl (lv_at hl 3 rfl) ?_
  refine lv_iload_n (pc := 1189) hx hb dL_law_1189 rfl (lv_at hl 0 rfl) ?_
  refine lv_iconst (pc := 1190) (v := nI 1) hx hb dL_law_1190 (by decide) ?_
  refine lv_iadd (pc := 1191) hx hb dL_law_1191 ?_
  refine va_sld (pc := 1192) hx hb hX hbl hbA hS (l_in hi (show 1 < 8 by decide) hL) dL_law_1192 ?_
  refine lv_aload_n (pc := 1193) hx hb dL_law_1193 rfl (lv_at hl 3 rfl) ?_
  refine lv_iload_n (pc := 1194) hx hb dL_law_1194 rfl (lv_at hl 0 rfl) ?_
  refine lv_iconst (pc := 1195) (v := nI 2) hx hb dL_law_1195 (by decide) ?_
  refine lv_iadd (pc := 1196) hx hb dL_law_1196 ?_
  refine va_sld (pc := 1197) hx hb hX hbl hbA hS (l_in hi (show 2 < 8 by decide) hL) dL_law_1197 ?_
  refine lv_aload_n (pc := 1198) hx hb dL_law_1198 rfl (lv_at hl 3 rfl) ?_
  refine lv_iload_n (pc := 1199) hx hb dL_law_1199 rfl (lv_at hl 0 rfl) ?_
  refine lv_iconst (pc := 1200) (v := nI 3) hx hb dL_law_1200 (by decide) ?_
  refine lv_iadd (pc := 1201) hx hb dL_law_1201 ?_
  refine va_sld (pc := 1202) hx hb hX hbl hbA hS (l_in hi (show 3 < 8 by decide) hL) dL_law_1202 ?_
  obtain ⟨r2, hM2⟩ := l_M_jog l D ci (fun q : Nat => s.heap.size ≤ q) sa WX hMI (xs (nI i + nI 1).toNatClampNeg) (xs (nI i + nI 2).toNatClampNeg) (xs (nI i + nI 3).toNatClampNeg)
  obtain ⟨fs, hh⟩ := hMI.hd WX
  refine q_call (pc := 1203) (va_runV (As := [.int (xs (nI i + nI 1).toNatClampNeg), .int (xs (nI i + nI 2).toNatClampNeg), .int (xs (nI i + nI 3).toNatClampNeg)]) (rest := []) ⟨hx, hb, hml, hown, hts⟩ hM2 (cwV 3 hts gL_law_X11_jog rfl rfl rfl (by decide +kernel) ⟨Nat.le_of_ble_eq_true rfl, Nat.le_of_ble_eq_true rfl⟩) (q_preV (n1 := 0) (is1 := []) hK hA hZ hP hD hS rfl ⟨rfl, rfl, rfl⟩ 0 hh rfl) rfl rfl hl.1 rfl (lv_room (Nat.le_of_ble_eq_true rfl)) dL_law_1203 (l_rm hn.2 hc hs (Nat.zero_le _) (Nat.zero_le _))) hS (fun t2 locs _ hB hS => ?_)
  obtain ⟨WM, hMI, hP, hD⟩ := hB
  have hP := l_swP hP
  have hD := l_swD hD
  refine lv_pop (pc := 1206) hx hb dL_law_1206 rfl ?_
  refine lv_goto (pc := 1207) (tgt := 2146) hx hb dL_law_1207 rfl ?_
  exact hgo WX WM _ _ _ _ _ _ _ _ _ hXI hMI hP hD hS hc hs
end
section
/-! the law's cases -/
theorem law_22 (p : Program) (l : Launch) (e : Env) (s : State) (m : MethodId) (below : List Frame) (meth : Method) (c : Code) (b L : Nat) (xs : Nat → Int32) (D : va_G) (ci : Nat → ClassId) (sa : Nat → Nat) {a_x a_m i : Nat} {ls : Array Slot} (C0 : lL_C p l e s m below meth c b L xs D ci sa) (hi : i + 8 ≤ L) (hl : lv_has ls 4 [(3, .int (nI i)), (2, .ref a_m), (1, .ref a_x), (0, .ref b)]) (hgo : lL_go p l e s m below meth c b L xs D ci sa a_x a_m ls 2146) : lL_go p l e s m below meth c b L xs D ci sa a_x a_m ls 1210 := by
  obtain ⟨hx, hb, hml, hown, hts, hX, hbl, hK, hZ, hret, hlocks, hL⟩ := C0
  intro WX WM t n s0 sv kv H locs cells slots hXI hMI hP hD hS hc hs
  have hA : ∀ q : Nat, s.heap.size ≤ q → (fun q : Nat => s.heap.size ≤ q) q := fun _ h => h
  have hbA : ¬ (fun q : Nat => s.heap.size ≤ q) b := Nat.not_le.mpr hbl
  have hn := hXI.n
  have hok := hXI.ok
  refine lv_aload_n (pc := 1210) hx hb dL_law_1210 rfl (lv_at hl 2 rfl) ?_
  refine lv_aload_n (pc := 1211) hx hb dL_law_1211 rfl (lv_at hl 3 rfl) ?_
  refine lv_iload_n (pc := 1212) hx hb dL_law_1212 rfl (lv_at hl 0 rfl) ?_
  refine lv_iconst (pc := 1213) (v := nI 1) hx hb dL_law_1213 (by decide) ?_
  refine lv_iadd (pc := 1214) hx hb dL_law_1214 ?_
  refine va_sld (pc := 1215) hx hb hX hbl hbA hS (l_in hi (show 1 < 8 by decide) hL) dL_law_1215 ?_
  refine lv_aload_n (pc := 1216) hx hb dL_law_1216 rfl (lv_at hl 3 rfl) ?_
  refine lv_iload_n (pc := 1217) hx hb dL_law_1217 rfl (lv_at hl 0 rfl) ?_
  refine lv_iconst (pc := 1218) (v := nI 2) hx hb dL_law_1218 (by decide) ?_
  refine lv_iadd (pc := 1219) hx hb dL_law_1219 ?_
  refine va_sld (pc := 1220) hx hb hX hbl hbA hS (l_in hi (show 2 < 8 by decide) hL) dL_law_1220 ?_
  refine lv_aload_n (pc := 1221) hx hb dL_law_1221 rfl (lv_at hl 3 rfl) ?_
  refine lv_iload_n (pc := 1222) hx hb dL_law_1222 rfl (lv_at hl 0 rfl) ?_
  refine lv_iconst (pc := 1223) (v := nI 3) hx hb dL_law_1223 (by decide) ?_
  refine lv_iadd (pc := 1224) hx hb dL_law_1224 ?_
  refine va_sld (pc := 1225) hx hb hX hbl hbA hS (l_in hi (show 3 < 8 by decide) hL) dL_law_1225 ?_
  refine lv_aload_n (pc := 1226) hx hb dL_law_1226 rfl (lv_at hl 3 rfl) ?_
  refine lv_iload_n (pc := 1227) hx hb dL_law_1227 rfl (lv_at hl 0 rfl) ?_
  refine lv_iconst (pc := 1228) (v := nI 4) hx hb dL_law_1228 (by decide) ?_
  refine lv_iadd (pc := 1229) hx hb dL_law_1229 ?_
  refine va_sld (pc := 1230) hx hb hX hbl hbA hS (l_in hi (show 4 < 8 by decide) hL) dL_law_1230 ?_
  refine lv_aload_n (pc := 1231) hx hb dL_law_1231 rfl (lv_at hl 3 rfl) ?_
  refine lv_iload_n (pc := 1232) hx hb dL_law_1232 rfl (lv_at hl 0 rfl) ?_
  refine lv_iconst (pc := 1233) (v := nI 5) hx hb dL_law_1233 (by decide) ?_
  refine lv_iadd (pc := 1234) hx hb dL_law_1234 ?_
  refine va_sld (pc := 1235) hx hb hX hbl hbA hS (l_in hi (show 5 < 8 by decide) hL) dL_law_1235 ?_
  refine lv_aload_n (pc := 1236) hx hb dL_law_1236 rfl (lv_at hl 3 rfl) ?_
  refine lv_iload_n (pc := 1237) hx hb dL_law_1237 rfl (lv_at hl 0 rfl) ?_
  refine lv_bipush (pc := 1238) (v := nI 6) hx hb dL_law_1238 (by decide) ?_
  refine lv_iadd (pc := 1240) hx hb dL_law_1240 ?_
  refine va_sld (pc := 1241) hx hb hX hbl hbA hS (l_in hi (show 6 < 8 by decide) hL) dL_law_1241 ?_
  obtain ⟨r, hM1⟩ := l_X_box l D ci (fun q : Nat => s.heap.size ≤ q) sa WM hXI (xs (nI i + nI 1).toNatClampNeg) (xs (nI i + nI 2).toNatClampNeg) (xs (nI i + nI 3).toNatClampNeg) (xs (nI i + nI 4).toNatClampNeg) (xs (nI i + nI 5).toNatClampNeg) (xs (nI i + nI 6).toNatClampNeg)
  obtain ⟨fs, hh⟩ := hXI.hd WM
  refine q_call (pc := 1242) (va_runV (As := [.int (xs (nI i + nI 1).toNatClampNeg), .int (xs (nI i + nI 2).toNatClampNeg), .int (xs (nI i + nI 3).toNatClampNeg), .int (xs (nI i + nI 4).toNatClampNeg), .int (xs (nI i + nI 5).toNatClampNeg), .int (xs (nI i + nI 6).toNatClampNeg)]) (rest := []) ⟨hx, hb, hml, hown, hts⟩ hM1 (cwV 6 hts gL_law_X10_box rfl rfl rfl (by decide +kernel) ⟨Nat.le_of_ble_eq_true rfl, Nat.le_of_ble_eq_true rfl⟩) (q_preV (n1 := 0) (is1 := []) hK hA hZ hP hD hS rfl ⟨rfl, rfl, rfl⟩ 0 hh rfl) rfl rfl hl.1 rfl (lv_room (Nat.le_of_ble_eq_true rfl)) dL_law_1242 (l_rm hn.2 hc hs (Nat.zero_le _) (Nat.zero_le _))) hS (fun t2 locs _ hB hS => ?_)
  obtain ⟨WX, hXI, hP, hD⟩ := hB
  refine lv_pop (pc := 1245) hx hb dL_law_1245 rfl ?_
  have hP := l_swP hP
  have hD := l_swD hD
  refine lv_aload_n (pc := 1246) hx hb dL_law_1246 rfl (lv_at hl 1 rfl) ?_
  refine lv_aload_n (pc := 1247) hx hb dL_law_1247 rfl (lv_at hl 3 rfl) ?_
  refine lv_iload_n (pc := 1248) hx hb dL_law_1248 rfl (lv_at hl 0 rfl) ?_
  refine lv_iconst (pc := 1249) (v := nI 1) hx hb dL_law_1249 (by decide) ?_
  refine lv_iadd (pc := 1250) hx hb dL_law_1250 ?_
  refine va_sld (pc := 1251) hx hb hX hbl hbA hS (l_in hi (show 1 < 8 by decide) hL) dL_law_1251 ?_
  refine lv_aload_n (pc := 1252) hx hb dL_law_1252 rfl (lv_at hl 3 rfl) ?_
  refine lv_iload_n (pc := 1253) hx hb dL_law_1253 rfl (lv_at hl 0 rfl) ?_
  refine lv_iconst (pc := 1254) (v := nI 2) hx hb dL_law_1254 (by decide) ?_
  refine lv_iadd (pc := 1255) hx hb dL_law_1255 ?_
  refine va_sld (pc := 1256) hx hb hX hbl hbA hS (l_in hi (show 2 < 8 by decide) hL) dL_law_1256 ?_
  refine lv_aload_n (pc := 1257) hx hb dL_law_1257 rfl (lv_at hl 3 rfl) ?_
  refine lv_iload_n (pc := 1258) hx hb dL_law_1258 rfl (lv_at hl 0 rfl) ?_
  refine lv_iconst (pc := 1259) (v := nI 3) hx hb dL_law_1259 (by decide) ?_
  refine lv_iadd (pc := 1260) hx hb dL_law_1260 ?_
  refine va_sld (pc := 1261) hx hb hX hbl hbA hS (l_in hi (show 3 < 8 by decide) hL) dL_law_1261 ?_
  refine lv_aload_n (pc := 1262) hx hb dL_law_1262 rfl (lv_at hl 3 rfl) ?_
  refine lv_iload_n (pc := 1263) hx hb dL_law_1263 rfl (lv_at hl 0 rfl) ?_
  refine lv_iconst (pc := 1264) (v := nI 4) hx hb dL_law_1264 (by decide) ?_
  refine lv_iadd (pc := 1265) hx hb dL_law_1265 ?_
  refine va_sld (pc := 1266) hx hb hX hbl hbA hS (l_in hi (show 4 < 8 by decide) hL) dL_law_1266 ?_
  refine lv_aload_n (pc := 1267) hx hb dL_law_1267 rfl (lv_at hl 3 rfl) ?_
  refine lv_iload_n (pc := 1268) hx hb dL_law_1268 rfl (lv_at hl 0 rfl) ?_
  refine lv_iconst (pc := 1269) (v := nI 5) hx hb dL_law_1269 (by decide) ?_
  refine lv_iadd (pc := 1270) hx hb dL_law_1270 ?_
  refine va_sld (pc := 1271) hx hb hX hbl hbA hS (l_in hi (show 5 < 8 by decide) hL) dL_law_1271 ?_
  refine lv_aload_n (pc := 1272) hx hb dL_law_1272 rfl (lv_at hl 3 rfl) ?_
  refine lv_iload_n (pc := 1273) hx hb dL_law_1273 rfl (lv_at hl 0 rfl) ?_
  refine lv_bipush (pc := 1274) (v := nI 6) hx hb dL_law_1274 (by decide) ?_
  refine lv_iadd (pc := 1276) hx hb dL_law_1276 ?_
  refine va_sld (pc := 1277) hx hb hX hbl hbA hS (l_in hi (show 6 < 8 by decide) hL) dL_law_1277 ?_
  obtain ⟨r2, hM2⟩ := l_M_box l D ci (fun q : Nat => s.heap.size ≤ q) sa WX hMI (xs (nI i + nI 1).toNatClampNeg) (xs (nI i + nI 2).toNatClampNeg) (xs (nI i + nI 3).toNatClampNeg) (xs (nI i + nI 4).toNatClampNeg) (xs (nI i + nI 5).toNatClampNeg) (xs (nI i + nI 6).toNatClampNeg)
  obtain ⟨fs, hh⟩ := hMI.hd WX
  refine q_call (pc := 1278) (va_runV (As := [.int (xs (nI i + nI 1).toNatClampNeg), .int (xs (nI i + nI 2).toNatClampNeg), .int (xs (nI i + nI 3).toNatClampNeg), .int (xs (nI i + nI 4).toNatClampNeg), .int (xs (nI i + nI 5).toNatClampNeg), .int (xs (nI i + nI 6).toNatClampNeg)]) (rest := []) ⟨hx, hb, hml, hown, hts⟩ hM2 (cwV 6 hts gL_law_X11_box rfl rfl rfl (by decide +kernel) ⟨Nat.le_of_ble_eq_true rfl, Nat.le_of_ble_eq_true rfl⟩) (q_preV (n1 := 0) (is1 := []) hK hA hZ hP hD hS rfl ⟨rfl, rfl, rfl⟩ 0 hh rfl) rfl rfl hl.1 rfl (lv_room (Nat.le_of_ble_eq_true rfl)) dL_law_1278 (l_rm hn.2 hc hs (Nat.zero_le _) (Nat.zero_le _))) hS (fun t2 locs _ hB hS => ?_)
  obtain ⟨WM, hMI, hP, hD⟩ := hB
  have hP := l_swP hP
  have hD := l_swD hD
  refine lv_pop (pc := 1281) hx hb dL_law_1281 rfl ?_
  refine lv_goto (pc := 1282) (tgt := 2146) hx hb dL_law_1282 rfl ?_
  exact hgo WX WM _ _ _ _ _ _ _ _ _ hXI hMI hP hD hS hc hs
theorem law_23 (p : Program) (l : Launch) (e : Env) (s : State) (m : MethodId) (below : List Frame) (meth : Method) (c : Code) (b L : Nat) (xs : Nat → Int32) (D : va_G) (ci : Nat → ClassId) (sa : Nat → Nat) {a_x a_m i : Nat} {ls : Array Slot} (C0 : lL_C p l e s m below meth c b L xs D ci sa) (hi : i + 8 ≤ L) (hl : lv_has ls 4 [(3, .int (nI i)), (2, .ref a_m), (1, .ref a_x), (0, .ref b)]) (hgo : lL_go p l e s m below meth c b L xs D ci sa a_x a_m ls 2146) : lL_go p l e s m below meth c b L xs D ci sa a_x a_m ls 1285 := by
  obtain ⟨hx, hb, hml, hown, hts, hX, hbl, hK, hZ, hret, hlocks, hL⟩ := C0
  intro WX WM t n s0 sv kv H locs cells slots hXI hMI hP hD hS hc hs
  have hA : ∀ q : Nat, s.heap.size ≤ q → (fun q : Nat => s.heap.size ≤ q) q := fun _ h => h
  have hbA : ¬ (fun q : Nat => s.heap.size ≤ q) b := Nat.not_le.mpr hbl
  have hn := hXI.n
  have hok := hXI.ok
  refine lv_aload_n (pc := 1285) hx hb dL_law_1285 rfl (lv_at hl 2 rfl) ?_
  refine lv_aload_n (pc := 1286) hx hb dL_law_1286 rfl (lv_at hl 3 rfl) ?_
  refine lv_iload_n (pc := 1287) hx hb dL_law_1287 rfl (lv_at hl 0 rfl) ?_
  refine lv_iconst (pc := 1288) (v := nI 1) hx hb dL_law_1288 (by decide) ?_
  refine lv_iadd (pc := 1289) hx hb dL_law_1289 ?_
  refine va_sld (pc := 1290) hx hb hX hbl hbA hS (l_in hi (show 1 < 8 by decide) hL) dL_law_1290 ?_
  refine lv_aload_n (pc := 1291) hx hb dL_law_1291 rfl (lv_at hl 3 rfl) ?_
  refine lv_iload_n (pc := 1292) hx hb dL_law_1292 rfl (lv_at hl 0 rfl) ?_
  refine lv_iconst (pc := 1293) (v := nI 2) hx hb dL_law_1293 (by decide) ?_
  refine lv_iadd (pc := 1294) hx hb dL_law_1294 ?_
  refine va_sld (pc := 1295) hx hb hX hbl hbA hS (l_in hi (show 2 < 8 by decide) hL) dL_law_1295 ?_
  refine lv_aload_n (pc := 1296) hx hb dL_law_1296 rfl (lv_at hl 3 rfl) ?_
  refine lv_iload_n (pc := 1297) hx hb dL_law_1297 rfl (lv_at hl 0 rfl) ?_
  refine lv_iconst (pc := 1298) (v := nI 3) hx hb dL_law_1298 (by decide) ?_
  refine lv_iadd (pc := 1299) hx hb dL_law_1299 ?_
  refine va_sld (pc := 1300) hx hb hX hbl hbA hS (l_in hi (show 3 < 8 by decide) hL) dL_law_1300 ?_
  refine lv_aload_n (pc := 1301) hx hb dL_law_1301 rfl (lv_at hl 3 rfl) ?_
  refine lv_iload_n (pc := 1302) hx hb dL_law_1302 rfl (lv_at hl 0 rfl) ?_
  refine lv_iconst (pc := 1303) (v := nI 4) hx hb dL_law_1303 (by decide) ?_
  refine lv_iadd (pc := 1304) hx hb dL_law_1304 ?_
  refine va_sld (pc := 1305) hx hb hX hbl hbA hS (l_in hi (show 4 < 8 by decide) hL) dL_law_1305 ?_
  refine lv_aload_n (pc := 1306) hx hb dL_law_1306 rfl (lv_at hl 3 rfl) ?_
  refine lv_iload_n (pc := 1307) hx hb dL_law_1307 rfl (lv_at hl 0 rfl) ?_
  refine lv_iconst (pc := 1308) (v := nI 5) hx hb dL_law_1308 (by decide) ?_
  refine lv_iadd (pc := 1309) hx hb dL_law_1309 ?_
  refine va_sld (pc := 1310) hx hb hX hbl hbA hS (l_in hi (show 5 < 8 by decide) hL) dL_law_1310 ?_
  refine lv_aload_n (pc := 1311) hx hb dL_law_1311 rfl (lv_at hl 3 rfl) ?_
  refine lv_iload_n (pc := 1312) hx hb dL_law_1312 rfl (lv_at hl 0 rfl) ?_
  refine lv_bipush (pc := 1313) (v := nI 6) hx hb dL_law_1313 (by decide) ?_
  refine lv_iadd (pc := 1315) hx hb dL_law_1315 ?_
  refine va_sld (pc := 1316) hx hb hX hbl hbA hS (l_in hi (show 6 < 8 by decide) hL) dL_law_1316 ?_
  obtain ⟨r, hM1⟩ := l_X_cover l D ci (fun q : Nat => s.heap.size ≤ q) sa WM hXI (xs (nI i + nI 1).toNatClampNeg) (xs (nI i + nI 2).toNatClampNeg) (xs (nI i + nI 3).toNatClampNeg) (xs (nI i + nI 4).toNatClampNeg) (xs (nI i + nI 5).toNatClampNeg) (xs (nI i + nI 6).toNatClampNeg)
  obtain ⟨fs, hh⟩ := hXI.hd WM
  refine q_call (pc := 1317) (va_runV (As := [.int (xs (nI i + nI 1).toNatClampNeg), .int (xs (nI i + nI 2).toNatClampNeg), .int (xs (nI i + nI 3).toNatClampNeg), .int (xs (nI i + nI 4).toNatClampNeg), .int (xs (nI i + nI 5).toNatClampNeg), .int (xs (nI i + nI 6).toNatClampNeg)]) (rest := []) ⟨hx, hb, hml, hown, hts⟩ hM1 (cwV 6 hts gL_law_X10_cover rfl rfl rfl (by decide +kernel) ⟨Nat.le_of_ble_eq_true rfl, Nat.le_of_ble_eq_true rfl⟩) (q_preV (n1 := 0) (is1 := []) hK hA hZ hP hD hS rfl ⟨rfl, rfl, rfl⟩ 0 hh rfl) rfl rfl hl.1 rfl (lv_room (Nat.le_of_ble_eq_true rfl)) dL_law_1317 (l_rm hn.2 hc hs (Nat.zero_le _) (Nat.zero_le _))) hS (fun t2 locs _ hB hS => ?_)
  obtain ⟨WX, hXI, hP, hD⟩ := hB
  refine lv_pop (pc := 1320) hx hb dL_law_1320 rfl ?_
  have hP := l_swP hP
  have hD := l_swD hD
  refine lv_aload_n (pc := 1321) hx hb dL_law_1321 rfl (lv_at hl 1 rfl) ?_
  refine lv_aload_n (pc := 1322) hx hb dL_law_1322 rfl (lv_at hl 3 rfl) ?_
  refine lv_iload_n (pc := 1323) hx hb dL_law_1323 rfl (lv_at hl 0 rfl) ?_
  refine lv_iconst (pc := 1324) (v := nI 1) hx hb dL_law_1324 (by decide) ?_
  refine lv_iadd (pc := 1325) hx hb dL_law_1325 ?_
  refine va_sld (pc := 1326) hx hb hX hbl hbA hS (l_in hi (show 1 < 8 by decide) hL) dL_law_1326 ?_
  refine lv_aload_n (pc := 1327) hx hb dL_law_1327 rfl (lv_at hl 3 rfl) ?_
  refine lv_iload_n (pc := 1328) hx hb dL_law_1328 rfl (lv_at hl 0 rfl) ?_
  refine lv_iconst (pc := 1329) (v := nI 2) hx hb dL_law_1329 (by decide) ?_
  refine lv_iadd (pc := 1330) hx hb dL_law_1330 ?_
  refine va_sld (pc := 1331) hx hb hX hbl hbA hS (l_in hi (show 2 < 8 by decide) hL) dL_law_1331 ?_
  refine lv_aload_n (pc := 1332) hx hb dL_law_1332 rfl (lv_at hl 3 rfl) ?_
  refine lv_iload_n (pc := 1333) hx hb dL_law_1333 rfl (lv_at hl 0 rfl) ?_
  refine lv_iconst (pc := 1334) (v := nI 3) hx hb dL_law_1334 (by decide) ?_
  refine lv_iadd (pc := 1335) hx hb dL_law_1335 ?_
  refine va_sld (pc := 1336) hx hb hX hbl hbA hS (l_in hi (show 3 < 8 by decide) hL) dL_law_1336 ?_
  refine lv_aload_n (pc := 1337) hx hb dL_law_1337 rfl (lv_at hl 3 rfl) ?_
  refine lv_iload_n (pc := 1338) hx hb dL_law_1338 rfl (lv_at hl 0 rfl) ?_
  refine lv_iconst (pc := 1339) (v := nI 4) hx hb dL_law_1339 (by decide) ?_
  refine lv_iadd (pc := 1340) hx hb dL_law_1340 ?_
  refine va_sld (pc := 1341) hx hb hX hbl hbA hS (l_in hi (show 4 < 8 by decide) hL) dL_law_1341 ?_
  refine lv_aload_n (pc := 1342) hx hb dL_law_1342 rfl (lv_at hl 3 rfl) ?_
  refine lv_iload_n (pc := 1343) hx hb dL_law_1343 rfl (lv_at hl 0 rfl) ?_
  refine lv_iconst (pc := 1344) (v := nI 5) hx hb dL_law_1344 (by decide) ?_
  refine lv_iadd (pc := 1345) hx hb dL_law_1345 ?_
  refine va_sld (pc := 1346) hx hb hX hbl hbA hS (l_in hi (show 5 < 8 by decide) hL) dL_law_1346 ?_
  refine lv_aload_n (pc := 1347) hx hb dL_law_1347 rfl (lv_at hl 3 rfl) ?_
  refine lv_iload_n (pc := 1348) hx hb dL_law_1348 rfl (lv_at hl 0 rfl) ?_
  refine lv_bipush (pc := 1349) (v := nI 6) hx hb dL_law_1349 (by decide) ?_
  refine lv_iadd (pc := 1351) hx hb dL_law_1351 ?_
  refine va_sld (pc := 1352) hx hb hX hbl hbA hS (l_in hi (show 6 < 8 by decide) hL) dL_law_1352 ?_
  obtain ⟨r2, hM2⟩ := l_M_cover l D ci (fun q : Nat => s.heap.size ≤ q) sa WX hMI (xs (nI i + nI 1).toNatClampNeg) (xs (nI i + nI 2).toNatClampNeg) (xs (nI i + nI 3).toNatClampNeg) (xs (nI i + nI 4).toNatClampNeg) (xs (nI i + nI 5).toNatClampNeg) (xs (nI i + nI 6).toNatClampNeg)
  obtain ⟨fs, hh⟩ := hMI.hd WX
  refine q_call (pc := 1353) (va_runV (As := [.int (xs (nI i + nI 1).toNatClampNeg), .int (xs (nI i + nI 2).toNatClampNeg), .int (xs (nI i + nI 3).toNatClampNeg), .int (xs (nI i + nI 4).toNatClampNeg), .int (xs (nI i + nI 5).toNatClampNeg), .int (xs (nI i + nI 6).toNatClampNeg)]) (rest := []) ⟨hx, hb, hml, hown, hts⟩ hM2 (cwV 6 hts gL_law_X11_cover rfl rfl rfl (by decide +kernel) ⟨Nat.le_of_ble_eq_true rfl, Nat.le_of_ble_eq_true rfl⟩) (q_preV (n1 := 0) (is1 := []) hK hA hZ hP hD hS rfl ⟨rfl, rfl, rfl⟩ 0 hh rfl) rfl rfl hl.1 rfl (lv_room (Nat.le_of_ble_eq_true rfl)) dL_law_1353 (l_rm hn.2 hc hs (Nat.zero_le _) (Nat.zero_le _))) hS (fun t2 locs _ hB hS => ?_)
  obtain ⟨WM, hMI, hP, hD⟩ := hB
  have hP := l_swP hP
  have hD := l_swD hD
  refine lv_pop (pc := 1356) hx hb dL_law_1356 rfl ?_
  refine lv_goto (pc := 1357) (tgt := 2146) hx hb dL_law_1357 rfl ?_
  exact hgo WX WM _ _ _ _ _ _ _ _ _ hXI hMI hP hD hS hc hs
theorem law_24 (p : Program) (l : Launch) (e : Env) (s : State) (m : MethodId) (below : List Frame) (meth : Method) (c : Code) (b L : Nat) (xs : Nat → Int32) (D : va_G) (ci : Nat → ClassId) (sa : Nat → Nat) {a_x a_m i : Nat} {ls : Array Slot} (C0 : lL_C p l e s m below meth c b L xs D ci sa) (hi : i + 8 ≤ L) (hl : lv_has ls 4 [(3, .int (nI i)), (2, .ref a_m), (1, .ref a_x), (0, .ref b)]) (hgo : lL_go p l e s m below meth c b L xs D ci sa a_x a_m ls 2146) : lL_go p l e s m below meth c b L xs D ci sa a_x a_m ls 1360 := by
  obtain ⟨hx, hb, hml, hown, hts, hX, hbl, hK, hZ, hret, hlocks, hL⟩ := C0
  intro WX WM t n s0 sv kv H locs cells slots hXI hMI hP hD hS hc hs
  have hA : ∀ q : Nat, s.heap.size ≤ q → (fun q : Nat => s.heap.size ≤ q) q := fun _ h => h
  have hbA : ¬ (fun q : Nat => s.heap.size ≤ q) b := Nat.not_le.mpr hbl
  have hn := hXI.n
  have hok := hXI.ok
  refine lv_aload_n (pc := 1360) hx hb dL_law_1360 rfl (lv_at hl 2 rfl) ?_
  refine lv_aload_n (pc := 1361) hx hb dL_law_1361 rfl (lv_at hl 3 rfl) ?_
  refine lv_iload_n (pc := 1362) hx hb dL_law_1362 rfl (lv_at hl 0 rfl) ?_
  refine lv_iconst (pc := 1363) (v := nI 1) hx hb dL_law_1363 (by decide) ?_
  refine lv_iadd (pc := 1364) hx hb dL_law_1364 ?_
  refine va_sld (pc := 1365) hx hb hX hbl hbA hS (l_in hi (show 1 < 8 by decide) hL) dL_law_1365 ?_
  refine lv_aload_n (pc := 1366) hx hb dL_law_1366 rfl (lv_at hl 3 rfl) ?_
  refine lv_iload_n (pc := 1367) hx hb dL_law_1367 rfl (lv_at hl 0 rfl) ?_
  refine lv_iconst (pc := 1368) (v := nI 2) hx hb dL_law_1368 (by decide) ?_
  refine lv_iadd (pc := 1369) hx hb dL_law_1369 ?_
  refine va_sld (pc := 1370) hx hb hX hbl hbA hS (l_in hi (show 2 < 8 by decide) hL) dL_law_1370 ?_
  refine lv_aload_n (pc := 1371) hx hb dL_law_1371 rfl (lv_at hl 3 rfl) ?_
  refine lv_iload_n (pc := 1372) hx hb dL_law_1372 rfl (lv_at hl 0 rfl) ?_
  refine lv_iconst (pc := 1373) (v := nI 3) hx hb dL_law_1373 (by decide) ?_
  refine lv_iadd (pc := 1374) hx hb dL_law_1374 ?_
  refine va_sld (pc := 1375) hx hb hX hbl hbA hS (l_in hi (show 3 < 8 by decide) hL) dL_law_1375 ?_
  obtain ⟨r, hM1⟩ := l_X_between l D ci (fun q : Nat => s.heap.size ≤ q) sa WM hXI (xs (nI i + nI 1).toNatClampNeg) (xs (nI i + nI 2).toNatClampNeg) (xs (nI i + nI 3).toNatClampNeg)
  obtain ⟨fs, hh⟩ := hXI.hd WM
  refine q_call (pc := 1376) (va_runV (As := [.int (xs (nI i + nI 1).toNatClampNeg), .int (xs (nI i + nI 2).toNatClampNeg), .int (xs (nI i + nI 3).toNatClampNeg)]) (rest := []) ⟨hx, hb, hml, hown, hts⟩ hM1 (cwV 3 hts gL_law_X10_between rfl rfl rfl (by decide +kernel) ⟨Nat.le_of_ble_eq_true rfl, Nat.le_of_ble_eq_true rfl⟩) (q_preV (n1 := 0) (is1 := []) hK hA hZ hP hD hS rfl ⟨rfl, rfl, rfl⟩ 0 hh rfl) rfl rfl hl.1 rfl (lv_room (Nat.le_of_ble_eq_true rfl)) dL_law_1376 (l_rm hn.2 hc hs (Nat.zero_le _) (Nat.zero_le _))) hS (fun t2 locs _ hB hS => ?_)
  obtain ⟨WX, hXI, hP, hD⟩ := hB
  refine lv_pop (pc := 1379) hx hb dL_law_1379 rfl ?_
  have hP := l_swP hP
  have hD := l_swD hD
  refine lv_aload_n (pc := 1380) hx hb dL_law_1380 rfl (lv_at hl 1 rfl) ?_
  refine lv_aload_n (pc := 1381) hx hb dL_law_1381 rfl (lv_at hl 3 rfl) ?_
  refine lv_iload_n (pc := 1382) hx hb dL_law_1382 rfl (lv_at hl 0 rfl) ?_
  refine lv_iconst (pc := 1383) (v := nI 1) hx hb dL_law_1383 (by decide) ?_
  refine lv_iadd (pc := 1384) hx hb dL_law_1384 ?_
  refine va_sld (pc := 1385) hx hb hX hbl hbA hS (l_in hi (show 1 < 8 by decide) hL) dL_law_1385 ?_
  refine lv_aload_n (pc := 1386) hx hb dL_law_1386 rfl (lv_at hl 3 rfl) ?_
  refine lv_iload_n (pc := 1387) hx hb dL_law_1387 rfl (lv_at hl 0 rfl) ?_
  refine lv_iconst (pc := 1388) (v := nI 2) hx hb dL_law_1388 (by decide) ?_
  refine lv_iadd (pc := 1389) hx hb dL_law_1389 ?_
  refine va_sld (pc := 1390) hx hb hX hbl hbA hS (l_in hi (show 2 < 8 by decide) hL) dL_law_1390 ?_
  refine lv_aload_n (pc := 1391) hx hb dL_law_1391 rfl (lv_at hl 3 rfl) ?_
  refine lv_iload_n (pc := 1392) hx hb dL_law_1392 rfl (lv_at hl 0 rfl) ?_
  refine lv_iconst (pc := 1393) (v := nI 3) hx hb dL_law_1393 (by decide) ?_
  refine lv_iadd (pc := 1394) hx hb dL_law_1394 ?_
  refine va_sld (pc := 1395) hx hb hX hbl hbA hS (l_in hi (show 3 < 8 by decide) hL) dL_law_1395 ?_
  obtain ⟨r2, hM2⟩ := l_M_between l D ci (fun q : Nat => s.heap.size ≤ q) sa WX hMI (xs (nI i + nI 1).toNatClampNeg) (xs (nI i + nI 2).toNatClampNeg) (xs (nI i + nI 3).toNatClampNeg)
  obtain ⟨fs, hh⟩ := hMI.hd WX
  refine q_call (pc := 1396) (va_runV (As := [.int (xs (nI i + nI 1).toNatClampNeg), .int (xs (nI i + nI 2).toNatClampNeg), .int (xs (nI i + nI 3).toNatClampNeg)]) (rest := []) ⟨hx, hb, hml, hown, hts⟩ hM2 (cwV 3 hts gL_law_X11_between rfl rfl rfl (by decide +kernel) ⟨Nat.le_of_ble_eq_true rfl, Nat.le_of_ble_eq_true rfl⟩) (q_preV (n1 := 0) (is1 := []) hK hA hZ hP hD hS rfl ⟨rfl, rfl, rfl⟩ 0 hh rfl) rfl rfl hl.1 rfl (lv_room (Nat.le_of_ble_eq_true rfl)) dL_law_1396 (l_rm hn.2 hc hs (Nat.zero_le _) (Nat.zero_le _))) hS (fun t2 locs _ hB hS => ?_)
  obtain ⟨WM, hMI, hP, hD⟩ := hB
  have hP := l_swP hP
  have hD := l_swD hD
  refine lv_pop (pc := 1399) hx hb dL_law_1399 rfl ?_
  refine lv_goto (pc := 1400) (tgt := 2146) hx hb dL_law_1400 rfl ?_
  exact hgo WX WM _ _ _ _ _ _ _ _ _ hXI hMI hP hD hS hc hs
theorem law_25 (p : Program) (l : Launch) (e : Env) (s : State) (m : MethodId) (below : List Frame) (meth : Method) (c : Code) (b L : Nat) (xs : Nat → Int32) (D : va_G) (ci : Nat → ClassId) (sa : Nat → Nat) {a_x a_m i : Nat} {ls : Array Slot} (C0 : lL_C p l e s m below meth c b L xs D ci sa) (hi : i + 8 ≤ L) (hl : lv_has ls 4 [(3, .int (nI i)), (2, .ref a_m), (1, .ref a_x), (0, .ref b)]) (hgo : lL_go p l e s m below meth c b L xs D ci sa a_x a_m ls 2146) : lL_go p l e s m below meth c b L xs D ci sa a_x a_m ls 1403 := by
  obtain ⟨hx, hb, hml, hown, hts, hX, hbl, hK, hZ, hret, hlocks, hL⟩ := C0
  intro WX WM t n s0 sv kv H locs cells slots hXI hMI hP hD hS hc hs
  have hA : ∀ q : Nat, s.heap.size ≤ q → (fun q : Nat => s.heap.size ≤ q) q := fun _ h => h
  have hbA : ¬ (fun q : Nat => s.heap.size ≤ q) b := Nat.not_le.mpr hbl
  have hn := hXI.n
  have hok := hXI.ok
  refine lv_aload_n (pc := 1403) hx hb dL_law_1403 rfl (lv_at hl 2 rfl) ?_
  refine lv_aload_n (pc := 1404) hx hb dL_law_1404 rfl (lv_at hl 3 rfl) ?_
  refine lv_iload_n (pc := 1405) hx hb dL_law_1405 rfl (lv_at hl 0 rfl) ?_
  refine lv_iconst (pc := 1406) (v := nI 1) hx hb dL_law_1406 (by decide) ?_
  refine lv_iadd (pc := 1407) hx hb dL_law_1407 ?_
  refine va_sld (pc := 1408) hx hb hX hbl hbA hS (l_in hi (show 1 < 8 by decide) hL) dL_law_1408 ?_
  refine lv_aload_n (pc := 1409) hx hb dL_law_1409 rfl (lv_at hl 3 rfl) ?_
  refine lv_iload_n (pc := 1410) hx hb dL_law_1410 rfl (lv_at hl 0 rfl) ?_
  refine lv_iconst (pc := 1411) (v := nI 2) hx hb dL_law_1411 (by decide) ?_
  refine lv_iadd (pc := 1412) hx hb dL_law_1412 ?_
  refine va_sld (pc := 1413) hx hb hX hbl hbA hS (l_in hi (show 2 < 8 by decide) hL) dL_law_1413 ?_
  refine lv_aload_n (pc := 1414) hx hb dL_law_1414 rfl (lv_at hl 3 rfl) ?_
  refine lv_iload_n (pc := 1415) hx hb dL_law_1415 rfl (lv_at hl 0 rfl) ?_
  refine lv_iconst (pc := 1416) (v := nI 3) hx hb dL_law_1416 (by decide) ?_
  refine lv_iadd (pc := 1417) hx hb dL_law_1417 ?_
  refine va_sld (pc := 1418) hx hb hX hbl hbA hS (l_in hi (show 3 < 8 by decide) hL) dL_law_1418 ?_
  obtain ⟨r, hM1⟩ := l_X_wider l D ci (fun q : Nat => s.heap.size ≤ q) sa WM hXI (xs (nI i + nI 1).toNatClampNeg) (xs (nI i + nI 2).toNatClampNeg) (xs (nI i + nI 3).toNatClampNeg)
  obtain ⟨fs, hh⟩ := hXI.hd WM
  refine q_call (pc := 1419) (va_runV (As := [.int (xs (nI i + nI 1).toNatClampNeg), .int (xs (nI i + nI 2).toNatClampNeg), .int (xs (nI i + nI 3).toNatClampNeg)]) (rest := []) ⟨hx, hb, hml, hown, hts⟩ hM1 (cwV 3 hts gL_law_X10_wider rfl rfl rfl (by decide +kernel) ⟨Nat.le_of_ble_eq_true rfl, Nat.le_of_ble_eq_true rfl⟩) (q_preV (n1 := 0) (is1 := []) hK hA hZ hP hD hS rfl ⟨rfl, rfl, rfl⟩ 0 hh rfl) rfl rfl hl.1 rfl (lv_room (Nat.le_of_ble_eq_true rfl)) dL_law_1419 (l_rm hn.2 hc hs (Nat.zero_le _) (Nat.zero_le _))) hS (fun t2 locs _ hB hS => ?_)
  obtain ⟨WX, hXI, hP, hD⟩ := hB
  refine lv_pop (pc := 1422) hx hb dL_law_1422 rfl ?_
  have hP := l_swP hP
  have hD := l_swD hD
  refine lv_aload_n (pc := 1423) hx hb dL_law_1423 rfl (lv_at hl 1 rfl) ?_
  refine lv_aload_n (pc := 1424) hx hb dL_law_1424 rfl (lv_at hl 3 rfl) ?_
  refine lv_iload_n (pc := 1425) hx hb dL_law_1425 rfl (lv_at hl 0 rfl) ?_
  refine lv_iconst (pc := 1426) (v := nI 1) hx hb dL_law_1426 (by decide) ?_
  refine lv_iadd (pc := 1427) hx hb dL_law_1427 ?_
  refine va_sld (pc := 1428) hx hb hX hbl hbA hS (l_in hi (show 1 < 8 by decide) hL) dL_law_1428 ?_
  refine lv_aload_n (pc := 1429) hx hb dL_law_1429 rfl (lv_at hl 3 rfl) ?_
  refine lv_iload_n (pc := 1430) hx hb dL_law_1430 rfl (lv_at hl 0 rfl) ?_
  refine lv_iconst (pc := 1431) (v := nI 2) hx hb dL_law_1431 (by decide) ?_
  refine lv_iadd (pc := 1432) hx hb dL_law_1432 ?_
  refine va_sld (pc := 1433) hx hb hX hbl hbA hS (l_in hi (show 2 < 8 by decide) hL) dL_law_1433 ?_
  refine lv_aload_n (pc := 1434) hx hb dL_law_1434 rfl (lv_at hl 3 rfl) ?_
  refine lv_iload_n (pc := 1435) hx hb dL_law_1435 rfl (lv_at hl 0 rfl) ?_
  refine lv_iconst (pc := 1436) (v := nI 3) hx hb dL_law_1436 (by decide) ?_
  refine lv_iadd (pc := 1437) hx hb dL_law_1437 ?_
  refine va_sld (pc := 1438) hx hb hX hbl hbA hS (l_in hi (show 3 < 8 by decide) hL) dL_law_1438 ?_
  obtain ⟨r2, hM2⟩ := l_M_wider l D ci (fun q : Nat => s.heap.size ≤ q) sa WX hMI (xs (nI i + nI 1).toNatClampNeg) (xs (nI i + nI 2).toNatClampNeg) (xs (nI i + nI 3).toNatClampNeg)
  obtain ⟨fs, hh⟩ := hMI.hd WX
  refine q_call (pc := 1439) (va_runV (As := [.int (xs (nI i + nI 1).toNatClampNeg), .int (xs (nI i + nI 2).toNatClampNeg), .int (xs (nI i + nI 3).toNatClampNeg)]) (rest := []) ⟨hx, hb, hml, hown, hts⟩ hM2 (cwV 3 hts gL_law_X11_wider rfl rfl rfl (by decide +kernel) ⟨Nat.le_of_ble_eq_true rfl, Nat.le_of_ble_eq_true rfl⟩) (q_preV (n1 := 0) (is1 := []) hK hA hZ hP hD hS rfl ⟨rfl, rfl, rfl⟩ 0 hh rfl) rfl rfl hl.1 rfl (lv_room (Nat.le_of_ble_eq_true rfl)) dL_law_1439 (l_rm hn.2 hc hs (Nat.zero_le _) (Nat.zero_le _))) hS (fun t2 locs _ hB hS => ?_)
  obtain ⟨WM, hMI, hP, hD⟩ := hB
  have hP := l_swP hP
  have hD := l_swD hD
  refine lv_pop (pc := 1442) hx hb dL_law_1442 rfl ?_
  refine lv_goto (pc := 1443) (tgt := 2146) hx hb dL_law_1443 rfl ?_
  exact hgo WX WM _ _ _ _ _ _ _ _ _ hXI hMI hP hD hS hc hs
theorem law_26 (p : Program) (l : Launch) (e : Env) (s : State) (m : MethodId) (below : List Frame) (meth : Method) (c : Code) (b L : Nat) (xs : Nat → Int32) (D : va_G) (ci : Nat → ClassId) (sa : Nat → Nat) {a_x a_m i : Nat} {ls : Array Slot} (C0 : lL_C p l e s m below meth c b L xs D ci sa) (hi : i + 8 ≤ L) (hl : lv_has ls 4 [(3, .int (nI i)), (2, .ref a_m), (1, .ref a_x), (0, .ref b)]) (hgo : lL_go p l e s m below meth c b L xs D ci sa a_x a_m ls 2146) : lL_go p l e s m below meth c b L xs D ci sa a_x a_m ls 1446 := by
  obtain ⟨hx, hb, hml, hown, hts, hX, hbl, hK, hZ, hret, hlocks, hL⟩ := C0
  intro WX WM t n s0 sv kv H locs cells slots hXI hMI hP hD hS hc hs
  have hA : ∀ q : Nat, s.heap.size ≤ q → (fun q : Nat => s.heap.size ≤ q) q := fun _ h => h
  have hbA : ¬ (fun q : Nat => s.heap.size ≤ q) b := Nat.not_le.mpr hbl
  have hn := hXI.n
  have hok := hXI.ok
  refine lv_aload_n (pc := 1446) hx hb dL_law_1446 rfl (lv_at hl 2 rfl) ?_
  refine lv_aload_n (pc := 1447) hx hb dL_law_1447 rfl (lv_at hl 3 rfl) ?_
  refine lv_iload_n (pc := 1448) hx hb dL_law_1448 rfl (lv_at hl 0 rfl) ?_
  refine lv_iconst (pc := 1449) (v := nI 1) hx hb dL_law_1449 (by decide) ?_
  refine lv_iadd (pc := 1450) hx hb dL_law_1450 ?_
  refine va_sld (pc := 1451) hx hb hX hbl hbA hS (l_in hi (show 1 < 8 by decide) hL) dL_law_1451 ?_
  refine lv_aload_n (pc := 1452) hx hb dL_law_1452 rfl (lv_at hl 3 rfl) ?_
  refine lv_iload_n (pc := 1453) hx hb dL_law_1453 rfl (lv_at hl 0 rfl) ?_
  refine lv_iconst (pc := 1454) (v := nI 2) hx hb dL_law_1454 (by decide) ?_
  refine lv_iadd (pc := 1455) hx hb dL_law_1455 ?_
  refine va_sld (pc := 1456) hx hb hX hbl hbA hS (l_in hi (show 2 < 8 by decide) hL) dL_law_1456 ?_
  refine lv_aload_n (pc := 1457) hx hb dL_law_1457 rfl (lv_at hl 3 rfl) ?_
  refine lv_iload_n (pc := 1458) hx hb dL_law_1458 rfl (lv_at hl 0 rfl) ?_
  refine lv_iconst (pc := 1459) (v := nI 3) hx hb dL_law_1459 (by decide) ?_
  refine lv_iadd (pc := 1460) hx hb dL_law_1460 ?_
  refine va_sld (pc := 1461) hx hb hX hbl hbA hS (l_in hi (show 3 < 8 by decide) hL) dL_law_1461 ?_
  obtain ⟨r, hM1⟩ := l_X_before l D ci (fun q : Nat => s.heap.size ≤ q) sa WM hXI (xs (nI i + nI 1).toNatClampNeg) (xs (nI i + nI 2).toNatClampNeg) (xs (nI i + nI 3).toNatClampNeg)
  obtain ⟨fs, hh⟩ := hXI.hd WM
  refine q_call (pc := 1462) (va_runV (As := [.int (xs (nI i + nI 1).toNatClampNeg), .int (xs (nI i + nI 2).toNatClampNeg), .int (xs (nI i + nI 3).toNatClampNeg)]) (rest := []) ⟨hx, hb, hml, hown, hts⟩ hM1 (cwV 3 hts gL_law_X10_before rfl rfl rfl (by decide +kernel) ⟨Nat.le_of_ble_eq_true rfl, Nat.le_of_ble_eq_true rfl⟩) (q_preV (n1 := 0) (is1 := []) hK hA hZ hP hD hS rfl ⟨rfl, rfl, rfl⟩ 0 hh rfl) rfl rfl hl.1 rfl (lv_room (Nat.le_of_ble_eq_true rfl)) dL_law_1462 (l_rm hn.2 hc hs (Nat.zero_le _) (Nat.zero_le _))) hS (fun t2 locs _ hB hS => ?_)
  obtain ⟨WX, hXI, hP, hD⟩ := hB
  refine lv_pop (pc := 1465) hx hb dL_law_1465 rfl ?_
  have hP := l_swP hP
  have hD := l_swD hD
  refine lv_aload_n (pc := 1466) hx hb dL_law_1466 rfl (lv_at hl 1 rfl) ?_
  refine lv_aload_n (pc := 1467) hx hb dL_law_1467 rfl (lv_at hl 3 rfl) ?_
  refine lv_iload_n (pc := 1468) hx hb dL_law_1468 rfl (lv_at hl 0 rfl) ?_
  refine lv_iconst (pc := 1469) (v := nI 1) hx hb dL_law_1469 (by decide) ?_
  refine lv_iadd (pc := 1470) hx hb dL_law_1470 ?_
  refine va_sld (pc := 1471) hx hb hX hbl hbA hS (l_in hi (show 1 < 8 by decide) hL) dL_law_1471 ?_
  refine lv_aload_n (pc := 1472) hx hb dL_law_1472 rfl (lv_at hl 3 rfl) ?_
  refine lv_iload_n (pc := 1473) hx hb dL_law_1473 rfl (lv_at hl 0 rfl) ?_
  refine lv_iconst (pc := 1474) (v := nI 2) hx hb dL_law_1474 (by decide) ?_
  refine lv_iadd (pc := 1475) hx hb dL_law_1475 ?_
  refine va_sld (pc := 1476) hx hb hX hbl hbA hS (l_in hi (show 2 < 8 by decide) hL) dL_law_1476 ?_
  refine lv_aload_n (pc := 1477) hx hb dL_law_1477 rfl (lv_at hl 3 rfl) ?_
  refine lv_iload_n (pc := 1478) hx hb dL_law_1478 rfl (lv_at hl 0 rfl) ?_
  refine lv_iconst (pc := 1479) (v := nI 3) hx hb dL_law_1479 (by decide) ?_
  refine lv_iadd (pc := 1480) hx hb dL_law_1480 ?_
  refine va_sld (pc := 1481) hx hb hX hbl hbA hS (l_in hi (show 3 < 8 by decide) hL) dL_law_1481 ?_
  obtain ⟨r2, hM2⟩ := l_M_before l D ci (fun q : Nat => s.heap.size ≤ q) sa WX hMI (xs (nI i + nI 1).toNatClampNeg) (xs (nI i + nI 2).toNatClampNeg) (xs (nI i + nI 3).toNatClampNeg)
  obtain ⟨fs, hh⟩ := hMI.hd WX
  refine q_call (pc := 1482) (va_runV (As := [.int (xs (nI i + nI 1).toNatClampNeg), .int (xs (nI i + nI 2).toNatClampNeg), .int (xs (nI i + nI 3).toNatClampNeg)]) (rest := []) ⟨hx, hb, hml, hown, hts⟩ hM2 (cwV 3 hts gL_law_X11_before rfl rfl rfl (by decide +kernel) ⟨Nat.le_of_ble_eq_true rfl, Nat.le_of_ble_eq_true rfl⟩) (q_preV (n1 := 0) (is1 := []) hK hA hZ hP hD hS rfl ⟨rfl, rfl, rfl⟩ 0 hh rfl) rfl rfl hl.1 rfl (lv_room (Nat.le_of_ble_eq_true rfl)) dL_law_1482 (l_rm hn.2 hc hs (Nat.zero_le _) (Nat.zero_le _))) hS (fun t2 locs _ hB hS => ?_)
  obtain ⟨WM, hMI, hP, hD⟩ := hB
  have hP := l_swP hP
  have hD := l_swD hD
  refine lv_pop (pc := 1485) hx hb dL_law_1485 rfl ?_
  refine lv_goto (pc := 1486) (tgt := 2146) hx hb dL_law_1486 rfl ?_
  exact hgo WX WM _ _ _ _ _ _ _ _ _ hXI hMI hP hD hS hc hs
theorem law_27 (p : Program) (l : Launch) (e : Env) (s : State) (m : MethodId) (below : List Frame) (meth : Method) (c : Code) (b L : Nat) (xs : Nat → Int32) (D : va_G) (ci : Nat → ClassId) (sa : Nat → Nat) {a_x a_m i : Nat} {ls : Array Slot} (C0 : lL_C p l e s m below meth c b L xs D ci sa) (hi : i + 8 ≤ L) (hl : lv_has ls 4 [(3, .int (nI i)), (2, .ref a_m), (1, .ref a_x), (0, .ref b)]) (hgo : lL_go p l e s m below meth c b L xs D ci sa a_x a_m ls 2146) : lL_go p l e s m below meth c b L xs D ci sa a_x a_m ls 1489 := by
  obtain ⟨hx, hb, hml, hown, hts, hX, hbl, hK, hZ, hret, hlocks, hL⟩ := C0
  intro WX WM t n s0 sv kv H locs cells slots hXI hMI hP hD hS hc hs
  have hA : ∀ q : Nat, s.heap.size ≤ q → (fun q : Nat => s.heap.size ≤ q) q := fun _ h => h
  have hbA : ¬ (fun q : Nat => s.heap.size ≤ q) b := Nat.not_le.mpr hbl
  have hn := hXI.n
  have hok := hXI.ok
  refine lv_aload_n (pc := 1489) hx hb dL_law_1489 rfl (lv_at hl 2 rfl) ?_
  refine lv_aload_n (pc := 1490) hx hb dL_law_1490 rfl (lv_at hl 3 rfl) ?_
  refine lv_iload_n (pc := 1491) hx hb dL_law_1491 rfl (lv_at hl 0 rfl) ?_
  refine lv_iconst (pc := 1492) (v := nI 1) hx hb dL_law_1492 (by decide) ?_
  refine lv_iadd (pc := 1493) hx hb dL_law_1493 ?_
  refine va_sld (pc := 1494) hx hb hX hbl hbA hS (l_in hi (show 1 < 8 by decide) hL) dL_law_1494 ?_
  refine lv_aload_n (pc := 1495) hx hb dL_law_1495 rfl (lv_at hl 3 rfl) ?_
  refine lv_iload_n (pc := 1496) hx hb dL_law_1496 rfl (lv_at hl 0 rfl) ?_
  refine lv_iconst (pc := 1497) (v := nI 2) hx hb dL_law_1497 (by decide) ?_
  refine lv_iadd (pc := 1498) hx hb dL_law_1498 ?_
  refine va_sld (pc := 1499) hx hb hX hbl hbA hS (l_in hi (show 2 < 8 by decide) hL) dL_law_1499 ?_
  refine lv_aload_n (pc := 1500) hx hb dL_law_1500 rfl (lv_at hl 3 rfl) ?_
  refine lv_iload_n (pc := 1501) hx hb dL_law_1501 rfl (lv_at hl 0 rfl) ?_
  refine lv_iconst (pc := 1502) (v := nI 3) hx hb dL_law_1502 (by decide) ?_
  refine lv_iadd (pc := 1503) hx hb dL_law_1503 ?_
  refine va_sld (pc := 1504) hx hb hX hbl hbA hS (l_in hi (show 3 < 8 by decide) hL) dL_law_1504 ?_
  refine lv_aload_n (pc := 1505) hx hb dL_law_1505 rfl (lv_at hl 3 rfl) ?_
  refine lv_iload_n (pc := 1506) hx hb dL_law_1506 rfl (lv_at hl 0 rfl) ?_
  refine lv_iconst (pc := 1507) (v := nI 4) hx hb dL_law_1507 (by decide) ?_
  refine lv_iadd (pc := 1508) hx hb dL_law_1508 ?_
  refine va_sld (pc := 1509) hx hb hX hbl hbA hS (l_in hi (show 4 < 8 by decide) hL) dL_law_1509 ?_
  refine lv_aload_n (pc := 1510) hx hb dL_law_1510 rfl (lv_at hl 3 rfl) ?_
  refine lv_iload_n (pc := 1511) hx hb dL_law_1511 rfl (lv_at hl 0 rfl) ?_
  refine lv_iconst (pc := 1512) (v := nI 5) hx hb dL_law_1512 (by decide) ?_
  refine lv_iadd (pc := 1513) hx hb dL_law_1513 ?_
  refine va_sld (pc := 1514) hx hb hX hbl hbA hS (l_in hi (show 5 < 8 by decide) hL) dL_law_1514 ?_
  obtain ⟨r, hM1⟩ := l_X_moved l D ci (fun q : Nat => s.heap.size ≤ q) sa WM hXI (xs (nI i + nI 1).toNatClampNeg) (xs (nI i + nI 2).toNatClampNeg) (xs (nI i + nI 3).toNatClampNeg) (xs (nI i + nI 4).toNatClampNeg) (xs (nI i + nI 5).toNatClampNeg)
  obtain ⟨fs, hh⟩ := hXI.hd WM
  refine q_call (pc := 1515) (va_runV (As := [.int (xs (nI i + nI 1).toNatClampNeg), .int (xs (nI i + nI 2).toNatClampNeg), .int (xs (nI i + nI 3).toNatClampNeg), .int (xs (nI i + nI 4).toNatClampNeg), .int (xs (nI i + nI 5).toNatClampNeg)]) (rest := []) ⟨hx, hb, hml, hown, hts⟩ hM1 (cwV 5 hts gL_law_X10_moved rfl rfl rfl (by decide +kernel) ⟨Nat.le_of_ble_eq_true rfl, Nat.le_of_ble_eq_true rfl⟩) (q_preV (n1 := 0) (is1 := []) hK hA hZ hP hD hS rfl ⟨rfl, rfl, rfl⟩ 0 hh rfl) rfl rfl hl.1 rfl (lv_room (Nat.le_of_ble_eq_true rfl)) dL_law_1515 (l_rm hn.2 hc hs (Nat.zero_le _) (Nat.zero_le _))) hS (fun t2 locs _ hB hS => ?_)
  obtain ⟨WX, hXI, hP, hD⟩ := hB
  refine lv_pop (pc := 1518) hx hb dL_law_1518 rfl ?_
  have hP := l_swP hP
  have hD := l_swD hD
  refine lv_aload_n (pc := 1519) hx hb dL_law_1519 rfl (lv_at hl 1 rfl) ?_
  refine lv_aload_n (pc := 1520) hx hb dL_law_1520 rfl (lv_at hl 3 rfl) ?_
  refine lv_iload_n (pc := 1521) hx hb dL_law_1521 rfl (lv_at hl 0 rfl) ?_
  refine lv_iconst (pc := 1522) (v := nI 1) hx hb dL_law_1522 (by decide) ?_
  refine lv_iadd (pc := 1523) hx hb dL_law_1523 ?_
  refine va_sld (pc := 1524) hx hb hX hbl hbA hS (l_in hi (show 1 < 8 by decide) hL) dL_law_1524 ?_
  refine lv_aload_n (pc := 1525) hx hb dL_law_1525 rfl (lv_at hl 3 rfl) ?_
  refine lv_iload_n (pc := 1526) hx hb dL_law_1526 rfl (lv_at hl 0 rfl) ?_
  refine lv_iconst (pc := 1527) (v := nI 2) hx hb dL_law_1527 (by decide) ?_
  refine lv_iadd (pc := 1528) hx hb dL_law_1528 ?_
  refine va_sld (pc := 1529) hx hb hX hbl hbA hS (l_in hi (show 2 < 8 by decide) hL) dL_law_1529 ?_
  refine lv_aload_n (pc := 1530) hx hb dL_law_1530 rfl (lv_at hl 3 rfl) ?_
  refine lv_iload_n (pc := 1531) hx hb dL_law_1531 rfl (lv_at hl 0 rfl) ?_
  refine lv_iconst (pc := 1532) (v := nI 3) hx hb dL_law_1532 (by decide) ?_
  refine lv_iadd (pc := 1533) hx hb dL_law_1533 ?_
  refine va_sld (pc := 1534) hx hb hX hbl hbA hS (l_in hi (show 3 < 8 by decide) hL) dL_law_1534 ?_
  refine lv_aload_n (pc := 1535) hx hb dL_law_1535 rfl (lv_at hl 3 rfl) ?_
  refine lv_iload_n (pc := 1536) hx hb dL_law_1536 rfl (lv_at hl 0 rfl) ?_
  refine lv_iconst (pc := 1537) (v := nI 4) hx hb dL_law_1537 (by decide) ?_
  refine lv_iadd (pc := 1538) hx hb dL_law_1538 ?_
  refine va_sld (pc := 1539) hx hb hX hbl hbA hS (l_in hi (show 4 < 8 by decide) hL) dL_law_1539 ?_
  refine lv_aload_n (pc := 1540) hx hb dL_law_1540 rfl (lv_at hl 3 rfl) ?_
  refine lv_iload_n (pc := 1541) hx hb dL_law_1541 rfl (lv_at hl 0 rfl) ?_
  refine lv_iconst (pc := 1542) (v := nI 5) hx hb dL_law_1542 (by decide) ?_
  refine lv_iadd (pc := 1543) hx hb dL_law_1543 ?_
  refine va_sld (pc := 1544) hx hb hX hbl hbA hS (l_in hi (show 5 < 8 by decide) hL) dL_law_1544 ?_
  obtain ⟨r2, hM2⟩ := l_M_moved l D ci (fun q : Nat => s.heap.size ≤ q) sa WX hMI (xs (nI i + nI 1).toNatClampNeg) (xs (nI i + nI 2).toNatClampNeg) (xs (nI i + nI 3).toNatClampNeg) (xs (nI i + nI 4).toNatClampNeg) (xs (nI i + nI 5).toNatClampNeg)
  obtain ⟨fs, hh⟩ := hMI.hd WX
  refine q_call (pc := 1545) (va_runV (As := [.int (xs (nI i + nI 1).toNatClampNeg), .int (xs (nI i + nI 2).toNatClampNeg), .int (xs (nI i + nI 3).toNatClampNeg), .int (xs (nI i + nI 4).toNatClampNeg), .int (xs (nI i + nI 5).toNatClampNeg)]) (rest := []) ⟨hx, hb, hml, hown, hts⟩ hM2 (cwV 5 hts gL_law_X11_moved rfl rfl rfl (by decide +kernel) ⟨Nat.le_of_ble_eq_true rfl, Nat.le_of_ble_eq_true rfl⟩) (q_preV (n1 := 0) (is1 := []) hK hA hZ hP hD hS rfl ⟨rfl, rfl, rfl⟩ 0 hh rfl) rfl rfl hl.1 rfl (lv_room (Nat.le_of_ble_eq_true rfl)) dL_law_1545 (l_rm hn.2 hc hs (Nat.zero_le _) (Nat.zero_le _))) hS (fun t2 locs _ hB hS => ?_)
  obtain ⟨WM, hMI, hP, hD⟩ := hB
  have hP := l_swP hP
  have hD := l_swD hD
  refine lv_pop (pc := 1548) hx hb dL_law_1548 rfl ?_
  refine lv_goto (pc := 1549) (tgt := 2146) hx hb dL_law_1549 rfl ?_
  exact hgo WX WM _ _ _ _ _ _ _ _ _ hXI hMI hP hD hS hc hs
theorem law_28 (p : Program) (l : Launch) (e : Env) (s : State) (m : MethodId) (below : List Frame) (meth : Method) (c : Code) (b L : Nat) (xs : Nat → Int32) (D : va_G) (ci : Nat → ClassId) (sa : Nat → Nat) {a_x a_m i : Nat} {ls : Array Slot} (C0 : lL_C p l e s m below meth c b L xs D ci sa) (hi : i + 8 ≤ L) (hl : lv_has ls 4 [(3, .int (nI i)), (2, .ref a_m), (1, .ref a_x), (0, .ref b)]) (hgo : lL_go p l e s m below meth c b L xs D ci sa a_x a_m ls 2146) : lL_go p l e s m below meth c b L xs D ci sa a_x a_m ls 1552 := by
  obtain ⟨hx, hb, hml, hown, hts, hX, hbl, hK, hZ, hret, hlocks, hL⟩ := C0
  intro WX WM t n s0 sv kv H locs cells slots hXI hMI hP hD hS hc hs
  have hA : ∀ q : Nat, s.heap.size ≤ q → (fun q : Nat => s.heap.size ≤ q) q := fun _ h => h
  have hbA : ¬ (fun q : Nat => s.heap.size ≤ q) b := Nat.not_le.mpr hbl
  have hn := hXI.n
  have hok := hXI.ok
  refine lv_aload_n (pc := 1552) hx hb dL_law_1552 rfl (lv_at hl 2 rfl) ?_
  refine lv_aload_n (pc := 1553) hx hb dL_law_1553 rfl (lv_at hl 3 rfl) ?_
  refine lv_iload_n (pc := 1554) hx hb dL_law_1554 rfl (lv_at hl 0 rfl) ?_
  refine lv_iconst (pc := 1555) (v := nI 1) hx hb dL_law_1555 (by decide) ?_
  refine lv_iadd (pc := 1556) hx hb dL_law_1556 ?_
  refine va_sld (pc := 1557) hx hb hX hbl hbA hS (l_in hi (show 1 < 8 by decide) hL) dL_law_1557 ?_
  rcases l_X_ask l D ci (fun q : Nat => s.heap.size ≤ q) sa WM hXI (xs (nI i + nI 1).toNatClampNeg) with ⟨r, hM1⟩ | ⟨nL, r, hL1, hL2, hL3, hM1⟩
  · skip
    obtain ⟨fs, hh⟩ := hXI.hd WM
    refine q_call (pc := 1558) (va_runV (As := [.int (xs (nI i + nI 1).toNatClampNeg)]) (rest := []) ⟨hx, hb, hml, hown, hts⟩ hM1 (cwV 1 hts gL_law_X10_ask rfl rfl rfl (by decide +kernel) ⟨Nat.le_of_ble_eq_true rfl, Nat.le_of_ble_eq_true rfl⟩) (q_preV (n1 := 0) (is1 := []) hK hA hZ hP hD hS rfl ⟨rfl, rfl, rfl⟩ 0 hh rfl) rfl rfl hl.1 rfl (lv_room (Nat.le_of_ble_eq_true rfl)) dL_law_1558 (l_rm hn.2 hc hs (Nat.zero_le _) (Nat.zero_le _))) hS (fun t2 locs _ hB hS => ?_)
    obtain ⟨WX, hXI, hP, hD⟩ := hB
    refine lv_pop (pc := 1561) hx hb dL_law_1561 rfl ?_
    have hP := l_swP hP
    have hD := l_swD hD
    refine lv_aload_n (pc := 1562) hx hb dL_law_1562 rfl (lv_at hl 1 rfl) ?_
    refine lv_aload_n (pc := 1563) hx hb dL_law_1563 rfl (lv_at hl 3 rfl) ?_
    refine lv_iload_n (pc := 1564) hx hb dL_law_1564 rfl (lv_at hl 0 rfl) ?_
    refine lv_iconst (pc := 1565) (v := nI 1) hx hb dL_law_1565 (by decide) ?_
    refine lv_iadd (pc := 1566) hx hb dL_law_1566 ?_
    refine va_sld (pc := 1567) hx hb hX hbl hbA hS (l_in hi (show 1 < 8 by decide) hL) dL_law_1567 ?_
    obtain ⟨r2, hM2⟩ := l_M_ask l D ci (fun q : Nat => s.heap.size ≤ q) sa WX hMI (xs (nI i + nI 1).toNatClampNeg)
    obtain ⟨fs, hh⟩ := hMI.hd WX
    refine q_call (pc := 1568) (va_runV (As := [.int (xs (nI i + nI 1).toNatClampNeg)]) (rest := []) ⟨hx, hb, hml, hown, hts⟩ hM2 (cwV 1 hts gL_law_X11_ask rfl rfl rfl (by decide +kernel) ⟨Nat.le_of_ble_eq_true rfl, Nat.le_of_ble_eq_true rfl⟩) (q_preV (n1 := 0) (is1 := []) hK hA hZ hP hD hS rfl ⟨rfl, rfl, rfl⟩ 0 hh rfl) rfl rfl hl.1 rfl (lv_room (Nat.le_of_ble_eq_true rfl)) dL_law_1568 (l_rm hn.2 hc hs (Nat.zero_le _) (Nat.zero_le _))) hS (fun t2 locs _ hB hS => ?_)
    obtain ⟨WM, hMI, hP, hD⟩ := hB
    have hP := l_swP hP
    have hD := l_swD hD
    refine lv_pop (pc := 1571) hx hb dL_law_1571 rfl ?_
    refine lv_goto (pc := 1572) (tgt := 2146) hx hb dL_law_1572 rfl ?_
    exact hgo WX WM _ _ _ _ _ _ _ _ _ hXI hMI hP hD hS hc hs
  · have hpot := l_pot hn.1 hL3 hL1 hc hs
    obtain ⟨fs, hh⟩ := hXI.hd WM
    refine q_call (pc := 1558) (va_runV (As := [.int (xs (nI i + nI 1).toNatClampNeg)]) (rest := []) ⟨hx, hb, hml, hown, hts⟩ hM1 (cwV 1 hts gL_law_X10_ask rfl rfl rfl (by decide +kernel) ⟨Nat.le_of_ble_eq_true rfl, Nat.le_of_ble_eq_true rfl⟩) (q_preV (n1 := 0) (is1 := []) hK hA hZ hP hD hS rfl ⟨rfl, rfl, rfl⟩ 0 hh rfl) rfl rfl hl.1 rfl (lv_room (Nat.le_of_ble_eq_true rfl)) dL_law_1558 (l_rm hn.2 hc hs (Nat.le_refl _) (by omega))) hS (fun t2 locs _ hB hS => ?_)
    have hc : cells + 2 ≤ 200 + nL := hpot.1
    have hs : 1000 * (slots + (nL + nL)) ≤ 45000000 + nL * nL + 2000 * nL := hpot.2
    obtain ⟨WX, hXI, hP, hD⟩ := hB
    refine lv_pop (pc := 1561) hx hb dL_law_1561 rfl ?_
    have hn := hXI.n
    have hP := l_swP hP
    have hD := l_swD hD
    refine lv_aload_n (pc := 1562) hx hb dL_law_1562 rfl (lv_at hl 1 rfl) ?_
    refine lv_aload_n (pc := 1563) hx hb dL_law_1563 rfl (lv_at hl 3 rfl) ?_
    refine lv_iload_n (pc := 1564) hx hb dL_law_1564 rfl (lv_at hl 0 rfl) ?_
    refine lv_iconst (pc := 1565) (v := nI 1) hx hb dL_law_1565 (by decide) ?_
    refine lv_iadd (pc := 1566) hx hb dL_law_1566 ?_
    refine va_sld (pc := 1567) hx hb hX hbl hbA hS (l_in hi (show 1 < 8 by decide) hL) dL_law_1567 ?_
    obtain ⟨r2, hM2⟩ := l_M_ask l D ci (fun q : Nat => s.heap.size ≤ q) sa WX hMI (xs (nI i + nI 1).toNatClampNeg)
    obtain ⟨fs, hh⟩ := hMI.hd WX
    refine q_call (pc := 1568) (va_runV (As := [.int (xs (nI i + nI 1).toNatClampNeg)]) (rest := []) ⟨hx, hb, hml, hown, hts⟩ hM2 (cwV 1 hts gL_law_X11_ask rfl rfl rfl (by decide +kernel) ⟨Nat.le_of_ble_eq_true rfl, Nat.le_of_ble_eq_true rfl⟩) (q_preV (n1 := 0) (is1 := []) hK hA hZ hP hD hS rfl ⟨rfl, rfl, rfl⟩ 0 hh rfl) rfl rfl hl.1 rfl (lv_room (Nat.le_of_ble_eq_true rfl)) dL_law_1568 (l_rm hn.2 hc hs (Nat.zero_le _) (Nat.zero_le _))) hS (fun t2 locs _ hB hS => ?_)
    obtain ⟨WM, hMI, hP, hD⟩ := hB
    have hP := l_swP hP
    have hD := l_swD hD
    refine lv_pop (pc := 1571) hx hb dL_law_1571 rfl ?_
    refine lv_goto (pc := 1572) (tgt := 2146) hx hb dL_law_1572 rfl ?_
    exact hgo WX WM _ _ _ _ _ _ _ _ _ hXI hMI hP hD hS hc hs
theorem law_29 (p : Program) (l : Launch) (e : Env) (s : State) (m : MethodId) (below : List Frame) (meth : Method) (c : Code) (b L : Nat) (xs : Nat → Int32) (D : va_G) (ci : Nat → ClassId) (sa : Nat → Nat) {a_x a_m i : Nat} {ls : Array Slot} (C0 : lL_C p l e s m below meth c b L xs D ci sa) (hi : i + 8 ≤ L) (hl : lv_has ls 4 [(3, .int (nI i)), (2, .ref a_m), (1, .ref a_x), (0, .ref b)]) (hgo : lL_go p l e s m below meth c b L xs D ci sa a_x a_m ls 2146) : lL_go p l e s m below meth c b L xs D ci sa a_x a_m ls 1575 := by
  obtain ⟨hx, hb, hml, hown, hts, hX, hbl, hK, hZ, hret, hlocks, hL⟩ := C0
  intro WX WM t n s0 sv kv H locs cells slots hXI hMI hP hD hS hc hs
  have hA : ∀ q : Nat, s.heap.size ≤ q → (fun q : Nat => s.heap.size ≤ q) q := fun _ h => h
  have hbA : ¬ (fun q : Nat => s.heap.size ≤ q) b := Nat.not_le.mpr hbl
  have hn := hXI.n
  have hok := hXI.ok
  refine lv_aload_n (pc := 1575) hx hb dL_law_1575 rfl (lv_at hl 2 rfl) ?_
  refine lv_aload_n (pc := 1576) hx hb dL_law_1576 rfl (lv_at hl 3 rfl) ?_
  refine lv_iload_n (pc := 1577) hx hb dL_law_1577 rfl (lv_at hl 0 rfl) ?_
  refine lv_iconst (pc := 1578) (v := nI 1) hx hb dL_law_1578 (by decide) ?_
  refine lv_iadd (pc := 1579) hx hb dL_law_1579 ?_
  refine va_sld (pc := 1580) hx hb hX hbl hbA hS (l_in hi (show 1 < 8 by decide) hL) dL_law_1580 ?_
  refine lv_aload_n (pc := 1581) hx hb dL_law_1581 rfl (lv_at hl 3 rfl) ?_
  refine lv_iload_n (pc := 1582) hx hb dL_law_1582 rfl (lv_at hl 0 rfl) ?_
  refine lv_iconst (pc := 1583) (v := nI 2) hx hb dL_law_1583 (by decide) ?_
  refine lv_iadd (pc := 1584) hx hb dL_law_1584 ?_
  refine va_sld (pc := 1585) hx hb hX hbl hbA hS (l_in hi (show 2 < 8 by decide) hL) dL_law_1585 ?_
  refine lv_aload_n (pc := 1586) hx hb dL_law_1586 rfl (lv_at hl 3 rfl) ?_
  refine lv_iload_n (pc := 1587) hx hb dL_law_1587 rfl (lv_at hl 0 rfl) ?_
  refine lv_iconst (pc := 1588) (v := nI 3) hx hb dL_law_1588 (by decide) ?_
  refine lv_iadd (pc := 1589) hx hb dL_law_1589 ?_
  refine va_sld (pc := 1590) hx hb hX hbl hbA hS (l_in hi (show 3 < 8 by decide) hL) dL_law_1590 ?_
  obtain ⟨r, s2, hT, hM1⟩ := l_X_store l D ci (fun q : Nat => s.heap.size ≤ q) sa WM hXI (xs (nI i + nI 1).toNatClampNeg) (xs (nI i + nI 2).toNatClampNeg) (xs (nI i + nI 3).toNatClampNeg)
  obtain ⟨fs, hh⟩ := hXI.hd WM
  refine q_call (pc := 1591) (va_runV (As := [.int (xs (nI i + nI 1).toNatClampNeg), .int (xs (nI i + nI 2).toNatClampNeg), .int (xs (nI i + nI 3).toNatClampNeg)]) (rest := []) ⟨hx, hb, hml, hown, hts⟩ hM1 (cwV 3 hts gL_law_X10_store rfl rfl rfl (by decide +kernel) ⟨Nat.le_of_ble_eq_true rfl, Nat.le_of_ble_eq_true rfl⟩) (q_preV (n1 := 0) (is1 := []) hK hA hZ hP hD hS rfl ⟨rfl, rfl, rfl⟩ 0 hh rfl) rfl rfl hl.1 rfl (lv_room (Nat.le_of_ble_eq_true rfl)) dL_law_1591 (l_rm hn.2 hc hs (Nat.zero_le _) (Nat.zero_le _))) hS (fun t2 locs _ hB hS => ?_)
  obtain ⟨WX, hXI, hP, hD⟩ := hB
  refine lv_pop (pc := 1594) hx hb dL_law_1594 rfl ?_
  have hP := l_swP hP
  have hD := l_swD hD
  refine lv_aload_n (pc := 1595) hx hb dL_law_1595 rfl (lv_at hl 1 rfl) ?_
  refine lv_aload_n (pc := 1596) hx hb dL_law_1596 rfl (lv_at hl 3 rfl) ?_
  refine lv_iload_n (pc := 1597) hx hb dL_law_1597 rfl (lv_at hl 0 rfl) ?_
  refine lv_iconst (pc := 1598) (v := nI 1) hx hb dL_law_1598 (by decide) ?_
  refine lv_iadd (pc := 1599) hx hb dL_law_1599 ?_
  refine va_sld (pc := 1600) hx hb hX hbl hbA hS (l_in hi (show 1 < 8 by decide) hL) dL_law_1600 ?_
  refine lv_aload_n (pc := 1601) hx hb dL_law_1601 rfl (lv_at hl 3 rfl) ?_
  refine lv_iload_n (pc := 1602) hx hb dL_law_1602 rfl (lv_at hl 0 rfl) ?_
  refine lv_iconst (pc := 1603) (v := nI 2) hx hb dL_law_1603 (by decide) ?_
  refine lv_iadd (pc := 1604) hx hb dL_law_1604 ?_
  refine va_sld (pc := 1605) hx hb hX hbl hbA hS (l_in hi (show 2 < 8 by decide) hL) dL_law_1605 ?_
  refine lv_aload_n (pc := 1606) hx hb dL_law_1606 rfl (lv_at hl 3 rfl) ?_
  refine lv_iload_n (pc := 1607) hx hb dL_law_1607 rfl (lv_at hl 0 rfl) ?_
  refine lv_iconst (pc := 1608) (v := nI 3) hx hb dL_law_1608 (by decide) ?_
  refine lv_iadd (pc := 1609) hx hb dL_law_1609 ?_
  refine va_sld (pc := 1610) hx hb hX hbl hbA hS (l_in hi (show 3 < 8 by decide) hL) dL_law_1610 ?_
  obtain ⟨r2, s3, hT2, hM2⟩ := l_M_store l D ci (fun q : Nat => s.heap.size ≤ q) sa WX hMI (xs (nI i + nI 1).toNatClampNeg) (xs (nI i + nI 2).toNatClampNeg) (xs (nI i + nI 3).toNatClampNeg)
  obtain ⟨fs, hh⟩ := hMI.hd WX
  refine q_call (pc := 1611) (va_runV (As := [.int (xs (nI i + nI 1).toNatClampNeg), .int (xs (nI i + nI 2).toNatClampNeg), .int (xs (nI i + nI 3).toNatClampNeg)]) (rest := []) ⟨hx, hb, hml, hown, hts⟩ hM2 (cwV 3 hts gL_law_X11_store rfl rfl rfl (by decide +kernel) ⟨Nat.le_of_ble_eq_true rfl, Nat.le_of_ble_eq_true rfl⟩) (q_preV (n1 := 0) (is1 := []) hK hA hZ hP hD hS rfl ⟨rfl, rfl, rfl⟩ 0 hh rfl) rfl rfl hl.1 rfl (lv_room (Nat.le_of_ble_eq_true rfl)) dL_law_1611 (l_rm hn.2 hc hs (Nat.zero_le _) (Nat.zero_le _))) hS (fun t2 locs _ hB hS => ?_)
  obtain ⟨WM, hMI, hP, hD⟩ := hB
  obtain ⟨hrr, e23⟩ := l_tstore_one hok hT hT2
  rw [← e23] at hMI
  have hP := l_swP hP
  have hD := l_swD hD
  refine lv_pop (pc := 1614) hx hb dL_law_1614 rfl ?_
  refine lv_goto (pc := 1615) (tgt := 2146) hx hb dL_law_1615 rfl ?_
  exact hgo WX WM _ _ _ _ _ _ _ _ _ hXI hMI hP hD hS hc hs
theorem law_30 (p : Program) (l : Launch) (e : Env) (s : State) (m : MethodId) (below : List Frame) (meth : Method) (c : Code) (b L : Nat) (xs : Nat → Int32) (D : va_G) (ci : Nat → ClassId) (sa : Nat → Nat) {a_x a_m i : Nat} {ls : Array Slot} (C0 : lL_C p l e s m below meth c b L xs D ci sa) (hi : i + 8 ≤ L) (hl : lv_has ls 4 [(3, .int (nI i)), (2, .ref a_m), (1, .ref a_x), (0, .ref b)]) (hgo : lL_go p l e s m below meth c b L xs D ci sa a_x a_m ls 2146) : lL_go p l e s m below meth c b L xs D ci sa a_x a_m ls 1618 := by
  obtain ⟨hx, hb, hml, hown, hts, hX, hbl, hK, hZ, hret, hlocks, hL⟩ := C0
  intro WX WM t n s0 sv kv H locs cells slots hXI hMI hP hD hS hc hs
  have hA : ∀ q : Nat, s.heap.size ≤ q → (fun q : Nat => s.heap.size ≤ q) q := fun _ h => h
  have hbA : ¬ (fun q : Nat => s.heap.size ≤ q) b := Nat.not_le.mpr hbl
  have hn := hXI.n
  have hok := hXI.ok
  refine lv_aload_n (pc := 1618) hx hb dL_law_1618 rfl (lv_at hl 2 rfl) ?_
  refine lv_aload_n (pc := 1619) hx hb dL_law_1619 rfl (lv_at hl 3 rfl) ?_
  refine lv_iload_n (pc := 1620) hx hb dL_law_1620 rfl (lv_at hl 0 rfl) ?_
  refine lv_iconst (pc := 1621) (v := nI 1) hx hb dL_law_1621 (by decide) ?_
  refine lv_iadd (pc := 1622) hx hb dL_law_1622 ?_
  refine va_sld (pc := 1623) hx hb hX hbl hbA hS (l_in hi (show 1 < 8 by decide) hL) dL_law_1623 ?_
  refine lv_aload_n (pc := 1624) hx hb dL_law_1624 rfl (lv_at hl 3 rfl) ?_
  refine lv_iload_n (pc := 1625) hx hb dL_law_1625 rfl (lv_at hl 0 rfl) ?_
  refine lv_iconst (pc := 1626) (v := nI 2) hx hb dL_law_1626 (by decide) ?_
  refine lv_iadd (pc := 1627) hx hb dL_law_1627 ?_
  refine va_sld (pc := 1628) hx hb hX hbl hbA hS (l_in hi (show 2 < 8 by decide) hL) dL_law_1628 ?_
  obtain ⟨r, s2, hT, hM1⟩ := l_X_drop l D ci (fun q : Nat => s.heap.size ≤ q) sa WM hXI (xs (nI i + nI 1).toNatClampNeg) (xs (nI i + nI 2).toNatClampNeg)
  obtain ⟨fs, hh⟩ := hXI.hd WM
  refine q_call (pc := 1629) (va_runV (As := [.int (xs (nI i + nI 1).toNatClampNeg), .int (xs (nI i + nI 2).toNatClampNeg)]) (rest := []) ⟨hx, hb, hml, hown, hts⟩ hM1 (cwV 2 hts gL_law_X10_drop rfl rfl rfl (by decide +kernel) ⟨Nat.le_of_ble_eq_true rfl, Nat.le_of_ble_eq_true rfl⟩) (q_preV (n1 := 0) (is1 := []) hK hA hZ hP hD hS rfl ⟨rfl, rfl, rfl⟩ 0 hh rfl) rfl rfl hl.1 rfl (lv_room (Nat.le_of_ble_eq_true rfl)) dL_law_1629 (l_rm hn.2 hc hs (Nat.zero_le _) (Nat.zero_le _))) hS (fun t2 locs _ hB hS => ?_)
  obtain ⟨WX, hXI, hP, hD⟩ := hB
  refine lv_pop (pc := 1632) hx hb dL_law_1632 rfl ?_
  have hP := l_swP hP
  have hD := l_swD hD
  refine lv_aload_n (pc := 1633) hx hb dL_law_1633 rfl (lv_at hl 1 rfl) ?_
  refine lv_aload_n (pc := 1634) hx hb dL_law_1634 rfl (lv_at hl 3 rfl) ?_
  refine lv_iload_n (pc := 1635) hx hb dL_law_1635 rfl (lv_at hl 0 rfl) ?_
  refine lv_iconst (pc := 1636) (v := nI 1) hx hb dL_law_1636 (by decide) ?_
  refine lv_iadd (pc := 1637) hx hb dL_law_1637 ?_
  refine va_sld (pc := 1638) hx hb hX hbl hbA hS (l_in hi (show 1 < 8 by decide) hL) dL_law_1638 ?_
  refine lv_aload_n (pc := 1639) hx hb dL_law_1639 rfl (lv_at hl 3 rfl) ?_
  refine lv_iload_n (pc := 1640) hx hb dL_law_1640 rfl (lv_at hl 0 rfl) ?_
  refine lv_iconst (pc := 1641) (v := nI 2) hx hb dL_law_1641 (by decide) ?_
  refine lv_iadd (pc := 1642) hx hb dL_law_1642 ?_
  refine va_sld (pc := 1643) hx hb hX hbl hbA hS (l_in hi (show 2 < 8 by decide) hL) dL_law_1643 ?_
  obtain ⟨r2, s3, hT2, hM2⟩ := l_M_drop l D ci (fun q : Nat => s.heap.size ≤ q) sa WX hMI (xs (nI i + nI 1).toNatClampNeg) (xs (nI i + nI 2).toNatClampNeg)
  obtain ⟨fs, hh⟩ := hMI.hd WX
  refine q_call (pc := 1644) (va_runV (As := [.int (xs (nI i + nI 1).toNatClampNeg), .int (xs (nI i + nI 2).toNatClampNeg)]) (rest := []) ⟨hx, hb, hml, hown, hts⟩ hM2 (cwV 2 hts gL_law_X11_drop rfl rfl rfl (by decide +kernel) ⟨Nat.le_of_ble_eq_true rfl, Nat.le_of_ble_eq_true rfl⟩) (q_preV (n1 := 0) (is1 := []) hK hA hZ hP hD hS rfl ⟨rfl, rfl, rfl⟩ 0 hh rfl) rfl rfl hl.1 rfl (lv_room (Nat.le_of_ble_eq_true rfl)) dL_law_1644 (l_rm hn.2 hc hs (Nat.zero_le _) (Nat.zero_le _))) hS (fun t2 locs _ hB hS => ?_)
  obtain ⟨WM, hMI, hP, hD⟩ := hB
  obtain ⟨hrr, e23⟩ := l_tdrop_one hok hT hT2
  rw [← e23] at hMI
  have hP := l_swP hP
  have hD := l_swD hD
  refine lv_pop (pc := 1647) hx hb dL_law_1647 rfl ?_
  refine lv_goto (pc := 1648) (tgt := 2146) hx hb dL_law_1648 rfl ?_
  exact hgo WX WM _ _ _ _ _ _ _ _ _ hXI hMI hP hD hS hc hs
theorem law_31 (p : Program) (l : Launch) (e : Env) (s : State) (m : MethodId) (below : List Frame) (meth : Method) (c : Code) (b L : Nat) (xs : Nat → Int32) (D : va_G) (ci : Nat → ClassId) (sa : Nat → Nat) {a_x a_m i : Nat} {ls : Array Slot} (C0 : lL_C p l e s m below meth c b L xs D ci sa) (hi : i + 8 ≤ L) (hl : lv_has ls 4 [(3, .int (nI i)), (2, .ref a_m), (1, .ref a_x), (0, .ref b)]) (hgo : lL_go p l e s m below meth c b L xs D ci sa a_x a_m ls 2146) : lL_go p l e s m below meth c b L xs D ci sa a_x a_m ls 1651 := by
  obtain ⟨hx, hb, hml, hown, hts, hX, hbl, hK, hZ, hret, hlocks, hL⟩ := C0
  intro WX WM t n s0 sv kv H locs cells slots hXI hMI hP hD hS hc hs
  have hA : ∀ q : Nat, s.heap.size ≤ q → (fun q : Nat => s.heap.size ≤ q) q := fun _ h => h
  have hbA : ¬ (fun q : Nat => s.heap.size ≤ q) b := Nat.not_le.mpr hbl
  have hn := hXI.n
  have hok := hXI.ok
  refine lv_aload_n (pc := 1651) hx hb dL_law_1651 rfl (lv_at hl 2 rfl) ?_
  refine lv_aload_n (pc := 1652) hx hb dL_law_1652 rfl (lv_at hl 3 rfl) ?_
  refine lv_iload_n (pc := 1653) hx hb dL_law_1653 rfl (lv_at hl 0 rfl) ?_
  refine lv_iconst (pc := 1654) (v := nI 1) hx hb dL_law_1654 (by decide) ?_
  refine lv_iadd (pc := 1655) hx hb dL_law_1655 ?_
  refine va_sld (pc := 1656) hx hb hX hbl hbA hS (l_in hi (show 1 < 8 by decide) hL) dL_law_1656 ?_
  refine lv_aload_n (pc := 1657) hx hb dL_law_1657 rfl (lv_at hl 3 rfl) ?_
  refine lv_iload_n (pc := 1658) hx hb dL_law_1658 rfl (lv_at hl 0 rfl) ?_
  refine lv_iconst (pc := 1659) (v := nI 2) hx hb dL_law_1659 (by decide) ?_
  refine lv_iadd (pc := 1660) hx hb dL_law_1660 ?_
  refine va_sld (pc := 1661) hx hb hX hbl hbA hS (l_in hi (show 2 < 8 by decide) hL) dL_law_1661 ?_
  obtain ⟨r, hM1⟩ := l_X_piece l D ci (fun q : Nat => s.heap.size ≤ q) sa WM hXI (xs (nI i + nI 1).toNatClampNeg) (xs (nI i + nI 2).toNatClampNeg)
  obtain ⟨fs, hh⟩ := hXI.hd WM
  refine q_call (pc := 1662) (va_runV (As := [.int (xs (nI i + nI 1).toNatClampNeg), .int (xs (nI i + nI 2).toNatClampNeg)]) (rest := []) ⟨hx, hb, hml, hown, hts⟩ hM1 (cwV 2 hts gL_law_X10_piece rfl rfl rfl (by decide +kernel) ⟨Nat.le_of_ble_eq_true rfl, Nat.le_of_ble_eq_true rfl⟩) (q_preV (n1 := 0) (is1 := []) hK hA hZ hP hD hS rfl ⟨rfl, rfl, rfl⟩ 0 hh rfl) rfl rfl hl.1 rfl (lv_room (Nat.le_of_ble_eq_true rfl)) dL_law_1662 (l_rm hn.2 hc hs (Nat.zero_le _) (Nat.zero_le _))) hS (fun t2 locs _ hB hS => ?_)
  obtain ⟨WX, hXI, hP, hD⟩ := hB
  refine lv_pop (pc := 1665) hx hb dL_law_1665 rfl ?_
  have hP := l_swP hP
  have hD := l_swD hD
  refine lv_aload_n (pc := 1666) hx hb dL_law_1666 rfl (lv_at hl 1 rfl) ?_
  refine lv_aload_n (pc := 1667) hx hb dL_law_1667 rfl (lv_at hl 3 rfl) ?_
  refine lv_iload_n (pc := 1668) hx hb dL_law_1668 rfl (lv_at hl 0 rfl) ?_
  refine lv_iconst (pc := 1669) (v := nI 1) hx hb dL_law_1669 (by decide) ?_
  refine lv_iadd (pc := 1670) hx hb dL_law_1670 ?_
  refine va_sld (pc := 1671) hx hb hX hbl hbA hS (l_in hi (show 1 < 8 by decide) hL) dL_law_1671 ?_
  refine lv_aload_n (pc := 1672) hx hb dL_law_1672 rfl (lv_at hl 3 rfl) ?_
  refine lv_iload_n (pc := 1673) hx hb dL_law_1673 rfl (lv_at hl 0 rfl) ?_
  refine lv_iconst (pc := 1674) (v := nI 2) hx hb dL_law_1674 (by decide) ?_
  refine lv_iadd (pc := 1675) hx hb dL_law_1675 ?_
  refine va_sld (pc := 1676) hx hb hX hbl hbA hS (l_in hi (show 2 < 8 by decide) hL) dL_law_1676 ?_
  obtain ⟨r2, hM2⟩ := l_M_piece l D ci (fun q : Nat => s.heap.size ≤ q) sa WX hMI (xs (nI i + nI 1).toNatClampNeg) (xs (nI i + nI 2).toNatClampNeg)
  obtain ⟨fs, hh⟩ := hMI.hd WX
  refine q_call (pc := 1677) (va_runV (As := [.int (xs (nI i + nI 1).toNatClampNeg), .int (xs (nI i + nI 2).toNatClampNeg)]) (rest := []) ⟨hx, hb, hml, hown, hts⟩ hM2 (cwV 2 hts gL_law_X11_piece rfl rfl rfl (by decide +kernel) ⟨Nat.le_of_ble_eq_true rfl, Nat.le_of_ble_eq_true rfl⟩) (q_preV (n1 := 0) (is1 := []) hK hA hZ hP hD hS rfl ⟨rfl, rfl, rfl⟩ 0 hh rfl) rfl rfl hl.1 rfl (lv_room (Nat.le_of_ble_eq_true rfl)) dL_law_1677 (l_rm hn.2 hc hs (Nat.zero_le _) (Nat.zero_le _))) hS (fun t2 locs _ hB hS => ?_)
  obtain ⟨WM, hMI, hP, hD⟩ := hB
  have hP := l_swP hP
  have hD := l_swD hD
  refine lv_pop (pc := 1680) hx hb dL_law_1680 rfl ?_
  refine lv_goto (pc := 1681) (tgt := 2146) hx hb dL_law_1681 rfl ?_
  exact hgo WX WM _ _ _ _ _ _ _ _ _ hXI hMI hP hD hS hc hs
theorem law_32 (p : Program) (l : Launch) (e : Env) (s : State) (m : MethodId) (below : List Frame) (meth : Method) (c : Code) (b L : Nat) (xs : Nat → Int32) (D : va_G) (ci : Nat → ClassId) (sa : Nat → Nat) {a_x a_m i : Nat} {ls : Array Slot} (C0 : lL_C p l e s m below meth c b L xs D ci sa) (hi : i + 8 ≤ L) (hl : lv_has ls 4 [(3, .int (nI i)), (2, .ref a_m), (1, .ref a_x), (0, .ref b)]) (hgo : lL_go p l e s m below meth c b L xs D ci sa a_x a_m ls 2146) : lL_go p l e s m below meth c b L xs D ci sa a_x a_m ls 1684 := by
  obtain ⟨hx, hb, hml, hown, hts, hX, hbl, hK, hZ, hret, hlocks, hL⟩ := C0
  intro WX WM t n s0 sv kv H locs cells slots hXI hMI hP hD hS hc hs
  have hA : ∀ q : Nat, s.heap.size ≤ q → (fun q : Nat => s.heap.size ≤ q) q := fun _ h => h
  have hbA : ¬ (fun q : Nat => s.heap.size ≤ q) b := Nat.not_le.mpr hbl
  have hn := hXI.n
  have hok := hXI.ok
  refine lv_aload_n (pc := 1684) hx hb dL_law_1684 rfl (lv_at hl 2 rfl) ?_
  refine lv_aload_n (pc := 1685) hx hb dL_law_1685 rfl (lv_at hl 3 rfl) ?_
  refine lv_iload_n (pc := 1686) hx hb dL_law_1686 rfl (lv_at hl 0 rfl) ?_
  refine lv_iconst (pc := 1687) (v := nI 1) hx hb dL_law_1687 (by decide) ?_
  refine lv_iadd (pc := 1688) hx hb dL_law_1688 ?_
  refine va_sld (pc := 1689) hx hb hX hbl hbA hS (l_in hi (show 1 < 8 by decide) hL) dL_law_1689 ?_
  refine lv_aload_n (pc := 1690) hx hb dL_law_1690 rfl (lv_at hl 3 rfl) ?_
  refine lv_iload_n (pc := 1691) hx hb dL_law_1691 rfl (lv_at hl 0 rfl) ?_
  refine lv_iconst (pc := 1692) (v := nI 2) hx hb dL_law_1692 (by decide) ?_
  refine lv_iadd (pc := 1693) hx hb dL_law_1693 ?_
  refine va_sld (pc := 1694) hx hb hX hbl hbA hS (l_in hi (show 2 < 8 by decide) hL) dL_law_1694 ?_
  refine lv_aload_n (pc := 1695) hx hb dL_law_1695 rfl (lv_at hl 3 rfl) ?_
  refine lv_iload_n (pc := 1696) hx hb dL_law_1696 rfl (lv_at hl 0 rfl) ?_
  refine lv_iconst (pc := 1697) (v := nI 3) hx hb dL_law_1697 (by decide) ?_
  refine lv_iadd (pc := 1698) hx hb dL_law_1698 ?_
  refine va_sld (pc := 1699) hx hb hX hbl hbA hS (l_in hi (show 3 < 8 by decide) hL) dL_law_1699 ?_
  obtain ⟨r, hM1⟩ := l_X_shown l D ci (fun q : Nat => s.heap.size ≤ q) sa WM hXI (xs (nI i + nI 1).toNatClampNeg) (xs (nI i + nI 2).toNatClampNeg) (xs (nI i + nI 3).toNatClampNeg)
  obtain ⟨fs, hh⟩ := hXI.hd WM
  refine q_call (pc := 1700) (va_runV (As := [.int (xs (nI i + nI 1).toNatClampNeg), .int (xs (nI i + nI 2).toNatClampNeg), .int (xs (nI i + nI 3).toNatClampNeg)]) (rest := []) ⟨hx, hb, hml, hown, hts⟩ hM1 (cwV 3 hts gL_law_X10_shown rfl rfl rfl (by decide +kernel) ⟨Nat.le_of_ble_eq_true rfl, Nat.le_of_ble_eq_true rfl⟩) (q_preV (n1 := 0) (is1 := []) hK hA hZ hP hD hS rfl ⟨rfl, rfl, rfl⟩ 0 hh rfl) rfl rfl hl.1 rfl (lv_room (Nat.le_of_ble_eq_true rfl)) dL_law_1700 (l_rm hn.2 hc hs (Nat.zero_le _) (Nat.zero_le _))) hS (fun t2 locs _ hB hS => ?_)
  obtain ⟨WX, hXI, hP, hD⟩ := hB
  refine lv_pop (pc := 1703) hx hb dL_law_1703 rfl ?_
  have hP := l_swP hP
  have hD := l_swD hD
  refine lv_aload_n (pc := 1704) hx hb dL_law_1704 rfl (lv_at hl 1 rfl) ?_
  refine lv_aload_n (pc := 1705) hx hb dL_law_1705 rfl (lv_at hl 3 rfl) ?_
  refine lv_iload_n (pc := 1706) hx hb dL_law_1706 rfl (lv_at hl 0 rfl) ?_
  refine lv_iconst (pc := 1707) (v := nI 1) hx hb dL_law_1707 (by decide) ?_
  refine lv_iadd (pc := 1708) hx hb dL_law_1708 ?_
  refine va_sld (pc := 1709) hx hb hX hbl hbA hS (l_in hi (show 1 < 8 by decide) hL) dL_law_1709 ?_
  refine lv_aload_n (pc := 1710) hx hb dL_law_1710 rfl (lv_at hl 3 rfl) ?_
  refine lv_iload_n (pc := 1711) hx hb dL_law_1711 rfl (lv_at hl 0 rfl) ?_
  refine lv_iconst (pc := 1712) (v := nI 2) hx hb dL_law_1712 (by decide) ?_
  refine lv_iadd (pc := 1713) hx hb dL_law_1713 ?_
  refine va_sld (pc := 1714) hx hb hX hbl hbA hS (l_in hi (show 2 < 8 by decide) hL) dL_law_1714 ?_
  refine lv_aload_n (pc := 1715) hx hb dL_law_1715 rfl (lv_at hl 3 rfl) ?_
  refine lv_iload_n (pc := 1716) hx hb dL_law_1716 rfl (lv_at hl 0 rfl) ?_
  refine lv_iconst (pc := 1717) (v := nI 3) hx hb dL_law_1717 (by decide) ?_
  refine lv_iadd (pc := 1718) hx hb dL_law_1718 ?_
  refine va_sld (pc := 1719) hx hb hX hbl hbA hS (l_in hi (show 3 < 8 by decide) hL) dL_law_1719 ?_
  obtain ⟨r2, hM2⟩ := l_M_shown l D ci (fun q : Nat => s.heap.size ≤ q) sa WX hMI (xs (nI i + nI 1).toNatClampNeg) (xs (nI i + nI 2).toNatClampNeg) (xs (nI i + nI 3).toNatClampNeg)
  obtain ⟨fs, hh⟩ := hMI.hd WX
  refine q_call (pc := 1720) (va_runV (As := [.int (xs (nI i + nI 1).toNatClampNeg), .int (xs (nI i + nI 2).toNatClampNeg), .int (xs (nI i + nI 3).toNatClampNeg)]) (rest := []) ⟨hx, hb, hml, hown, hts⟩ hM2 (cwV 3 hts gL_law_X11_shown rfl rfl rfl (by decide +kernel) ⟨Nat.le_of_ble_eq_true rfl, Nat.le_of_ble_eq_true rfl⟩) (q_preV (n1 := 0) (is1 := []) hK hA hZ hP hD hS rfl ⟨rfl, rfl, rfl⟩ 0 hh rfl) rfl rfl hl.1 rfl (lv_room (Nat.le_of_ble_eq_true rfl)) dL_law_1720 (l_rm hn.2 hc hs (Nat.zero_le _) (Nat.zero_le _))) hS (fun t2 locs _ hB hS => ?_)
  obtain ⟨WM, hMI, hP, hD⟩ := hB
  have hP := l_swP hP
  have hD := l_swD hD
  refine lv_pop (pc := 1723) hx hb dL_law_1723 rfl ?_
  refine lv_goto (pc := 1724) (tgt := 2146) hx hb dL_law_1724 rfl ?_
  exact hgo WX WM _ _ _ _ _ _ _ _ _ hXI hMI hP hD hS hc hs
end
section
/-! the law's cases -/
theorem law_33 (p : Program) (l : Launch) (e : Env) (s : State) (m : MethodId) (below : List Frame) (meth : Method) (c : Code) (b L : Nat) (xs : Nat → Int32) (D : va_G) (ci : Nat → ClassId) (sa : Nat → Nat) {a_x a_m i : Nat} {ls : Array Slot} (C0 : lL_C p l e s m below meth c b L xs D ci sa) (hi : i + 8 ≤ L) (hl : lv_has ls 4 [(3, .int (nI i)), (2, .ref a_m), (1, .ref a_x), (0, .ref b)]) (hgo : lL_go p l e s m below meth c b L xs D ci sa a_x a_m ls 2146) : lL_go p l e s m below meth c b L xs D ci sa a_x a_m ls 1727 := by
  obtain ⟨hx, hb, hml, hown, hts, hX, hbl, hK, hZ, hret, hlocks, hL⟩ := C0
  intro WX WM t n s0 sv kv H locs cells slots hXI hMI hP hD hS hc hs
  have hA : ∀ q : Nat, s.heap.size ≤ q → (fun q : Nat => s.heap.size ≤ q) q := fun _ h => h
  have hbA : ¬ (fun q : Nat => s.heap.size ≤ q) b := Nat.not_le.mpr hbl
  have hn := hXI.n
  have hok := hXI.ok
  refine lv_aload_n (pc := 1727) hx hb dL_law_1727 rfl (lv_at hl 2 rfl) ?_
  refine lv_aload_n (pc := 1728) hx hb dL_law_1728 rfl (lv_at hl 3 rfl) ?_
  refine lv_iload_n (pc := 1729) hx hb dL_law_1729 rfl (lv_at hl 0 rfl) ?_
  refine lv_iconst (pc := 1730) (v := nI 1) hx hb dL_law_1730 (by decide) ?_
  refine lv_iadd (pc := 1731) hx hb dL_law_1731 ?_
  refine va_sld (pc := 1732) hx hb hX hbl hbA hS (l_in hi (show 1 < 8 by decide) hL) dL_law_1732 ?_
  refine lv_aload_n (pc := 1733) hx hb dL_law_1733 rfl (lv_at hl 3 rfl) ?_
  refine lv_iload_n (pc := 1734) hx hb dL_law_1734 rfl (lv_at hl 0 rfl) ?_
  refine lv_iconst (pc := 1735) (v := nI 2) hx hb dL_law_1735 (by decide) ?_
  refine lv_iadd (pc := 1736) hx hb dL_law_1736 ?_
  refine va_sld (pc := 1737) hx hb hX hbl hbA hS (l_in hi (show 2 < 8 by decide) hL) dL_law_1737 ?_
  refine lv_aload_n (pc := 1738) hx hb dL_law_1738 rfl (lv_at hl 3 rfl) ?_
  refine lv_iload_n (pc := 1739) hx hb dL_law_1739 rfl (lv_at hl 0 rfl) ?_
  refine lv_iconst (pc := 1740) (v := nI 3) hx hb dL_law_1740 (by decide) ?_
  refine lv_iadd (pc := 1741) hx hb dL_law_1741 ?_
  refine va_sld (pc := 1742) hx hb hX hbl hbA hS (l_in hi (show 3 < 8 by decide) hL) dL_law_1742 ?_
  refine lv_aload_n (pc := 1743) hx hb dL_law_1743 rfl (lv_at hl 3 rfl) ?_
  refine lv_iload_n (pc := 1744) hx hb dL_law_1744 rfl (lv_at hl 0 rfl) ?_
  refine lv_iconst (pc := 1745) (v := nI 4) hx hb dL_law_1745 (by decide) ?_
  refine lv_iadd (pc := 1746) hx hb dL_law_1746 ?_
  refine va_sld (pc := 1747) hx hb hX hbl hbA hS (l_in hi (show 4 < 8 by decide) hL) dL_law_1747 ?_
  refine lv_aload_n (pc := 1748) hx hb dL_law_1748 rfl (lv_at hl 3 rfl) ?_
  refine lv_iload_n (pc := 1749) hx hb dL_law_1749 rfl (lv_at hl 0 rfl) ?_
  refine lv_iconst (pc := 1750) (v := nI 5) hx hb dL_law_1750 (by decide) ?_
  refine lv_iadd (pc := 1751) hx hb dL_law_1751 ?_
  refine va_sld (pc := 1752) hx hb hX hbl hbA hS (l_in hi (show 5 < 8 by decide) hL) dL_law_1752 ?_
  refine lv_aload_n (pc := 1753) hx hb dL_law_1753 rfl (lv_at hl 3 rfl) ?_
  refine lv_iload_n (pc := 1754) hx hb dL_law_1754 rfl (lv_at hl 0 rfl) ?_
  refine lv_bipush (pc := 1755) (v := nI 6) hx hb dL_law_1755 (by decide) ?_
  refine lv_iadd (pc := 1757) hx hb dL_law_1757 ?_
  refine va_sld (pc := 1758) hx hb hX hbl hbA hS (l_in hi (show 6 < 8 by decide) hL) dL_law_1758 ?_
  refine lv_aload_n (pc := 1759) hx hb dL_law_1759 rfl (lv_at hl 3 rfl) ?_
  refine lv_iload_n (pc := 1760) hx hb dL_law_1760 rfl (lv_at hl 0 rfl) ?_
  refine lv_bipush (pc := 1761) (v := nI 7) hx hb dL_law_1761 (by decide) ?_
  refine lv_iadd (pc := 1763) hx hb dL_law_1763 ?_
  refine va_sld (pc := 1764) hx hb hX hbl hbA hS (l_in hi (show 7 < 8 by decide) hL) dL_law_1764 ?_
  obtain ⟨r, hM1⟩ := l_X_lacks l D ci (fun q : Nat => s.heap.size ≤ q) sa WM hXI (xs (nI i + nI 1).toNatClampNeg) (xs (nI i + nI 2).toNatClampNeg) (xs (nI i + nI 3).toNatClampNeg) (xs (nI i + nI 4).toNatClampNeg) (xs (nI i + nI 5).toNatClampNeg) (xs (nI i + nI 6).toNatClampNeg) (xs (nI i + nI 7).toNatClampNeg)
  obtain ⟨fs, hh⟩ := hXI.hd WM
  refine q_call (pc := 1765) (va_runV (As := [.int (xs (nI i + nI 1).toNatClampNeg), .int (xs (nI i + nI 2).toNatClampNeg), .int (xs (nI i + nI 3).toNatClampNeg), .int (xs (nI i + nI 4).toNatClampNeg), .int (xs (nI i + nI 5).toNatClampNeg), .int (xs (nI i + nI 6).toNatClampNeg), .int (xs (nI i + nI 7).toNatClampNeg)]) (rest := []) ⟨hx, hb, hml, hown, hts⟩ hM1 (cwV 7 hts gL_law_X10_lacks rfl rfl rfl (by decide +kernel) ⟨Nat.le_of_ble_eq_true rfl, Nat.le_of_ble_eq_true rfl⟩) (q_preV (n1 := 0) (is1 := []) hK hA hZ hP hD hS rfl ⟨rfl, rfl, rfl⟩ 0 hh rfl) rfl rfl hl.1 rfl (lv_room (Nat.le_of_ble_eq_true rfl)) dL_law_1765 (l_rm hn.2 hc hs (Nat.zero_le _) (Nat.zero_le _))) hS (fun t2 locs _ hB hS => ?_)
  obtain ⟨WX, hXI, hP, hD⟩ := hB
  refine lv_pop (pc := 1768) hx hb dL_law_1768 rfl ?_
  have hP := l_swP hP
  have hD := l_swD hD
  refine lv_aload_n (pc := 1769) hx hb dL_law_1769 rfl (lv_at hl 1 rfl) ?_
  refine lv_aload_n (pc := 1770) hx hb dL_law_1770 rfl (lv_at hl 3 rfl) ?_
  refine lv_iload_n (pc := 1771) hx hb dL_law_1771 rfl (lv_at hl 0 rfl) ?_
  refine lv_iconst (pc := 1772) (v := nI 1) hx hb dL_law_1772 (by decide) ?_
  refine lv_iadd (pc := 1773) hx hb dL_law_1773 ?_
  refine va_sld (pc := 1774) hx hb hX hbl hbA hS (l_in hi (show 1 < 8 by decide) hL) dL_law_1774 ?_
  refine lv_aload_n (pc := 1775) hx hb dL_law_1775 rfl (lv_at hl 3 rfl) ?_
  refine lv_iload_n (pc := 1776) hx hb dL_law_1776 rfl (lv_at hl 0 rfl) ?_
  refine lv_iconst (pc := 1777) (v := nI 2) hx hb dL_law_1777 (by decide) ?_
  refine lv_iadd (pc := 1778) hx hb dL_law_1778 ?_
  refine va_sld (pc := 1779) hx hb hX hbl hbA hS (l_in hi (show 2 < 8 by decide) hL) dL_law_1779 ?_
  refine lv_aload_n (pc := 1780) hx hb dL_law_1780 rfl (lv_at hl 3 rfl) ?_
  refine lv_iload_n (pc := 1781) hx hb dL_law_1781 rfl (lv_at hl 0 rfl) ?_
  refine lv_iconst (pc := 1782) (v := nI 3) hx hb dL_law_1782 (by decide) ?_
  refine lv_iadd (pc := 1783) hx hb dL_law_1783 ?_
  refine va_sld (pc := 1784) hx hb hX hbl hbA hS (l_in hi (show 3 < 8 by decide) hL) dL_law_1784 ?_
  refine lv_aload_n (pc := 1785) hx hb dL_law_1785 rfl (lv_at hl 3 rfl) ?_
  refine lv_iload_n (pc := 1786) hx hb dL_law_1786 rfl (lv_at hl 0 rfl) ?_
  refine lv_iconst (pc := 1787) (v := nI 4) hx hb dL_law_1787 (by decide) ?_
  refine lv_iadd (pc := 1788) hx hb dL_law_1788 ?_
  refine va_sld (pc := 1789) hx hb hX hbl hbA hS (l_in hi (show 4 < 8 by decide) hL) dL_law_1789 ?_
  refine lv_aload_n (pc := 1790) hx hb dL_law_1790 rfl (lv_at hl 3 rfl) ?_
  refine lv_iload_n (pc := 1791) hx hb dL_law_1791 rfl (lv_at hl 0 rfl) ?_
  refine lv_iconst (pc := 1792) (v := nI 5) hx hb dL_law_1792 (by decide) ?_
  refine lv_iadd (pc := 1793) hx hb dL_law_1793 ?_
  refine va_sld (pc := 1794) hx hb hX hbl hbA hS (l_in hi (show 5 < 8 by decide) hL) dL_law_1794 ?_
  refine lv_aload_n (pc := 1795) hx hb dL_law_1795 rfl (lv_at hl 3 rfl) ?_
  refine lv_iload_n (pc := 1796) hx hb dL_law_1796 rfl (lv_at hl 0 rfl) ?_
  refine lv_bipush (pc := 1797) (v := nI 6) hx hb dL_law_1797 (by decide) ?_
  refine lv_iadd (pc := 1799) hx hb dL_law_1799 ?_
  refine va_sld (pc := 1800) hx hb hX hbl hbA hS (l_in hi (show 6 < 8 by decide) hL) dL_law_1800 ?_
  refine lv_aload_n (pc := 1801) hx hb dL_law_1801 rfl (lv_at hl 3 rfl) ?_
  refine lv_iload_n (pc := 1802) hx hb dL_law_1802 rfl (lv_at hl 0 rfl) ?_
  refine lv_bipush (pc := 1803) (v := nI 7) hx hb dL_law_1803 (by decide) ?_
  refine lv_iadd (pc := 1805) hx hb dL_law_1805 ?_
  refine va_sld (pc := 1806) hx hb hX hbl hbA hS (l_in hi (show 7 < 8 by decide) hL) dL_law_1806 ?_
  obtain ⟨r2, hM2⟩ := l_M_lacks l D ci (fun q : Nat => s.heap.size ≤ q) sa WX hMI (xs (nI i + nI 1).toNatClampNeg) (xs (nI i + nI 2).toNatClampNeg) (xs (nI i + nI 3).toNatClampNeg) (xs (nI i + nI 4).toNatClampNeg) (xs (nI i + nI 5).toNatClampNeg) (xs (nI i + nI 6).toNatClampNeg) (xs (nI i + nI 7).toNatClampNeg)
  obtain ⟨fs, hh⟩ := hMI.hd WX
  refine q_call (pc := 1807) (va_runV (As := [.int (xs (nI i + nI 1).toNatClampNeg), .int (xs (nI i + nI 2).toNatClampNeg), .int (xs (nI i + nI 3).toNatClampNeg), .int (xs (nI i + nI 4).toNatClampNeg), .int (xs (nI i + nI 5).toNatClampNeg), .int (xs (nI i + nI 6).toNatClampNeg), .int (xs (nI i + nI 7).toNatClampNeg)]) (rest := []) ⟨hx, hb, hml, hown, hts⟩ hM2 (cwV 7 hts gL_law_X11_lacks rfl rfl rfl (by decide +kernel) ⟨Nat.le_of_ble_eq_true rfl, Nat.le_of_ble_eq_true rfl⟩) (q_preV (n1 := 0) (is1 := []) hK hA hZ hP hD hS rfl ⟨rfl, rfl, rfl⟩ 0 hh rfl) rfl rfl hl.1 rfl (lv_room (Nat.le_of_ble_eq_true rfl)) dL_law_1807 (l_rm hn.2 hc hs (Nat.zero_le _) (Nat.zero_le _))) hS (fun t2 locs _ hB hS => ?_)
  obtain ⟨WM, hMI, hP, hD⟩ := hB
  have hP := l_swP hP
  have hD := l_swD hD
  refine lv_pop (pc := 1810) hx hb dL_law_1810 rfl ?_
  refine lv_goto (pc := 1811) (tgt := 2146) hx hb dL_law_1811 rfl ?_
  exact hgo WX WM _ _ _ _ _ _ _ _ _ hXI hMI hP hD hS hc hs
theorem law_34 (p : Program) (l : Launch) (e : Env) (s : State) (m : MethodId) (below : List Frame) (meth : Method) (c : Code) (b L : Nat) (xs : Nat → Int32) (D : va_G) (ci : Nat → ClassId) (sa : Nat → Nat) {a_x a_m i : Nat} {ls : Array Slot} (C0 : lL_C p l e s m below meth c b L xs D ci sa) (hi : i + 8 ≤ L) (hl : lv_has ls 4 [(3, .int (nI i)), (2, .ref a_m), (1, .ref a_x), (0, .ref b)]) (hgo : lL_go p l e s m below meth c b L xs D ci sa a_x a_m ls 2146) : lL_go p l e s m below meth c b L xs D ci sa a_x a_m ls 1814 := by
  obtain ⟨hx, hb, hml, hown, hts, hX, hbl, hK, hZ, hret, hlocks, hL⟩ := C0
  intro WX WM t n s0 sv kv H locs cells slots hXI hMI hP hD hS hc hs
  have hA : ∀ q : Nat, s.heap.size ≤ q → (fun q : Nat => s.heap.size ≤ q) q := fun _ h => h
  have hbA : ¬ (fun q : Nat => s.heap.size ≤ q) b := Nat.not_le.mpr hbl
  have hn := hXI.n
  have hok := hXI.ok
  refine lv_aload_n (pc := 1814) hx hb dL_law_1814 rfl (lv_at hl 2 rfl) ?_
  refine lv_aload_n (pc := 1815) hx hb dL_law_1815 rfl (lv_at hl 3 rfl) ?_
  refine lv_iload_n (pc := 1816) hx hb dL_law_1816 rfl (lv_at hl 0 rfl) ?_
  refine lv_iconst (pc := 1817) (v := nI 1) hx hb dL_law_1817 (by decide) ?_
  refine lv_iadd (pc := 1818) hx hb dL_law_1818 ?_
  refine va_sld (pc := 1819) hx hb hX hbl hbA hS (l_in hi (show 1 < 8 by decide) hL) dL_law_1819 ?_
  refine lv_aload_n (pc := 1820) hx hb dL_law_1820 rfl (lv_at hl 3 rfl) ?_
  refine lv_iload_n (pc := 1821) hx hb dL_law_1821 rfl (lv_at hl 0 rfl) ?_
  refine lv_iconst (pc := 1822) (v := nI 2) hx hb dL_law_1822 (by decide) ?_
  refine lv_iadd (pc := 1823) hx hb dL_law_1823 ?_
  refine va_sld (pc := 1824) hx hb hX hbl hbA hS (l_in hi (show 2 < 8 by decide) hL) dL_law_1824 ?_
  refine lv_aload_n (pc := 1825) hx hb dL_law_1825 rfl (lv_at hl 3 rfl) ?_
  refine lv_iload_n (pc := 1826) hx hb dL_law_1826 rfl (lv_at hl 0 rfl) ?_
  refine lv_iconst (pc := 1827) (v := nI 3) hx hb dL_law_1827 (by decide) ?_
  refine lv_iadd (pc := 1828) hx hb dL_law_1828 ?_
  refine va_sld (pc := 1829) hx hb hX hbl hbA hS (l_in hi (show 3 < 8 by decide) hL) dL_law_1829 ?_
  obtain ⟨r, hM1⟩ := l_X_years l D ci (fun q : Nat => s.heap.size ≤ q) sa WM hXI (xs (nI i + nI 1).toNatClampNeg) (xs (nI i + nI 2).toNatClampNeg) (xs (nI i + nI 3).toNatClampNeg)
  obtain ⟨fs, hh⟩ := hXI.hd WM
  refine q_call (pc := 1830) (va_runV (As := [.int (xs (nI i + nI 1).toNatClampNeg), .int (xs (nI i + nI 2).toNatClampNeg), .int (xs (nI i + nI 3).toNatClampNeg)]) (rest := []) ⟨hx, hb, hml, hown, hts⟩ hM1 (cwV 3 hts gL_law_X10_years rfl rfl rfl (by decide +kernel) ⟨Nat.le_of_ble_eq_true rfl, Nat.le_of_ble_eq_true rfl⟩) (q_preV (n1 := 0) (is1 := []) hK hA hZ hP hD hS rfl ⟨rfl, rfl, rfl⟩ 0 hh rfl) rfl rfl hl.1 rfl (lv_room (Nat.le_of_ble_eq_true rfl)) dL_law_1830 (l_rm hn.2 hc hs (Nat.zero_le _) (Nat.zero_le _))) hS (fun t2 locs _ hB hS => ?_)
  obtain ⟨WX, hXI, hP, hD⟩ := hB
  refine lv_pop (pc := 1833) hx hb dL_law_1833 rfl ?_
  have hP := l_swP hP
  have hD := l_swD hD
  refine lv_aload_n (pc := 1834) hx hb dL_law_1834 rfl (lv_at hl 1 rfl) ?_
  refine lv_aload_n (pc := 1835) hx hb dL_law_1835 rfl (lv_at hl 3 rfl) ?_
  refine lv_iload_n (pc := 1836) hx hb dL_law_1836 rfl (lv_at hl 0 rfl) ?_
  refine lv_iconst (pc := 1837) (v := nI 1) hx hb dL_law_1837 (by decide) ?_
  refine lv_iadd (pc := 1838) hx hb dL_law_1838 ?_
  refine va_sld (pc := 1839) hx hb hX hbl hbA hS (l_in hi (show 1 < 8 by decide) hL) dL_law_1839 ?_
  refine lv_aload_n (pc := 1840) hx hb dL_law_1840 rfl (lv_at hl 3 rfl) ?_
  refine lv_iload_n (pc := 1841) hx hb dL_law_1841 rfl (lv_at hl 0 rfl) ?_
  refine lv_iconst (pc := 1842) (v := nI 2) hx hb dL_law_1842 (by decide) ?_
  refine lv_iadd (pc := 1843) hx hb dL_law_1843 ?_
  refine va_sld (pc := 1844) hx hb hX hbl hbA hS (l_in hi (show 2 < 8 by decide) hL) dL_law_1844 ?_
  refine lv_aload_n (pc := 1845) hx hb dL_law_1845 rfl (lv_at hl 3 rfl) ?_
  refine lv_iload_n (pc := 1846) hx hb dL_law_1846 rfl (lv_at hl 0 rfl) ?_
  refine lv_iconst (pc := 1847) (v := nI 3) hx hb dL_law_1847 (by decide) ?_
  refine lv_iadd (pc := 1848) hx hb dL_law_1848 ?_
  refine va_sld (pc := 1849) hx hb hX hbl hbA hS (l_in hi (show 3 < 8 by decide) hL) dL_law_1849 ?_
  obtain ⟨r2, hM2⟩ := l_M_years l D ci (fun q : Nat => s.heap.size ≤ q) sa WX hMI (xs (nI i + nI 1).toNatClampNeg) (xs (nI i + nI 2).toNatClampNeg) (xs (nI i + nI 3).toNatClampNeg)
  obtain ⟨fs, hh⟩ := hMI.hd WX
  refine q_call (pc := 1850) (va_runV (As := [.int (xs (nI i + nI 1).toNatClampNeg), .int (xs (nI i + nI 2).toNatClampNeg), .int (xs (nI i + nI 3).toNatClampNeg)]) (rest := []) ⟨hx, hb, hml, hown, hts⟩ hM2 (cwV 3 hts gL_law_X11_years rfl rfl rfl (by decide +kernel) ⟨Nat.le_of_ble_eq_true rfl, Nat.le_of_ble_eq_true rfl⟩) (q_preV (n1 := 0) (is1 := []) hK hA hZ hP hD hS rfl ⟨rfl, rfl, rfl⟩ 0 hh rfl) rfl rfl hl.1 rfl (lv_room (Nat.le_of_ble_eq_true rfl)) dL_law_1850 (l_rm hn.2 hc hs (Nat.zero_le _) (Nat.zero_le _))) hS (fun t2 locs _ hB hS => ?_)
  obtain ⟨WM, hMI, hP, hD⟩ := hB
  have hP := l_swP hP
  have hD := l_swD hD
  refine lv_pop (pc := 1853) hx hb dL_law_1853 rfl ?_
  refine lv_goto (pc := 1854) (tgt := 2146) hx hb dL_law_1854 rfl ?_
  exact hgo WX WM _ _ _ _ _ _ _ _ _ hXI hMI hP hD hS hc hs
theorem law_35 (p : Program) (l : Launch) (e : Env) (s : State) (m : MethodId) (below : List Frame) (meth : Method) (c : Code) (b L : Nat) (xs : Nat → Int32) (D : va_G) (ci : Nat → ClassId) (sa : Nat → Nat) {a_x a_m i : Nat} {ls : Array Slot} (C0 : lL_C p l e s m below meth c b L xs D ci sa) (hi : i + 8 ≤ L) (hl : lv_has ls 4 [(3, .int (nI i)), (2, .ref a_m), (1, .ref a_x), (0, .ref b)]) (hgo : lL_go p l e s m below meth c b L xs D ci sa a_x a_m ls 2146) : lL_go p l e s m below meth c b L xs D ci sa a_x a_m ls 1857 := by
  obtain ⟨hx, hb, hml, hown, hts, hX, hbl, hK, hZ, hret, hlocks, hL⟩ := C0
  intro WX WM t n s0 sv kv H locs cells slots hXI hMI hP hD hS hc hs
  have hA : ∀ q : Nat, s.heap.size ≤ q → (fun q : Nat => s.heap.size ≤ q) q := fun _ h => h
  have hbA : ¬ (fun q : Nat => s.heap.size ≤ q) b := Nat.not_le.mpr hbl
  have hn := hXI.n
  have hok := hXI.ok
  refine lv_aload_n (pc := 1857) hx hb dL_law_1857 rfl (lv_at hl 2 rfl) ?_
  refine lv_aload_n (pc := 1858) hx hb dL_law_1858 rfl (lv_at hl 3 rfl) ?_
  refine lv_iload_n (pc := 1859) hx hb dL_law_1859 rfl (lv_at hl 0 rfl) ?_
  refine lv_iconst (pc := 1860) (v := nI 1) hx hb dL_law_1860 (by decide) ?_
  refine lv_iadd (pc := 1861) hx hb dL_law_1861 ?_
  refine va_sld (pc := 1862) hx hb hX hbl hbA hS (l_in hi (show 1 < 8 by decide) hL) dL_law_1862 ?_
  refine lv_aload_n (pc := 1863) hx hb dL_law_1863 rfl (lv_at hl 3 rfl) ?_
  refine lv_iload_n (pc := 1864) hx hb dL_law_1864 rfl (lv_at hl 0 rfl) ?_
  refine lv_iconst (pc := 1865) (v := nI 2) hx hb dL_law_1865 (by decide) ?_
  refine lv_iadd (pc := 1866) hx hb dL_law_1866 ?_
  refine va_sld (pc := 1867) hx hb hX hbl hbA hS (l_in hi (show 2 < 8 by decide) hL) dL_law_1867 ?_
  obtain ⟨r, s2, hT, hM1⟩ := l_X_renew l D ci (fun q : Nat => s.heap.size ≤ q) sa WM hXI (xs (nI i + nI 1).toNatClampNeg) (xs (nI i + nI 2).toNatClampNeg)
  obtain ⟨fs, hh⟩ := hXI.hd WM
  refine q_call (pc := 1868) (va_runV (As := [.int (xs (nI i + nI 1).toNatClampNeg), .int (xs (nI i + nI 2).toNatClampNeg)]) (rest := []) ⟨hx, hb, hml, hown, hts⟩ hM1 (cwV 2 hts gL_law_X10_renew rfl rfl rfl (by decide +kernel) ⟨Nat.le_of_ble_eq_true rfl, Nat.le_of_ble_eq_true rfl⟩) (q_preV (n1 := 0) (is1 := []) hK hA hZ hP hD hS rfl ⟨rfl, rfl, rfl⟩ 0 hh rfl) rfl rfl hl.1 rfl (lv_room (Nat.le_of_ble_eq_true rfl)) dL_law_1868 (l_rm hn.2 hc hs (Nat.zero_le _) (Nat.zero_le _))) hS (fun t2 locs _ hB hS => ?_)
  obtain ⟨WX, hXI, hP, hD⟩ := hB
  refine lv_pop (pc := 1871) hx hb dL_law_1871 rfl ?_
  have hP := l_swP hP
  have hD := l_swD hD
  refine lv_aload_n (pc := 1872) hx hb dL_law_1872 rfl (lv_at hl 1 rfl) ?_
  refine lv_aload_n (pc := 1873) hx hb dL_law_1873 rfl (lv_at hl 3 rfl) ?_
  refine lv_iload_n (pc := 1874) hx hb dL_law_1874 rfl (lv_at hl 0 rfl) ?_
  refine lv_iconst (pc := 1875) (v := nI 1) hx hb dL_law_1875 (by decide) ?_
  refine lv_iadd (pc := 1876) hx hb dL_law_1876 ?_
  refine va_sld (pc := 1877) hx hb hX hbl hbA hS (l_in hi (show 1 < 8 by decide) hL) dL_law_1877 ?_
  refine lv_aload_n (pc := 1878) hx hb dL_law_1878 rfl (lv_at hl 3 rfl) ?_
  refine lv_iload_n (pc := 1879) hx hb dL_law_1879 rfl (lv_at hl 0 rfl) ?_
  refine lv_iconst (pc := 1880) (v := nI 2) hx hb dL_law_1880 (by decide) ?_
  refine lv_iadd (pc := 1881) hx hb dL_law_1881 ?_
  refine va_sld (pc := 1882) hx hb hX hbl hbA hS (l_in hi (show 2 < 8 by decide) hL) dL_law_1882 ?_
  obtain ⟨r2, s3, hT2, hM2⟩ := l_M_renew l D ci (fun q : Nat => s.heap.size ≤ q) sa WX hMI (xs (nI i + nI 1).toNatClampNeg) (xs (nI i + nI 2).toNatClampNeg)
  obtain ⟨fs, hh⟩ := hMI.hd WX
  refine q_call (pc := 1883) (va_runV (As := [.int (xs (nI i + nI 1).toNatClampNeg), .int (xs (nI i + nI 2).toNatClampNeg)]) (rest := []) ⟨hx, hb, hml, hown, hts⟩ hM2 (cwV 2 hts gL_law_X11_renew rfl rfl rfl (by decide +kernel) ⟨Nat.le_of_ble_eq_true rfl, Nat.le_of_ble_eq_true rfl⟩) (q_preV (n1 := 0) (is1 := []) hK hA hZ hP hD hS rfl ⟨rfl, rfl, rfl⟩ 0 hh rfl) rfl rfl hl.1 rfl (lv_room (Nat.le_of_ble_eq_true rfl)) dL_law_1883 (l_rm hn.2 hc hs (Nat.zero_le _) (Nat.zero_le _))) hS (fun t2 locs _ hB hS => ?_)
  obtain ⟨WM, hMI, hP, hD⟩ := hB
  obtain ⟨hrr, e23⟩ := l_trenew_one hok hT hT2
  rw [← e23] at hMI
  have hP := l_swP hP
  have hD := l_swD hD
  refine lv_pop (pc := 1886) hx hb dL_law_1886 rfl ?_
  refine lv_goto (pc := 1887) (tgt := 2146) hx hb dL_law_1887 rfl ?_
  exact hgo WX WM _ _ _ _ _ _ _ _ _ hXI hMI hP hD hS hc hs
theorem law_36 (p : Program) (l : Launch) (e : Env) (s : State) (m : MethodId) (below : List Frame) (meth : Method) (c : Code) (b L : Nat) (xs : Nat → Int32) (D : va_G) (ci : Nat → ClassId) (sa : Nat → Nat) {a_x a_m i : Nat} {ls : Array Slot} (C0 : lL_C p l e s m below meth c b L xs D ci sa) (hi : i + 8 ≤ L) (hl : lv_has ls 4 [(3, .int (nI i)), (2, .ref a_m), (1, .ref a_x), (0, .ref b)]) (hgo : lL_go p l e s m below meth c b L xs D ci sa a_x a_m ls 2146) : lL_go p l e s m below meth c b L xs D ci sa a_x a_m ls 1890 := by
  obtain ⟨hx, hb, hml, hown, hts, hX, hbl, hK, hZ, hret, hlocks, hL⟩ := C0
  intro WX WM t n s0 sv kv H locs cells slots hXI hMI hP hD hS hc hs
  have hA : ∀ q : Nat, s.heap.size ≤ q → (fun q : Nat => s.heap.size ≤ q) q := fun _ h => h
  have hbA : ¬ (fun q : Nat => s.heap.size ≤ q) b := Nat.not_le.mpr hbl
  have hn := hXI.n
  have hok := hXI.ok
  refine lv_aload_n (pc := 1890) hx hb dL_law_1890 rfl (lv_at hl 2 rfl) ?_
  refine lv_aload_n (pc := 1891) hx hb dL_law_1891 rfl (lv_at hl 3 rfl) ?_
  refine lv_iload_n (pc := 1892) hx hb dL_law_1892 rfl (lv_at hl 0 rfl) ?_
  refine lv_iconst (pc := 1893) (v := nI 1) hx hb dL_law_1893 (by decide) ?_
  refine lv_iadd (pc := 1894) hx hb dL_law_1894 ?_
  refine va_sld (pc := 1895) hx hb hX hbl hbA hS (l_in hi (show 1 < 8 by decide) hL) dL_law_1895 ?_
  refine lv_aload_n (pc := 1896) hx hb dL_law_1896 rfl (lv_at hl 3 rfl) ?_
  refine lv_iload_n (pc := 1897) hx hb dL_law_1897 rfl (lv_at hl 0 rfl) ?_
  refine lv_iconst (pc := 1898) (v := nI 2) hx hb dL_law_1898 (by decide) ?_
  refine lv_iadd (pc := 1899) hx hb dL_law_1899 ?_
  refine va_sld (pc := 1900) hx hb hX hbl hbA hS (l_in hi (show 2 < 8 by decide) hL) dL_law_1900 ?_
  obtain ⟨r, hM1⟩ := l_X_oldest l D ci (fun q : Nat => s.heap.size ≤ q) sa WM hXI (xs (nI i + nI 1).toNatClampNeg) (xs (nI i + nI 2).toNatClampNeg)
  obtain ⟨fs, hh⟩ := hXI.hd WM
  refine q_call (pc := 1901) (va_runV (As := [.int (xs (nI i + nI 1).toNatClampNeg), .int (xs (nI i + nI 2).toNatClampNeg)]) (rest := []) ⟨hx, hb, hml, hown, hts⟩ hM1 (cwV 2 hts gL_law_X10_oldest rfl rfl rfl (by decide +kernel) ⟨Nat.le_of_ble_eq_true rfl, Nat.le_of_ble_eq_true rfl⟩) (q_preV (n1 := 0) (is1 := []) hK hA hZ hP hD hS rfl ⟨rfl, rfl, rfl⟩ 0 hh rfl) rfl rfl hl.1 rfl (lv_room (Nat.le_of_ble_eq_true rfl)) dL_law_1901 (l_rm hn.2 hc hs (Nat.zero_le _) (Nat.zero_le _))) hS (fun t2 locs _ hB hS => ?_)
  obtain ⟨WX, hXI, hP, hD⟩ := hB
  refine lv_pop (pc := 1904) hx hb dL_law_1904 rfl ?_
  have hP := l_swP hP
  have hD := l_swD hD
  refine lv_aload_n (pc := 1905) hx hb dL_law_1905 rfl (lv_at hl 1 rfl) ?_
  refine lv_aload_n (pc := 1906) hx hb dL_law_1906 rfl (lv_at hl 3 rfl) ?_
  refine lv_iload_n (pc := 1907) hx hb dL_law_1907 rfl (lv_at hl 0 rfl) ?_
  refine lv_iconst (pc := 1908) (v := nI 1) hx hb dL_law_1908 (by decide) ?_
  refine lv_iadd (pc := 1909) hx hb dL_law_1909 ?_
  refine va_sld (pc := 1910) hx hb hX hbl hbA hS (l_in hi (show 1 < 8 by decide) hL) dL_law_1910 ?_
  refine lv_aload_n (pc := 1911) hx hb dL_law_1911 rfl (lv_at hl 3 rfl) ?_
  refine lv_iload_n (pc := 1912) hx hb dL_law_1912 rfl (lv_at hl 0 rfl) ?_
  refine lv_iconst (pc := 1913) (v := nI 2) hx hb dL_law_1913 (by decide) ?_
  refine lv_iadd (pc := 1914) hx hb dL_law_1914 ?_
  refine va_sld (pc := 1915) hx hb hX hbl hbA hS (l_in hi (show 2 < 8 by decide) hL) dL_law_1915 ?_
  obtain ⟨r2, hM2⟩ := l_M_oldest l D ci (fun q : Nat => s.heap.size ≤ q) sa WX hMI (xs (nI i + nI 1).toNatClampNeg) (xs (nI i + nI 2).toNatClampNeg)
  obtain ⟨fs, hh⟩ := hMI.hd WX
  refine q_call (pc := 1916) (va_runV (As := [.int (xs (nI i + nI 1).toNatClampNeg), .int (xs (nI i + nI 2).toNatClampNeg)]) (rest := []) ⟨hx, hb, hml, hown, hts⟩ hM2 (cwV 2 hts gL_law_X11_oldest rfl rfl rfl (by decide +kernel) ⟨Nat.le_of_ble_eq_true rfl, Nat.le_of_ble_eq_true rfl⟩) (q_preV (n1 := 0) (is1 := []) hK hA hZ hP hD hS rfl ⟨rfl, rfl, rfl⟩ 0 hh rfl) rfl rfl hl.1 rfl (lv_room (Nat.le_of_ble_eq_true rfl)) dL_law_1916 (l_rm hn.2 hc hs (Nat.zero_le _) (Nat.zero_le _))) hS (fun t2 locs _ hB hS => ?_)
  obtain ⟨WM, hMI, hP, hD⟩ := hB
  have hP := l_swP hP
  have hD := l_swD hD
  refine lv_pop (pc := 1919) hx hb dL_law_1919 rfl ?_
  refine lv_goto (pc := 1920) (tgt := 2146) hx hb dL_law_1920 rfl ?_
  exact hgo WX WM _ _ _ _ _ _ _ _ _ hXI hMI hP hD hS hc hs
theorem law_37 (p : Program) (l : Launch) (e : Env) (s : State) (m : MethodId) (below : List Frame) (meth : Method) (c : Code) (b L : Nat) (xs : Nat → Int32) (D : va_G) (ci : Nat → ClassId) (sa : Nat → Nat) {a_x a_m i : Nat} {ls : Array Slot} (C0 : lL_C p l e s m below meth c b L xs D ci sa) (hi : i + 8 ≤ L) (hl : lv_has ls 4 [(3, .int (nI i)), (2, .ref a_m), (1, .ref a_x), (0, .ref b)]) (hgo : lL_go p l e s m below meth c b L xs D ci sa a_x a_m ls 2146) : lL_go p l e s m below meth c b L xs D ci sa a_x a_m ls 1923 := by
  obtain ⟨hx, hb, hml, hown, hts, hX, hbl, hK, hZ, hret, hlocks, hL⟩ := C0
  intro WX WM t n s0 sv kv H locs cells slots hXI hMI hP hD hS hc hs
  have hA : ∀ q : Nat, s.heap.size ≤ q → (fun q : Nat => s.heap.size ≤ q) q := fun _ h => h
  have hbA : ¬ (fun q : Nat => s.heap.size ≤ q) b := Nat.not_le.mpr hbl
  have hn := hXI.n
  have hok := hXI.ok
  refine lv_aload_n (pc := 1923) hx hb dL_law_1923 rfl (lv_at hl 2 rfl) ?_
  obtain ⟨r, s2, hT, hM1⟩ := l_X_tidy l D ci (fun q : Nat => s.heap.size ≤ q) sa WM hXI 
  obtain ⟨fs, hh⟩ := hXI.hd WM
  refine q_call (pc := 1924) (va_runV (As := []) (rest := []) ⟨hx, hb, hml, hown, hts⟩ hM1 (cwV 0 hts gL_law_X10_tidy rfl rfl rfl (by decide +kernel) ⟨Nat.le_of_ble_eq_true rfl, Nat.le_of_ble_eq_true rfl⟩) (q_preV (n1 := 0) (is1 := []) hK hA hZ hP hD hS rfl ⟨rfl, rfl, rfl⟩ 0 hh rfl) rfl rfl hl.1 rfl (lv_room (Nat.le_of_ble_eq_true rfl)) dL_law_1924 (l_rm hn.2 hc hs (Nat.zero_le _) (Nat.zero_le _))) hS (fun t2 locs _ hB hS => ?_)
  obtain ⟨WX, hXI, hP, hD⟩ := hB
  refine lv_pop (pc := 1927) hx hb dL_law_1927 rfl ?_
  have hP := l_swP hP
  have hD := l_swD hD
  refine lv_aload_n (pc := 1928) hx hb dL_law_1928 rfl (lv_at hl 1 rfl) ?_
  obtain ⟨r2, s3, hT2, hM2⟩ := l_M_tidy l D ci (fun q : Nat => s.heap.size ≤ q) sa WX hMI 
  obtain ⟨fs, hh⟩ := hMI.hd WX
  refine q_call (pc := 1929) (va_runV (As := []) (rest := []) ⟨hx, hb, hml, hown, hts⟩ hM2 (cwV 0 hts gL_law_X11_tidy rfl rfl rfl (by decide +kernel) ⟨Nat.le_of_ble_eq_true rfl, Nat.le_of_ble_eq_true rfl⟩) (q_preV (n1 := 0) (is1 := []) hK hA hZ hP hD hS rfl ⟨rfl, rfl, rfl⟩ 0 hh rfl) rfl rfl hl.1 rfl (lv_room (Nat.le_of_ble_eq_true rfl)) dL_law_1929 (l_rm hn.2 hc hs (Nat.zero_le _) (Nat.zero_le _))) hS (fun t2 locs _ hB hS => ?_)
  obtain ⟨WM, hMI, hP, hD⟩ := hB
  obtain ⟨hrr, e23⟩ := l_ttidy_one hok hT hT2
  rw [← e23] at hMI
  have hP := l_swP hP
  have hD := l_swD hD
  refine lv_pop (pc := 1932) hx hb dL_law_1932 rfl ?_
  refine lv_goto (pc := 1933) (tgt := 2146) hx hb dL_law_1933 rfl ?_
  exact hgo WX WM _ _ _ _ _ _ _ _ _ hXI hMI hP hD hS hc hs
theorem law_38 (p : Program) (l : Launch) (e : Env) (s : State) (m : MethodId) (below : List Frame) (meth : Method) (c : Code) (b L : Nat) (xs : Nat → Int32) (D : va_G) (ci : Nat → ClassId) (sa : Nat → Nat) {a_x a_m i : Nat} {ls : Array Slot} (C0 : lL_C p l e s m below meth c b L xs D ci sa) (hi : i + 8 ≤ L) (hl : lv_has ls 4 [(3, .int (nI i)), (2, .ref a_m), (1, .ref a_x), (0, .ref b)]) (hgo : lL_go p l e s m below meth c b L xs D ci sa a_x a_m ls 2146) : lL_go p l e s m below meth c b L xs D ci sa a_x a_m ls 1936 := by
  obtain ⟨hx, hb, hml, hown, hts, hX, hbl, hK, hZ, hret, hlocks, hL⟩ := C0
  intro WX WM t n s0 sv kv H locs cells slots hXI hMI hP hD hS hc hs
  have hA : ∀ q : Nat, s.heap.size ≤ q → (fun q : Nat => s.heap.size ≤ q) q := fun _ h => h
  have hbA : ¬ (fun q : Nat => s.heap.size ≤ q) b := Nat.not_le.mpr hbl
  have hn := hXI.n
  have hok := hXI.ok
  refine lv_aload_n (pc := 1936) hx hb dL_law_1936 rfl (lv_at hl 2 rfl) ?_
  refine lv_aload_n (pc := 1937) hx hb dL_law_1937 rfl (lv_at hl 3 rfl) ?_
  refine lv_iload_n (pc := 1938) hx hb dL_law_1938 rfl (lv_at hl 0 rfl) ?_
  refine lv_iconst (pc := 1939) (v := nI 1) hx hb dL_law_1939 (by decide) ?_
  refine lv_iadd (pc := 1940) hx hb dL_law_1940 ?_
  refine va_sld (pc := 1941) hx hb hX hbl hbA hS (l_in hi (show 1 < 8 by decide) hL) dL_law_1941 ?_
  refine lv_aload_n (pc := 1942) hx hb dL_law_1942 rfl (lv_at hl 3 rfl) ?_
  refine lv_iload_n (pc := 1943) hx hb dL_law_1943 rfl (lv_at hl 0 rfl) ?_
  refine lv_iconst (pc := 1944) (v := nI 2) hx hb dL_law_1944 (by decide) ?_
  refine lv_iadd (pc := 1945) hx hb dL_law_1945 ?_
  refine va_sld (pc := 1946) hx hb hX hbl hbA hS (l_in hi (show 2 < 8 by decide) hL) dL_law_1946 ?_
  refine lv_aload_n (pc := 1947) hx hb dL_law_1947 rfl (lv_at hl 3 rfl) ?_
  refine lv_iload_n (pc := 1948) hx hb dL_law_1948 rfl (lv_at hl 0 rfl) ?_
  refine lv_iconst (pc := 1949) (v := nI 3) hx hb dL_law_1949 (by decide) ?_
  refine lv_iadd (pc := 1950) hx hb dL_law_1950 ?_
  refine va_sld (pc := 1951) hx hb hX hbl hbA hS (l_in hi (show 3 < 8 by decide) hL) dL_law_1951 ?_
  refine lv_aload_n (pc := 1952) hx hb dL_law_1952 rfl (lv_at hl 3 rfl) ?_
  refine lv_iload_n (pc := 1953) hx hb dL_law_1953 rfl (lv_at hl 0 rfl) ?_
  refine lv_iconst (pc := 1954) (v := nI 4) hx hb dL_law_1954 (by decide) ?_
  refine lv_iadd (pc := 1955) hx hb dL_law_1955 ?_
  refine va_sld (pc := 1956) hx hb hX hbl hbA hS (l_in hi (show 4 < 8 by decide) hL) dL_law_1956 ?_
  refine lv_aload_n (pc := 1957) hx hb dL_law_1957 rfl (lv_at hl 3 rfl) ?_
  refine lv_iload_n (pc := 1958) hx hb dL_law_1958 rfl (lv_at hl 0 rfl) ?_
  refine lv_iconst (pc := 1959) (v := nI 5) hx hb dL_law_1959 (by decide) ?_
  refine lv_iadd (pc := 1960) hx hb dL_law_1960 ?_
  refine va_sld (pc := 1961) hx hb hX hbl hbA hS (l_in hi (show 5 < 8 by decide) hL) dL_law_1961 ?_
  refine lv_aload_n (pc := 1962) hx hb dL_law_1962 rfl (lv_at hl 3 rfl) ?_
  refine lv_iload_n (pc := 1963) hx hb dL_law_1963 rfl (lv_at hl 0 rfl) ?_
  refine lv_bipush (pc := 1964) (v := nI 6) hx hb dL_law_1964 (by decide) ?_
  refine lv_iadd (pc := 1966) hx hb dL_law_1966 ?_
  refine va_sld (pc := 1967) hx hb hX hbl hbA hS (l_in hi (show 6 < 8 by decide) hL) dL_law_1967 ?_
  obtain ⟨r, hM1⟩ := l_X_changes l D ci (fun q : Nat => s.heap.size ≤ q) sa WM hXI (xs (nI i + nI 1).toNatClampNeg) (xs (nI i + nI 2).toNatClampNeg) (xs (nI i + nI 3).toNatClampNeg) (xs (nI i + nI 4).toNatClampNeg) (xs (nI i + nI 5).toNatClampNeg) (xs (nI i + nI 6).toNatClampNeg)
  obtain ⟨fs, hh⟩ := hXI.hd WM
  refine q_call (pc := 1968) (va_runV (As := [.int (xs (nI i + nI 1).toNatClampNeg), .int (xs (nI i + nI 2).toNatClampNeg), .int (xs (nI i + nI 3).toNatClampNeg), .int (xs (nI i + nI 4).toNatClampNeg), .int (xs (nI i + nI 5).toNatClampNeg), .int (xs (nI i + nI 6).toNatClampNeg)]) (rest := []) ⟨hx, hb, hml, hown, hts⟩ hM1 (cwV 6 hts gL_law_X10_changes rfl rfl rfl (by decide +kernel) ⟨Nat.le_of_ble_eq_true rfl, Nat.le_of_ble_eq_true rfl⟩) (q_preV (n1 := 0) (is1 := []) hK hA hZ hP hD hS rfl ⟨rfl, rfl, rfl⟩ 0 hh rfl) rfl rfl hl.1 rfl (lv_room (Nat.le_of_ble_eq_true rfl)) dL_law_1968 (l_rm hn.2 hc hs (Nat.zero_le _) (Nat.zero_le _))) hS (fun t2 locs _ hB hS => ?_)
  obtain ⟨WX, hXI, hP, hD⟩ := hB
  refine lv_pop (pc := 1971) hx hb dL_law_1971 rfl ?_
  have hP := l_swP hP
  have hD := l_swD hD
  refine lv_aload_n (pc := 1972) hx hb dL_law_1972 rfl (lv_at hl 1 rfl) ?_
  refine lv_aload_n (pc := 1973) hx hb dL_law_1973 rfl (lv_at hl 3 rfl) ?_
  refine lv_iload_n (pc := 1974) hx hb dL_law_1974 rfl (lv_at hl 0 rfl) ?_
  refine lv_iconst (pc := 1975) (v := nI 1) hx hb dL_law_1975 (by decide) ?_
  refine lv_iadd (pc := 1976) hx hb dL_law_1976 ?_
  refine va_sld (pc := 1977) hx hb hX hbl hbA hS (l_in hi (show 1 < 8 by decide) hL) dL_law_1977 ?_
  refine lv_aload_n (pc := 1978) hx hb dL_law_1978 rfl (lv_at hl 3 rfl) ?_
  refine lv_iload_n (pc := 1979) hx hb dL_law_1979 rfl (lv_at hl 0 rfl) ?_
  refine lv_iconst (pc := 1980) (v := nI 2) hx hb dL_law_1980 (by decide) ?_
  refine lv_iadd (pc := 1981) hx hb dL_law_1981 ?_
  refine va_sld (pc := 1982) hx hb hX hbl hbA hS (l_in hi (show 2 < 8 by decide) hL) dL_law_1982 ?_
  refine lv_aload_n (pc := 1983) hx hb dL_law_1983 rfl (lv_at hl 3 rfl) ?_
  refine lv_iload_n (pc := 1984) hx hb dL_law_1984 rfl (lv_at hl 0 rfl) ?_
  refine lv_iconst (pc := 1985) (v := nI 3) hx hb dL_law_1985 (by decide) ?_
  refine lv_iadd (pc := 1986) hx hb dL_law_1986 ?_
  refine va_sld (pc := 1987) hx hb hX hbl hbA hS (l_in hi (show 3 < 8 by decide) hL) dL_law_1987 ?_
  refine lv_aload_n (pc := 1988) hx hb dL_law_1988 rfl (lv_at hl 3 rfl) ?_
  refine lv_iload_n (pc := 1989) hx hb dL_law_1989 rfl (lv_at hl 0 rfl) ?_
  refine lv_iconst (pc := 1990) (v := nI 4) hx hb dL_law_1990 (by decide) ?_
  refine lv_iadd (pc := 1991) hx hb dL_law_1991 ?_
  refine va_sld (pc := 1992) hx hb hX hbl hbA hS (l_in hi (show 4 < 8 by decide) hL) dL_law_1992 ?_
  refine lv_aload_n (pc := 1993) hx hb dL_law_1993 rfl (lv_at hl 3 rfl) ?_
  refine lv_iload_n (pc := 1994) hx hb dL_law_1994 rfl (lv_at hl 0 rfl) ?_
  refine lv_iconst (pc := 1995) (v := nI 5) hx hb dL_law_1995 (by decide) ?_
  refine lv_iadd (pc := 1996) hx hb dL_law_1996 ?_
  refine va_sld (pc := 1997) hx hb hX hbl hbA hS (l_in hi (show 5 < 8 by decide) hL) dL_law_1997 ?_
  refine lv_aload_n (pc := 1998) hx hb dL_law_1998 rfl (lv_at hl 3 rfl) ?_
  refine lv_iload_n (pc := 1999) hx hb dL_law_1999 rfl (lv_at hl 0 rfl) ?_
  refine lv_bipush (pc := 2000) (v := nI 6) hx hb dL_law_2000 (by decide) ?_
  refine lv_iadd (pc := 2002) hx hb dL_law_2002 ?_
  refine va_sld (pc := 2003) hx hb hX hbl hbA hS (l_in hi (show 6 < 8 by decide) hL) dL_law_2003 ?_
  obtain ⟨r2, hM2⟩ := l_M_changes l D ci (fun q : Nat => s.heap.size ≤ q) sa WX hMI (xs (nI i + nI 1).toNatClampNeg) (xs (nI i + nI 2).toNatClampNeg) (xs (nI i + nI 3).toNatClampNeg) (xs (nI i + nI 4).toNatClampNeg) (xs (nI i + nI 5).toNatClampNeg) (xs (nI i + nI 6).toNatClampNeg)
  obtain ⟨fs, hh⟩ := hMI.hd WX
  refine q_call (pc := 2004) (va_runV (As := [.int (xs (nI i + nI 1).toNatClampNeg), .int (xs (nI i + nI 2).toNatClampNeg), .int (xs (nI i + nI 3).toNatClampNeg), .int (xs (nI i + nI 4).toNatClampNeg), .int (xs (nI i + nI 5).toNatClampNeg), .int (xs (nI i + nI 6).toNatClampNeg)]) (rest := []) ⟨hx, hb, hml, hown, hts⟩ hM2 (cwV 6 hts gL_law_X11_changes rfl rfl rfl (by decide +kernel) ⟨Nat.le_of_ble_eq_true rfl, Nat.le_of_ble_eq_true rfl⟩) (q_preV (n1 := 0) (is1 := []) hK hA hZ hP hD hS rfl ⟨rfl, rfl, rfl⟩ 0 hh rfl) rfl rfl hl.1 rfl (lv_room (Nat.le_of_ble_eq_true rfl)) dL_law_2004 (l_rm hn.2 hc hs (Nat.zero_le _) (Nat.zero_le _))) hS (fun t2 locs _ hB hS => ?_)
  obtain ⟨WM, hMI, hP, hD⟩ := hB
  have hP := l_swP hP
  have hD := l_swD hD
  refine lv_pop (pc := 2007) hx hb dL_law_2007 rfl ?_
  refine lv_goto (pc := 2008) (tgt := 2146) hx hb dL_law_2008 rfl ?_
  exact hgo WX WM _ _ _ _ _ _ _ _ _ hXI hMI hP hD hS hc hs
theorem law_39 (p : Program) (l : Launch) (e : Env) (s : State) (m : MethodId) (below : List Frame) (meth : Method) (c : Code) (b L : Nat) (xs : Nat → Int32) (D : va_G) (ci : Nat → ClassId) (sa : Nat → Nat) {a_x a_m i : Nat} {ls : Array Slot} (C0 : lL_C p l e s m below meth c b L xs D ci sa) (hi : i + 8 ≤ L) (hl : lv_has ls 4 [(3, .int (nI i)), (2, .ref a_m), (1, .ref a_x), (0, .ref b)]) (hgo : lL_go p l e s m below meth c b L xs D ci sa a_x a_m ls 2146) : lL_go p l e s m below meth c b L xs D ci sa a_x a_m ls 2011 := by
  obtain ⟨hx, hb, hml, hown, hts, hX, hbl, hK, hZ, hret, hlocks, hL⟩ := C0
  intro WX WM t n s0 sv kv H locs cells slots hXI hMI hP hD hS hc hs
  have hA : ∀ q : Nat, s.heap.size ≤ q → (fun q : Nat => s.heap.size ≤ q) q := fun _ h => h
  have hbA : ¬ (fun q : Nat => s.heap.size ≤ q) b := Nat.not_le.mpr hbl
  have hn := hXI.n
  have hok := hXI.ok
  refine lv_aload_n (pc := 2011) hx hb dL_law_2011 rfl (lv_at hl 2 rfl) ?_
  refine lv_aload_n (pc := 2012) hx hb dL_law_2012 rfl (lv_at hl 3 rfl) ?_
  refine lv_iload_n (pc := 2013) hx hb dL_law_2013 rfl (lv_at hl 0 rfl) ?_
  refine lv_iconst (pc := 2014) (v := nI 1) hx hb dL_law_2014 (by decide) ?_
  refine lv_iadd (pc := 2015) hx hb dL_law_2015 ?_
  refine va_sld (pc := 2016) hx hb hX hbl hbA hS (l_in hi (show 1 < 8 by decide) hL) dL_law_2016 ?_
  refine lv_aload_n (pc := 2017) hx hb dL_law_2017 rfl (lv_at hl 3 rfl) ?_
  refine lv_iload_n (pc := 2018) hx hb dL_law_2018 rfl (lv_at hl 0 rfl) ?_
  refine lv_iconst (pc := 2019) (v := nI 2) hx hb dL_law_2019 (by decide) ?_
  refine lv_iadd (pc := 2020) hx hb dL_law_2020 ?_
  refine va_sld (pc := 2021) hx hb hX hbl hbA hS (l_in hi (show 2 < 8 by decide) hL) dL_law_2021 ?_
  refine lv_aload_n (pc := 2022) hx hb dL_law_2022 rfl (lv_at hl 3 rfl) ?_
  refine lv_iload_n (pc := 2023) hx hb dL_law_2023 rfl (lv_at hl 0 rfl) ?_
  refine lv_iconst (pc := 2024) (v := nI 3) hx hb dL_law_2024 (by decide) ?_
  refine lv_iadd (pc := 2025) hx hb dL_law_2025 ?_
  refine va_sld (pc := 2026) hx hb hX hbl hbA hS (l_in hi (show 3 < 8 by decide) hL) dL_law_2026 ?_
  obtain ⟨r, hM1⟩ := l_X_drawn l D ci (fun q : Nat => s.heap.size ≤ q) sa WM hXI (xs (nI i + nI 1).toNatClampNeg) (xs (nI i + nI 2).toNatClampNeg) (xs (nI i + nI 3).toNatClampNeg)
  obtain ⟨fs, hh⟩ := hXI.hd WM
  refine q_call (pc := 2027) (va_runV (As := [.int (xs (nI i + nI 1).toNatClampNeg), .int (xs (nI i + nI 2).toNatClampNeg), .int (xs (nI i + nI 3).toNatClampNeg)]) (rest := []) ⟨hx, hb, hml, hown, hts⟩ hM1 (cwV 3 hts gL_law_X10_drawn rfl rfl rfl (by decide +kernel) ⟨Nat.le_of_ble_eq_true rfl, Nat.le_of_ble_eq_true rfl⟩) (q_preV (n1 := 0) (is1 := []) hK hA hZ hP hD hS rfl ⟨rfl, rfl, rfl⟩ 0 hh rfl) rfl rfl hl.1 rfl (lv_room (Nat.le_of_ble_eq_true rfl)) dL_law_2027 (l_rm hn.2 hc hs (Nat.zero_le _) (Nat.zero_le _))) hS (fun t2 locs _ hB hS => ?_)
  obtain ⟨WX, hXI, hP, hD⟩ := hB
  refine lv_pop (pc := 2030) hx hb dL_law_2030 rfl ?_
  have hP := l_swP hP
  have hD := l_swD hD
  refine lv_aload_n (pc := 2031) hx hb dL_law_2031 rfl (lv_at hl 1 rfl) ?_
  refine lv_aload_n (pc := 2032) hx hb dL_law_2032 rfl (lv_at hl 3 rfl) ?_
  refine lv_iload_n (pc := 2033) hx hb dL_law_2033 rfl (lv_at hl 0 rfl) ?_
  refine lv_iconst (pc := 2034) (v := nI 1) hx hb dL_law_2034 (by decide) ?_
  refine lv_iadd (pc := 2035) hx hb dL_law_2035 ?_
  refine va_sld (pc := 2036) hx hb hX hbl hbA hS (l_in hi (show 1 < 8 by decide) hL) dL_law_2036 ?_
  refine lv_aload_n (pc := 2037) hx hb dL_law_2037 rfl (lv_at hl 3 rfl) ?_
  refine lv_iload_n (pc := 2038) hx hb dL_law_2038 rfl (lv_at hl 0 rfl) ?_
  refine lv_iconst (pc := 2039) (v := nI 2) hx hb dL_law_2039 (by decide) ?_
  refine lv_iadd (pc := 2040) hx hb dL_law_2040 ?_
  refine va_sld (pc := 2041) hx hb hX hbl hbA hS (l_in hi (show 2 < 8 by decide) hL) dL_law_2041 ?_
  refine lv_aload_n (pc := 2042) hx hb dL_law_2042 rfl (lv_at hl 3 rfl) ?_
  refine lv_iload_n (pc := 2043) hx hb dL_law_2043 rfl (lv_at hl 0 rfl) ?_
  refine lv_iconst (pc := 2044) (v := nI 3) hx hb dL_law_2044 (by decide) ?_
  refine lv_iadd (pc := 2045) hx hb dL_law_2045 ?_
  refine va_sld (pc := 2046) hx hb hX hbl hbA hS (l_in hi (show 3 < 8 by decide) hL) dL_law_2046 ?_
  obtain ⟨r2, hM2⟩ := l_M_drawn l D ci (fun q : Nat => s.heap.size ≤ q) sa WX hMI (xs (nI i + nI 1).toNatClampNeg) (xs (nI i + nI 2).toNatClampNeg) (xs (nI i + nI 3).toNatClampNeg)
  obtain ⟨fs, hh⟩ := hMI.hd WX
  refine q_call (pc := 2047) (va_runV (As := [.int (xs (nI i + nI 1).toNatClampNeg), .int (xs (nI i + nI 2).toNatClampNeg), .int (xs (nI i + nI 3).toNatClampNeg)]) (rest := []) ⟨hx, hb, hml, hown, hts⟩ hM2 (cwV 3 hts gL_law_X11_drawn rfl rfl rfl (by decide +kernel) ⟨Nat.le_of_ble_eq_true rfl, Nat.le_of_ble_eq_true rfl⟩) (q_preV (n1 := 0) (is1 := []) hK hA hZ hP hD hS rfl ⟨rfl, rfl, rfl⟩ 0 hh rfl) rfl rfl hl.1 rfl (lv_room (Nat.le_of_ble_eq_true rfl)) dL_law_2047 (l_rm hn.2 hc hs (Nat.zero_le _) (Nat.zero_le _))) hS (fun t2 locs _ hB hS => ?_)
  obtain ⟨WM, hMI, hP, hD⟩ := hB
  have hP := l_swP hP
  have hD := l_swD hD
  refine lv_pop (pc := 2050) hx hb dL_law_2050 rfl ?_
  refine lv_goto (pc := 2051) (tgt := 2146) hx hb dL_law_2051 rfl ?_
  exact hgo WX WM _ _ _ _ _ _ _ _ _ hXI hMI hP hD hS hc hs
theorem law_40 (p : Program) (l : Launch) (e : Env) (s : State) (m : MethodId) (below : List Frame) (meth : Method) (c : Code) (b L : Nat) (xs : Nat → Int32) (D : va_G) (ci : Nat → ClassId) (sa : Nat → Nat) {a_x a_m i : Nat} {ls : Array Slot} (C0 : lL_C p l e s m below meth c b L xs D ci sa) (hi : i + 8 ≤ L) (hl : lv_has ls 4 [(3, .int (nI i)), (2, .ref a_m), (1, .ref a_x), (0, .ref b)]) (hgo : lL_go p l e s m below meth c b L xs D ci sa a_x a_m ls 2146) : lL_go p l e s m below meth c b L xs D ci sa a_x a_m ls 2054 := by
  obtain ⟨hx, hb, hml, hown, hts, hX, hbl, hK, hZ, hret, hlocks, hL⟩ := C0
  intro WX WM t n s0 sv kv H locs cells slots hXI hMI hP hD hS hc hs
  have hA : ∀ q : Nat, s.heap.size ≤ q → (fun q : Nat => s.heap.size ≤ q) q := fun _ h => h
  have hbA : ¬ (fun q : Nat => s.heap.size ≤ q) b := Nat.not_le.mpr hbl
  have hn := hXI.n
  have hok := hXI.ok
  refine lv_aload_n (pc := 2054) hx hb dL_law_2054 rfl (lv_at hl 2 rfl) ?_
  refine lv_aload_n (pc := 2055) hx hb dL_law_2055 rfl (lv_at hl 3 rfl) ?_
  refine lv_iload_n (pc := 2056) hx hb dL_law_2056 rfl (lv_at hl 0 rfl) ?_
  refine lv_iconst (pc := 2057) (v := nI 1) hx hb dL_law_2057 (by decide) ?_
  refine lv_iadd (pc := 2058) hx hb dL_law_2058 ?_
  refine va_sld (pc := 2059) hx hb hX hbl hbA hS (l_in hi (show 1 < 8 by decide) hL) dL_law_2059 ?_
  refine lv_aload_n (pc := 2060) hx hb dL_law_2060 rfl (lv_at hl 3 rfl) ?_
  refine lv_iload_n (pc := 2061) hx hb dL_law_2061 rfl (lv_at hl 0 rfl) ?_
  refine lv_iconst (pc := 2062) (v := nI 2) hx hb dL_law_2062 (by decide) ?_
  refine lv_iadd (pc := 2063) hx hb dL_law_2063 ?_
  refine va_sld (pc := 2064) hx hb hX hbl hbA hS (l_in hi (show 2 < 8 by decide) hL) dL_law_2064 ?_
  refine lv_aload_n (pc := 2065) hx hb dL_law_2065 rfl (lv_at hl 3 rfl) ?_
  refine lv_iload_n (pc := 2066) hx hb dL_law_2066 rfl (lv_at hl 0 rfl) ?_
  refine lv_iconst (pc := 2067) (v := nI 3) hx hb dL_law_2067 (by decide) ?_
  refine lv_iadd (pc := 2068) hx hb dL_law_2068 ?_
  refine va_sld (pc := 2069) hx hb hX hbl hbA hS (l_in hi (show 3 < 8 by decide) hL) dL_law_2069 ?_
  obtain ⟨r, hM1⟩ := l_X_bands l D ci (fun q : Nat => s.heap.size ≤ q) sa WM hXI (xs (nI i + nI 1).toNatClampNeg) (xs (nI i + nI 2).toNatClampNeg) (xs (nI i + nI 3).toNatClampNeg)
  obtain ⟨fs, hh⟩ := hXI.hd WM
  refine q_call (pc := 2070) (va_runV (As := [.int (xs (nI i + nI 1).toNatClampNeg), .int (xs (nI i + nI 2).toNatClampNeg), .int (xs (nI i + nI 3).toNatClampNeg)]) (rest := []) ⟨hx, hb, hml, hown, hts⟩ hM1 (cwV 3 hts gL_law_X10_bands rfl rfl rfl (by decide +kernel) ⟨Nat.le_of_ble_eq_true rfl, Nat.le_of_ble_eq_true rfl⟩) (q_preV (n1 := 0) (is1 := []) hK hA hZ hP hD hS rfl ⟨rfl, rfl, rfl⟩ 0 hh rfl) rfl rfl hl.1 rfl (lv_room (Nat.le_of_ble_eq_true rfl)) dL_law_2070 (l_rm hn.2 hc hs (Nat.zero_le _) (Nat.zero_le _))) hS (fun t2 locs _ hB hS => ?_)
  obtain ⟨WX, hXI, hP, hD⟩ := hB
  refine lv_pop (pc := 2073) hx hb dL_law_2073 rfl ?_
  have hP := l_swP hP
  have hD := l_swD hD
  refine lv_aload_n (pc := 2074) hx hb dL_law_2074 rfl (lv_at hl 1 rfl) ?_
  refine lv_aload_n (pc := 2075) hx hb dL_law_2075 rfl (lv_at hl 3 rfl) ?_
  refine lv_iload_n (pc := 2076) hx hb dL_law_2076 rfl (lv_at hl 0 rfl) ?_
  refine lv_iconst (pc := 2077) (v := nI 1) hx hb dL_law_2077 (by decide) ?_
  refine lv_iadd (pc := 2078) hx hb dL_law_2078 ?_
  refine va_sld (pc := 2079) hx hb hX hbl hbA hS (l_in hi (show 1 < 8 by decide) hL) dL_law_2079 ?_
  refine lv_aload_n (pc := 2080) hx hb dL_law_2080 rfl (lv_at hl 3 rfl) ?_
  refine lv_iload_n (pc := 2081) hx hb dL_law_2081 rfl (lv_at hl 0 rfl) ?_
  refine lv_iconst (pc := 2082) (v := nI 2) hx hb dL_law_2082 (by decide) ?_
  refine lv_iadd (pc := 2083) hx hb dL_law_2083 ?_
  refine va_sld (pc := 2084) hx hb hX hbl hbA hS (l_in hi (show 2 < 8 by decide) hL) dL_law_2084 ?_
  refine lv_aload_n (pc := 2085) hx hb dL_law_2085 rfl (lv_at hl 3 rfl) ?_
  refine lv_iload_n (pc := 2086) hx hb dL_law_2086 rfl (lv_at hl 0 rfl) ?_
  refine lv_iconst (pc := 2087) (v := nI 3) hx hb dL_law_2087 (by decide) ?_
  refine lv_iadd (pc := 2088) hx hb dL_law_2088 ?_
  refine va_sld (pc := 2089) hx hb hX hbl hbA hS (l_in hi (show 3 < 8 by decide) hL) dL_law_2089 ?_
  obtain ⟨r2, hM2⟩ := l_M_bands l D ci (fun q : Nat => s.heap.size ≤ q) sa WX hMI (xs (nI i + nI 1).toNatClampNeg) (xs (nI i + nI 2).toNatClampNeg) (xs (nI i + nI 3).toNatClampNeg)
  obtain ⟨fs, hh⟩ := hMI.hd WX
  refine q_call (pc := 2090) (va_runV (As := [.int (xs (nI i + nI 1).toNatClampNeg), .int (xs (nI i + nI 2).toNatClampNeg), .int (xs (nI i + nI 3).toNatClampNeg)]) (rest := []) ⟨hx, hb, hml, hown, hts⟩ hM2 (cwV 3 hts gL_law_X11_bands rfl rfl rfl (by decide +kernel) ⟨Nat.le_of_ble_eq_true rfl, Nat.le_of_ble_eq_true rfl⟩) (q_preV (n1 := 0) (is1 := []) hK hA hZ hP hD hS rfl ⟨rfl, rfl, rfl⟩ 0 hh rfl) rfl rfl hl.1 rfl (lv_room (Nat.le_of_ble_eq_true rfl)) dL_law_2090 (l_rm hn.2 hc hs (Nat.zero_le _) (Nat.zero_le _))) hS (fun t2 locs _ hB hS => ?_)
  obtain ⟨WM, hMI, hP, hD⟩ := hB
  have hP := l_swP hP
  have hD := l_swD hD
  refine lv_pop (pc := 2093) hx hb dL_law_2093 rfl ?_
  refine lv_goto (pc := 2094) (tgt := 2146) hx hb dL_law_2094 rfl ?_
  exact hgo WX WM _ _ _ _ _ _ _ _ _ hXI hMI hP hD hS hc hs
theorem law_41 (p : Program) (l : Launch) (e : Env) (s : State) (m : MethodId) (below : List Frame) (meth : Method) (c : Code) (b L : Nat) (xs : Nat → Int32) (D : va_G) (ci : Nat → ClassId) (sa : Nat → Nat) {a_x a_m i : Nat} {ls : Array Slot} (C0 : lL_C p l e s m below meth c b L xs D ci sa) (hi : i + 8 ≤ L) (hl : lv_has ls 4 [(3, .int (nI i)), (2, .ref a_m), (1, .ref a_x), (0, .ref b)]) (hgo : lL_go p l e s m below meth c b L xs D ci sa a_x a_m ls 2146) : lL_go p l e s m below meth c b L xs D ci sa a_x a_m ls 2097 := by
  obtain ⟨hx, hb, hml, hown, hts, hX, hbl, hK, hZ, hret, hlocks, hL⟩ := C0
  intro WX WM t n s0 sv kv H locs cells slots hXI hMI hP hD hS hc hs
  have hA : ∀ q : Nat, s.heap.size ≤ q → (fun q : Nat => s.heap.size ≤ q) q := fun _ h => h
  have hbA : ¬ (fun q : Nat => s.heap.size ≤ q) b := Nat.not_le.mpr hbl
  have hn := hXI.n
  have hok := hXI.ok
  refine lv_aload_n (pc := 2097) hx hb dL_law_2097 rfl (lv_at hl 2 rfl) ?_
  refine lv_aload_n (pc := 2098) hx hb dL_law_2098 rfl (lv_at hl 3 rfl) ?_
  refine lv_iload_n (pc := 2099) hx hb dL_law_2099 rfl (lv_at hl 0 rfl) ?_
  refine lv_iconst (pc := 2100) (v := nI 1) hx hb dL_law_2100 (by decide) ?_
  refine lv_iadd (pc := 2101) hx hb dL_law_2101 ?_
  refine va_sld (pc := 2102) hx hb hX hbl hbA hS (l_in hi (show 1 < 8 by decide) hL) dL_law_2102 ?_
  obtain ⟨r, hM1⟩ := l_X_count l D ci (fun q : Nat => s.heap.size ≤ q) sa WM hXI (xs (nI i + nI 1).toNatClampNeg)
  obtain ⟨fs, hh⟩ := hXI.hd WM
  refine q_call (pc := 2103) (va_runV (As := [.int (xs (nI i + nI 1).toNatClampNeg)]) (rest := []) ⟨hx, hb, hml, hown, hts⟩ hM1 (cwV 1 hts gL_law_X10_count rfl rfl rfl (by decide +kernel) ⟨Nat.le_of_ble_eq_true rfl, Nat.le_of_ble_eq_true rfl⟩) (q_preV (n1 := 0) (is1 := []) hK hA hZ hP hD hS rfl ⟨rfl, rfl, rfl⟩ 0 hh rfl) rfl rfl hl.1 rfl (lv_room (Nat.le_of_ble_eq_true rfl)) dL_law_2103 (l_rm hn.2 hc hs (Nat.zero_le _) (Nat.zero_le _))) hS (fun t2 locs _ hB hS => ?_)
  obtain ⟨WX, hXI, hP, hD⟩ := hB
  refine lv_pop (pc := 2106) hx hb dL_law_2106 rfl ?_
  have hP := l_swP hP
  have hD := l_swD hD
  refine lv_aload_n (pc := 2107) hx hb dL_law_2107 rfl (lv_at hl 1 rfl) ?_
  refine lv_aload_n (pc := 2108) hx hb dL_law_2108 rfl (lv_at hl 3 rfl) ?_
  refine lv_iload_n (pc := 2109) hx hb dL_law_2109 rfl (lv_at hl 0 rfl) ?_
  refine lv_iconst (pc := 2110) (v := nI 1) hx hb dL_law_2110 (by decide) ?_
  refine lv_iadd (pc := 2111) hx hb dL_law_2111 ?_
  refine va_sld (pc := 2112) hx hb hX hbl hbA hS (l_in hi (show 1 < 8 by decide) hL) dL_law_2112 ?_
  obtain ⟨r2, hM2⟩ := l_M_count l D ci (fun q : Nat => s.heap.size ≤ q) sa WX hMI (xs (nI i + nI 1).toNatClampNeg)
  obtain ⟨fs, hh⟩ := hMI.hd WX
  refine q_call (pc := 2113) (va_runV (As := [.int (xs (nI i + nI 1).toNatClampNeg)]) (rest := []) ⟨hx, hb, hml, hown, hts⟩ hM2 (cwV 1 hts gL_law_X11_count rfl rfl rfl (by decide +kernel) ⟨Nat.le_of_ble_eq_true rfl, Nat.le_of_ble_eq_true rfl⟩) (q_preV (n1 := 0) (is1 := []) hK hA hZ hP hD hS rfl ⟨rfl, rfl, rfl⟩ 0 hh rfl) rfl rfl hl.1 rfl (lv_room (Nat.le_of_ble_eq_true rfl)) dL_law_2113 (l_rm hn.2 hc hs (Nat.zero_le _) (Nat.zero_le _))) hS (fun t2 locs _ hB hS => ?_)
  obtain ⟨WM, hMI, hP, hD⟩ := hB
  have hP := l_swP hP
  have hD := l_swD hD
  refine lv_pop (pc := 2116) hx hb dL_law_2116 rfl ?_
  refine lv_goto (pc := 2117) (tgt := 2146) hx hb dL_law_2117 rfl ?_
  exact hgo WX WM _ _ _ _ _ _ _ _ _ hXI hMI hP hD hS hc hs
theorem law_42 (p : Program) (l : Launch) (e : Env) (s : State) (m : MethodId) (below : List Frame) (meth : Method) (c : Code) (b L : Nat) (xs : Nat → Int32) (D : va_G) (ci : Nat → ClassId) (sa : Nat → Nat) {a_x a_m i : Nat} {ls : Array Slot} (C0 : lL_C p l e s m below meth c b L xs D ci sa) (hi : i + 8 ≤ L) (hl : lv_has ls 4 [(3, .int (nI i)), (2, .ref a_m), (1, .ref a_x), (0, .ref b)]) (hgo : lL_go p l e s m below meth c b L xs D ci sa a_x a_m ls 2146) : lL_go p l e s m below meth c b L xs D ci sa a_x a_m ls 2120 := by
  obtain ⟨hx, hb, hml, hown, hts, hX, hbl, hK, hZ, hret, hlocks, hL⟩ := C0
  intro WX WM t n s0 sv kv H locs cells slots hXI hMI hP hD hS hc hs
  have hA : ∀ q : Nat, s.heap.size ≤ q → (fun q : Nat => s.heap.size ≤ q) q := fun _ h => h
  have hbA : ¬ (fun q : Nat => s.heap.size ≤ q) b := Nat.not_le.mpr hbl
  have hn := hXI.n
  have hok := hXI.ok
  refine lv_aload_n (pc := 2120) hx hb dL_law_2120 rfl (lv_at hl 2 rfl) ?_
  obtain ⟨r, hr, hM1⟩ := l_X_keep l D ci (fun q : Nat => s.heap.size ≤ q) sa WM hXI 
  obtain ⟨fs, hh⟩ := hXI.hd WM
  refine q_call (pc := 2121) (va_runV (As := []) (rest := []) ⟨hx, hb, hml, hown, hts⟩ hM1 (cwV 0 hts gL_law_X10_keep rfl rfl rfl (by decide +kernel) ⟨Nat.le_of_ble_eq_true rfl, Nat.le_of_ble_eq_true rfl⟩) (q_preV (n1 := 0) (is1 := []) hK hA hZ hP hD hS rfl ⟨rfl, rfl, rfl⟩ 0 hh rfl) rfl rfl hl.1 rfl (lv_room (Nat.le_of_ble_eq_true rfl)) dL_law_2121 (l_rm hn.2 hc hs (Nat.zero_le _) (Nat.zero_le _))) hS (fun t2 locs _ hB hS => ?_)
  obtain ⟨WX, hXI, hP, hD⟩ := hB
  refine lv_pop (pc := 2124) hx hb dL_law_2124 rfl ?_
  have hP := l_swP hP
  have hD := l_swD hD
  refine lv_aload_n (pc := 2125) hx hb dL_law_2125 rfl (lv_at hl 1 rfl) ?_
  obtain ⟨r2, hr2, hM2⟩ := l_M_keep l D ci (fun q : Nat => s.heap.size ≤ q) sa WX hMI 
  obtain ⟨fs, hh⟩ := hMI.hd WX
  refine q_call (pc := 2126) (va_runV (As := []) (rest := []) ⟨hx, hb, hml, hown, hts⟩ hM2 (cwV 0 hts gL_law_X11_keep rfl rfl rfl (by decide +kernel) ⟨Nat.le_of_ble_eq_true rfl, Nat.le_of_ble_eq_true rfl⟩) (q_preV (n1 := 0) (is1 := []) hK hA hZ hP hD hS rfl ⟨rfl, rfl, rfl⟩ 0 hh rfl) rfl rfl hl.1 rfl (lv_room (Nat.le_of_ble_eq_true rfl)) dL_law_2126 (l_rm hn.2 hc hs (Nat.zero_le _) (Nat.zero_le _))) hS (fun t2 locs _ hB hS => ?_)
  obtain ⟨WM, hMI, hP, hD⟩ := hB
  have hP := l_swP hP
  have hD := l_swD hD
  refine lv_pop (pc := 2129) hx hb dL_law_2129 rfl ?_
  refine lv_goto (pc := 2130) (tgt := 2146) hx hb dL_law_2130 rfl ?_
  exact hgo WX WM _ _ _ _ _ _ _ _ _ hXI hMI hP hD hS hc hs
theorem law_43 (p : Program) (l : Launch) (e : Env) (s : State) (m : MethodId) (below : List Frame) (meth : Method) (c : Code) (b L : Nat) (xs : Nat → Int32) (D : va_G) (ci : Nat → ClassId) (sa : Nat → Nat) {a_x a_m i : Nat} {ls : Array Slot} (C0 : lL_C p l e s m below meth c b L xs D ci sa) (hi : i + 8 ≤ L) (hl : lv_has ls 4 [(3, .int (nI i)), (2, .ref a_m), (1, .ref a_x), (0, .ref b)]) (hgo : lL_go p l e s m below meth c b L xs D ci sa a_x a_m ls 2146) : lL_go p l e s m below meth c b L xs D ci sa a_x a_m ls 2133 := by
  obtain ⟨hx, hb, hml, hown, hts, hX, hbl, hK, hZ, hret, hlocks, hL⟩ := C0
  intro WX WM t n s0 sv kv H locs cells slots hXI hMI hP hD hS hc hs
  have hA : ∀ q : Nat, s.heap.size ≤ q → (fun q : Nat => s.heap.size ≤ q) q := fun _ h => h
  have hbA : ¬ (fun q : Nat => s.heap.size ≤ q) b := Nat.not_le.mpr hbl
  have hn := hXI.n
  have hok := hXI.ok
  refine lv_aload_n (pc := 2133) hx hb dL_law_2133 rfl (lv_at hl 2 rfl) ?_
  obtain ⟨r, hr, hM1⟩ := l_X_undo l D ci (fun q : Nat => s.heap.size ≤ q) sa WM hXI 
  obtain ⟨fs, hh⟩ := hXI.hd WM
  refine q_call (pc := 2134) (va_runV (As := []) (rest := []) ⟨hx, hb, hml, hown, hts⟩ hM1 (cwV 0 hts gL_law_X10_undo rfl rfl rfl (by decide +kernel) ⟨Nat.le_of_ble_eq_true rfl, Nat.le_of_ble_eq_true rfl⟩) (q_preV (n1 := 0) (is1 := []) hK hA hZ hP hD hS rfl ⟨rfl, rfl, rfl⟩ 0 hh rfl) rfl rfl hl.1 rfl (lv_room (Nat.le_of_ble_eq_true rfl)) dL_law_2134 (l_rm hn.2 hc hs (Nat.zero_le _) (Nat.zero_le _))) hS (fun t2 locs _ hB hS => ?_)
  obtain ⟨WX, hXI, hP, hD⟩ := hB
  refine lv_pop (pc := 2137) hx hb dL_law_2137 rfl ?_
  have hP := l_swP hP
  have hD := l_swD hD
  refine lv_aload_n (pc := 2138) hx hb dL_law_2138 rfl (lv_at hl 1 rfl) ?_
  obtain ⟨r2, hr2, hM2⟩ := l_M_undo l D ci (fun q : Nat => s.heap.size ≤ q) sa WX hMI 
  obtain ⟨fs, hh⟩ := hMI.hd WX
  refine q_call (pc := 2139) (va_runV (As := []) (rest := []) ⟨hx, hb, hml, hown, hts⟩ hM2 (cwV 0 hts gL_law_X11_undo rfl rfl rfl (by decide +kernel) ⟨Nat.le_of_ble_eq_true rfl, Nat.le_of_ble_eq_true rfl⟩) (q_preV (n1 := 0) (is1 := []) hK hA hZ hP hD hS rfl ⟨rfl, rfl, rfl⟩ 0 hh rfl) rfl rfl hl.1 rfl (lv_room (Nat.le_of_ble_eq_true rfl)) dL_law_2139 (l_rm hn.2 hc hs (Nat.zero_le _) (Nat.zero_le _))) hS (fun t2 locs _ hB hS => ?_)
  obtain ⟨WM, hMI, hP, hD⟩ := hB
  have hP := l_swP hP
  have hD := l_swD hD
  refine lv_pop (pc := 2142) hx hb dL_law_2142 rfl ?_
  refine lv_goto (pc := 2143) (tgt := 2146) hx hb dL_law_2143 rfl ?_
  exact hgo WX WM _ _ _ _ _ _ _ _ _ hXI hMI hP hD hS hc hs
end
section
/-! the constructors in the law's worlds -/
set_option maxRecDepth 10000 in
theorem l_X_init (l : Launch) (D : va_G) (ci : Nat → ClassId) (A : Nat → Prop) (sa : Nat → Nat) (R : va_W) (a_x : Nat) : Met l yX10_init wsX10_init ({ frames := 3, cells := 139, slots := 2689, locals := 63 }) (va_Pc [.ref a_x] (q_N D ci A sa ((a_x, .inr (10, [.null, .null, .null, .null, .int 0, .null, .null, .null, .null, .null, .null, .null, .null, .null])) :: R))) (q_Q none (fun t2 => ∃ W3, XI ci a_x W3 0 0 0 l_sv0 (fun _ => l_sv0) ∧ q_O D A (W3 ++ R) t2) A) 139 2689 A := by
  obtain ⟨⟨o1, o2, o3, o4⟩, hf, g⟩ := s_multiply (N := 3000000) z_c2kg (Nat.le_of_ble_eq_true rfl) (fun _ => 0) (fun _ => 0) (fun _ => 0) (fun _ => 0)
  dsimp only at g
  refine (c_X_init l D ci A sa 3000000 R a_x o1 o2 o3 o4 hf).imp (fun _ _ h => h) (fun _ _ _ _ _ h => ⟨h.1, ?_, h.2.2⟩)
  obtain ⟨ad, q⟩ := h.2.1
  have e : q_pk 140 [0, 15, 16, 9, 2, 3, 4, 5, 6, 7, 8, 19, 31, 32, 17, 1, 20, 21, 23, 24, 25, 26, 27, 28, 22, 30, 33, 34, 18, 10, 11, 12, 13, 35, 14, 36, 44, 45, 46, 47, 37, 38, 39, 40, 41, 42, 43, 49, 57, 58, 59, 60, 50, 51, 52, 53, 54, 55, 56, 62, 70, 71, 72, 73, 63, 64, 65, 66, 67, 68, 69, 75, 83, 84, 85, 86, 76, 77, 78, 79, 80, 81, 82, 88, 96, 97, 98, 99, 89, 90, 91, 92, 93, 94, 95, 101, 109, 110, 111, 112, 102, 103, 104, 105, 106, 107, 108, 114, 122, 123, 124, 125, 115, 116, 117, 118, 119, 120, 121, 127, 135, 136, 137, 138, 128, 129, 130, 131, 132, 133, 134] ((a_x, .inr (10, [.ref (ad 0), .ref (ad 1), .ref (ad 8), .ref (ad 13), .int 0, .ref (ad 14), .ref (ad 16), .ref (ad 17), .ref (ad 18), .ref (ad 22), .ref (ad 29), .ref (ad 30), .ref (ad 32), .ref (ad 34)])) :: ((ad 0), .inr (0, [.ref (ad 1), .ref (ad 8), .int 0, .int 0, .int 0, .int 0])) :: ((ad 1), .inr (2, [.ref (ad 2), .ref (ad 3), .ref (ad 4), .ref (ad 5), .ref (ad 6), .ref (ad 7)])) :: ((ad 2), .inl (ci 0, 5, .inl q_c2)) :: ((ad 3), .inl (ci 0, 5, .inl q_c2)) :: ((ad 4), .inl (ci 0, 5, .inl o1)) :: ((ad 5), .inl (ci 0, 5, .inl o2)) :: ((ad 6), .inl (ci 0, 5, .inl o3)) :: ((ad 7), .inl (ci 0, 5, .inl o4)) :: ((ad 8), .inr (7, [.ref (ad 1), .ref (ad 9), .ref (ad 10), .ref (ad 11), .ref (ad 12), .int 0, .int 0, .int 0, .int 0])) :: ((ad 9), .inl (ci 0, 60, .inl (fun _ => 0))) :: ((ad 10), .inl (ci 0, 60, .inl (fun _ => 0))) :: ((ad 11), .inl (ci 0, 60, .inl (fun _ => 0))) :: ((ad 12), .inl (ci 0, 5, .inl (fun _ => 0))) :: ((ad 13), .inl (ci 3, 8, .inr (.inr (.inr (.inr (va_up (va_up (va_up (va_up (va_up (va_up (va_up (va_up (fun _ => none) (0 : Int32).toNatClampNeg (some (ad 35))) (1 : Int32).toNatClampNeg (some (ad 48))) (2 : Int32).toNatClampNeg (some (ad 61))) (3 : Int32).toNatClampNeg (some (ad 74))) (4 : Int32).toNatClampNeg (some (ad 87))) (5 : Int32).toNatClampNeg (some (ad 100))) (6 : Int32).toNatClampNeg (some (ad 113))) (7 : Int32).toNatClampNeg (some (ad 126)))))))) :: ((ad 14), .inr (8, [.ref (ad 15), .int 0])) :: ((ad 15), .inl (ci 0, 200, .inl (fun _ => 0))) :: ((ad 16), .inr (3, [.ref (ad 1), .ref (ad 14), .int 0, .int 0, .int 0, .int 0, .int 0, .int 0, .int 0])) :: ((ad 17), .inr (5, [.ref (ad 16), .ref (ad 14), .int (-1), .int 0, .int 0, .int 0, .int 0])) :: ((ad 18), .inr (6, [.ref (ad 1), .ref (ad 19), .ref (ad 20), .ref (ad 21), .int 0, .int 0, .int 0, .int 0, .int 0, .int 1, .int 1])) :: ((ad 19), .inl (ci 0, 4, .inl (fun _ => 0))) :: ((ad 20), .inl (ci 0, 4, .inl (fun _ => 0))) :: ((ad 21), .inl (ci 0, 4, .inl (fun _ => 0))) :: ((ad 22), .inr (9, [.ref (ad 25), .ref (ad 23), .ref (ad 24), .int 0])) :: ((ad 23), .inl (ci 0, 0, .inl (fun _ => 0))) :: ((ad 24), .inl (ci 0, 0, .inl (fun _ => 0))) :: ((ad 25), .inr (6, [.ref (ad 1), .ref (ad 26), .ref (ad 27), .ref (ad 28), .int 0, .int 0, .int 0, .int 0, .int 0, .int 1, .int 1])) :: ((ad 26), .inl (ci 0, 4, .inl (fun _ => 0))) :: ((ad 27), .inl (ci 0, 4, .inl (fun _ => 0))) :: ((ad 28), .inl (ci 0, 4, .inl (fun _ => 0))) :: ((ad 29), .inr (1, [.ref (ad 1), .int 0, .int 0, .int 0, .int 0])) :: ((ad 30), .inr (4, [.ref (ad 31), .int 0])) :: ((ad 31), .inl (ci 0, 40, .inl (fun _ => 0))) :: ((ad 32), .inr (4, [.ref (ad 33), .int 0])) :: ((ad 33), .inl (ci 0, 40, .inl (fun _ => 0))) :: ((ad 34), .inl (ci 0, 200, .inl (fun _ => 0))) :: ((ad 35), .inr (0, [.ref (ad 36), .ref (ad 43), .int 0, .int 0, .int 0, .int 0])) :: ((ad 36), .inr (2, [.ref (ad 37), .ref (ad 38), .ref (ad 39), .ref (ad 40), .ref (ad 41), .ref (ad 42)])) :: ((ad 37), .inl (ci 0, 5, .inl q_c2)) :: ((ad 38), .inl (ci 0, 5, .inl q_c2)) :: ((ad 39), .inl (ci 0, 5, .inl o1)) :: ((ad 40), .inl (ci 0, 5, .inl o2)) :: ((ad 41), .inl (ci 0, 5, .inl o3)) :: ((ad 42), .inl (ci 0, 5, .inl o4)) :: ((ad 43), .inr (7, [.ref (ad 36), .ref (ad 44), .ref (ad 45), .ref (ad 46), .ref (ad 47), .int 0, .int 0, .int 0, .int 0])) :: ((ad 44), .inl (ci 0, 60, .inl (fun _ => 0))) :: ((ad 45), .inl (ci 0, 60, .inl (fun _ => 0))) :: ((ad 46), .inl (ci 0, 60, .inl (fun _ => 0))) :: ((ad 47), .inl (ci 0, 5, .inl (fun _ => 0))) :: ((ad 48), .inr (0, [.ref (ad 49), .ref (ad 56), .int 0, .int 0, .int 0, .int 0])) :: ((ad 49), .inr (2, [.ref (ad 50), .ref (ad 51), .ref (ad 52), .ref (ad 53), .ref (ad 54), .ref (ad 55)])) :: ((ad 50), .inl (ci 0, 5, .inl q_c2)) :: ((ad 51), .inl (ci 0, 5, .inl q_c2)) :: ((ad 52), .inl (ci 0, 5, .inl o1)) :: ((ad 53), .inl (ci 0, 5, .inl o2)) :: ((ad 54), .inl (ci 0, 5, .inl o3)) :: ((ad 55), .inl (ci 0, 5, .inl o4)) :: ((ad 56), .inr (7, [.ref (ad 49), .ref (ad 57), .ref (ad 58), .ref (ad 59), .ref (ad 60), .int 0, .int 0, .int 0, .int 0])) :: ((ad 57), .inl (ci 0, 60, .inl (fun _ => 0))) :: ((ad 58), .inl (ci 0, 60, .inl (fun _ => 0))) :: ((ad 59), .inl (ci 0, 60, .inl (fun _ => 0))) :: ((ad 60), .inl (ci 0, 5, .inl (fun _ => 0))) :: ((ad 61), .inr (0, [.ref (ad 62), .ref (ad 69), .int 0, .int 0, .int 0, .int 0])) :: ((ad 62), .inr (2, [.ref (ad 63), .ref (ad 64), .ref (ad 65), .ref (ad 66), .ref (ad 67), .ref (ad 68)])) :: ((ad 63), .inl (ci 0, 5, .inl q_c2)) :: ((ad 64), .inl (ci 0, 5, .inl q_c2)) :: ((ad 65), .inl (ci 0, 5, .inl o1)) :: ((ad 66), .inl (ci 0, 5, .inl o2)) :: ((ad 67), .inl (ci 0, 5, .inl o3)) :: ((ad 68), .inl (ci 0, 5, .inl o4)) :: ((ad 69), .inr (7, [.ref (ad 62), .ref (ad 70), .ref (ad 71), .ref (ad 72), .ref (ad 73), .int 0, .int 0, .int 0, .int 0])) :: ((ad 70), .inl (ci 0, 60, .inl (fun _ => 0))) :: ((ad 71), .inl (ci 0, 60, .inl (fun _ => 0))) :: ((ad 72), .inl (ci 0, 60, .inl (fun _ => 0))) :: ((ad 73), .inl (ci 0, 5, .inl (fun _ => 0))) :: ((ad 74), .inr (0, [.ref (ad 75), .ref (ad 82), .int 0, .int 0, .int 0, .int 0])) :: ((ad 75), .inr (2, [.ref (ad 76), .ref (ad 77), .ref (ad 78), .ref (ad 79), .ref (ad 80), .ref (ad 81)])) :: ((ad 76), .inl (ci 0, 5, .inl q_c2)) :: ((ad 77), .inl (ci 0, 5, .inl q_c2)) :: ((ad 78), .inl (ci 0, 5, .inl o1)) :: ((ad 79), .inl (ci 0, 5, .inl o2)) :: ((ad 80), .inl (ci 0, 5, .inl o3)) :: ((ad 81), .inl (ci 0, 5, .inl o4)) :: ((ad 82), .inr (7, [.ref (ad 75), .ref (ad 83), .ref (ad 84), .ref (ad 85), .ref (ad 86), .int 0, .int 0, .int 0, .int 0])) :: ((ad 83), .inl (ci 0, 60, .inl (fun _ => 0))) :: ((ad 84), .inl (ci 0, 60, .inl (fun _ => 0))) :: ((ad 85), .inl (ci 0, 60, .inl (fun _ => 0))) :: ((ad 86), .inl (ci 0, 5, .inl (fun _ => 0))) :: ((ad 87), .inr (0, [.ref (ad 88), .ref (ad 95), .int 0, .int 0, .int 0, .int 0])) :: ((ad 88), .inr (2, [.ref (ad 89), .ref (ad 90), .ref (ad 91), .ref (ad 92), .ref (ad 93), .ref (ad 94)])) :: ((ad 89), .inl (ci 0, 5, .inl q_c2)) :: ((ad 90), .inl (ci 0, 5, .inl q_c2)) :: ((ad 91), .inl (ci 0, 5, .inl o1)) :: ((ad 92), .inl (ci 0, 5, .inl o2)) :: ((ad 93), .inl (ci 0, 5, .inl o3)) :: ((ad 94), .inl (ci 0, 5, .inl o4)) :: ((ad 95), .inr (7, [.ref (ad 88), .ref (ad 96), .ref (ad 97), .ref (ad 98), .ref (ad 99), .int 0, .int 0, .int 0, .int 0])) :: ((ad 96), .inl (ci 0, 60, .inl (fun _ => 0))) :: ((ad 97), .inl (ci 0, 60, .inl (fun _ => 0))) :: ((ad 98), .inl (ci 0, 60, .inl (fun _ => 0))) :: ((ad 99), .inl (ci 0, 5, .inl (fun _ => 0))) :: ((ad 100), .inr (0, [.ref (ad 101), .ref (ad 108), .int 0, .int 0, .int 0, .int 0])) :: ((ad 101), .inr (2, [.ref (ad 102), .ref (ad 103), .ref (ad 104), .ref (ad 105), .ref (ad 106), .ref (ad 107)])) :: ((ad 102), .inl (ci 0, 5, .inl q_c2)) :: ((ad 103), .inl (ci 0, 5, .inl q_c2)) :: ((ad 104), .inl (ci 0, 5, .inl o1)) :: ((ad 105), .inl (ci 0, 5, .inl o2)) :: ((ad 106), .inl (ci 0, 5, .inl o3)) :: ((ad 107), .inl (ci 0, 5, .inl o4)) :: ((ad 108), .inr (7, [.ref (ad 101), .ref (ad 109), .ref (ad 110), .ref (ad 111), .ref (ad 112), .int 0, .int 0, .int 0, .int 0])) :: ((ad 109), .inl (ci 0, 60, .inl (fun _ => 0))) :: ((ad 110), .inl (ci 0, 60, .inl (fun _ => 0))) :: ((ad 111), .inl (ci 0, 60, .inl (fun _ => 0))) :: ((ad 112), .inl (ci 0, 5, .inl (fun _ => 0))) :: ((ad 113), .inr (0, [.ref (ad 114), .ref (ad 121), .int 0, .int 0, .int 0, .int 0])) :: ((ad 114), .inr (2, [.ref (ad 115), .ref (ad 116), .ref (ad 117), .ref (ad 118), .ref (ad 119), .ref (ad 120)])) :: ((ad 115), .inl (ci 0, 5, .inl q_c2)) :: ((ad 116), .inl (ci 0, 5, .inl q_c2)) :: ((ad 117), .inl (ci 0, 5, .inl o1)) :: ((ad 118), .inl (ci 0, 5, .inl o2)) :: ((ad 119), .inl (ci 0, 5, .inl o3)) :: ((ad 120), .inl (ci 0, 5, .inl o4)) :: ((ad 121), .inr (7, [.ref (ad 114), .ref (ad 122), .ref (ad 123), .ref (ad 124), .ref (ad 125), .int 0, .int 0, .int 0, .int 0])) :: ((ad 122), .inl (ci 0, 60, .inl (fun _ => 0))) :: ((ad 123), .inl (ci 0, 60, .inl (fun _ => 0))) :: ((ad 124), .inl (ci 0, 60, .inl (fun _ => 0))) :: ((ad 125), .inl (ci 0, 5, .inl (fun _ => 0))) :: ((ad 126), .inr (0, [.ref (ad 127), .ref (ad 134), .int 0, .int 0, .int 0, .int 0])) :: ((ad 127), .inr (2, [.ref (ad 128), .ref (ad 129), .ref (ad 130), .ref (ad 131), .ref (ad 132), .ref (ad 133)])) :: ((ad 128), .inl (ci 0, 5, .inl q_c2)) :: ((ad 129), .inl (ci 0, 5, .inl q_c2)) :: ((ad 130), .inl (ci 0, 5, .inl o1)) :: ((ad 131), .inl (ci 0, 5, .inl o2)) :: ((ad 132), .inl (ci 0, 5, .inl o3)) :: ((ad 133), .inl (ci 0, 5, .inl o4)) :: ((ad 134), .inr (7, [.ref (ad 127), .ref (ad 135), .ref (ad 136), .ref (ad 137), .ref (ad 138), .int 0, .int 0, .int 0, .int 0])) :: ((ad 135), .inl (ci 0, 60, .inl (fun _ => 0))) :: ((ad 136), .inl (ci 0, 60, .inl (fun _ => 0))) :: ((ad 137), .inl (ci 0, 60, .inl (fun _ => 0))) :: ((ad 138), .inl (ci 0, 5, .inl (fun _ => 0))) :: R) = XW ci a_x 0 (fun i => ad ([0, 1, 8, 13, 14, 16, 17, 18, 22, 29, 30, 32, 34, 15, 9, 10, 11, 12, 2, 3, 4, 5, 6, 7, 19, 20, 21, 31, 25, 23, 24, 26, 27, 28, 33].getD i 0)) (fun i => ([0, 0, 0, 0, 0, 0, 0, 0, 0, 0, 0, 1, 1, 0, 0, 0, 0, 0, 0, 0, 0, 0, 0, 0, 0, 0, 0, 0, 0, 0, 0, 1, 1, 0, 0, 0, 0, 0, (-1), 0, 0, 0, 0] : List Int32).getD i 0) (fun i => ([(fun _ => 0), q_c2, q_c2, o1, o2, o3, o4, (fun _ => 0), (fun _ => 0), (fun _ => 0), (fun _ => 0), (fun _ => 0), (fun _ => 0), (fun _ => 0), (fun _ => 0), (fun _ => 0), (fun _ => 0), (fun _ => 0), (fun _ => 0), (fun _ => 0), (fun _ => 0)] : List (Nat → Int32)).getD i (fun _ => 0)) (va_up (va_up (va_up (va_up (va_up (va_up (va_up (va_up (fun _ => none) (0 : Int32).toNatClampNeg (some (ad 35))) (1 : Int32).toNatClampNeg (some (ad 48))) (2 : Int32).toNatClampNeg (some (ad 61))) (3 : Int32).toNatClampNeg (some (ad 74))) (4 : Int32).toNatClampNeg (some (ad 87))) (5 : Int32).toNatClampNeg (some (ad 100))) (6 : Int32).toNatClampNeg (some (ad 113))) (7 : Int32).toNatClampNeg (some (ad 126))) (lX_ka ci (fun k i => ad (35 + 13 * k + [0, 8, 9, 10, 11, 12, 1, 2, 3, 4, 5, 6, 7].getD i 0)) (fun _ _ => 0) (fun _ => l_f9 (fun _ => 0) (fun _ => 0) (fun _ => 0) q_c2 q_c2 o1 o2 o3 o4)) ++ R := rfl
  refine ⟨XW ci a_x 0 (fun i => ad ([0, 1, 8, 13, 14, 16, 17, 18, 22, 29, 30, 32, 34, 15, 9, 10, 11, 12, 2, 3, 4, 5, 6, 7, 19, 20, 21, 31, 25, 23, 24, 26, 27, 28, 33].getD i 0)) (fun i => ([0, 0, 0, 0, 0, 0, 0, 0, 0, 0, 0, 1, 1, 0, 0, 0, 0, 0, 0, 0, 0, 0, 0, 0, 0, 0, 0, 0, 0, 0, 0, 1, 1, 0, 0, 0, 0, 0, (-1), 0, 0, 0, 0] : List Int32).getD i 0) (fun i => ([(fun _ => 0), q_c2, q_c2, o1, o2, o3, o4, (fun _ => 0), (fun _ => 0), (fun _ => 0), (fun _ => 0), (fun _ => 0), (fun _ => 0), (fun _ => 0), (fun _ => 0), (fun _ => 0), (fun _ => 0), (fun _ => 0), (fun _ => 0), (fun _ => 0), (fun _ => 0)] : List (Nat → Int32)).getD i (fun _ => 0)) (va_up (va_up (va_up (va_up (va_up (va_up (va_up (va_up (fun _ => none) (0 : Int32).toNatClampNeg (some (ad 35))) (1 : Int32).toNatClampNeg (some (ad 48))) (2 : Int32).toNatClampNeg (some (ad 61))) (3 : Int32).toNatClampNeg (some (ad 74))) (4 : Int32).toNatClampNeg (some (ad 87))) (5 : Int32).toNatClampNeg (some (ad 100))) (6 : Int32).toNatClampNeg (some (ad 113))) (7 : Int32).toNatClampNeg (some (ad 126))) (lX_ka ci (fun k i => ad (35 + 13 * k + [0, 8, 9, 10, 11, 12, 1, 2, 3, 4, 5, 6, 7].getD i 0)) (fun _ _ => 0) (fun _ => l_f9 (fun _ => 0) (fun _ => 0) (fun _ => 0) q_c2 q_c2 o1 o2 o3 o4)), ⟨(fun i => ad ([0, 1, 8, 13, 14, 16, 17, 18, 22, 29, 30, 32, 34, 15, 9, 10, 11, 12, 2, 3, 4, 5, 6, 7, 19, 20, 21, 31, 25, 23, 24, 26, 27, 28, 33].getD i 0)), (fun i => ([0, 0, 0, 0, 0, 0, 0, 0, 0, 0, 0, 1, 1, 0, 0, 0, 0, 0, 0, 0, 0, 0, 0, 0, 0, 0, 0, 0, 0, 0, 0, 1, 1, 0, 0, 0, 0, 0, (-1), 0, 0, 0, 0] : List Int32).getD i 0), (fun i => ([(fun _ => 0), q_c2, q_c2, o1, o2, o3, o4, (fun _ => 0), (fun _ => 0), (fun _ => 0), (fun _ => 0), (fun _ => 0), (fun _ => 0), (fun _ => 0), (fun _ => 0), (fun _ => 0), (fun _ => 0), (fun _ => 0), (fun _ => 0), (fun _ => 0), (fun _ => 0)] : List (Nat → Int32)).getD i (fun _ => 0)), (va_up (va_up (va_up (va_up (va_up (va_up (va_up (va_up (fun _ => none) (0 : Int32).toNatClampNeg (some (ad 35))) (1 : Int32).toNatClampNeg (some (ad 48))) (2 : Int32).toNatClampNeg (some (ad 61))) (3 : Int32).toNatClampNeg (some (ad 74))) (4 : Int32).toNatClampNeg (some (ad 87))) (5 : Int32).toNatClampNeg (some (ad 100))) (6 : Int32).toNatClampNeg (some (ad 113))) (7 : Int32).toNatClampNeg (some (ad 126))), (fun k i => ad (35 + 13 * k + [0, 8, 9, 10, 11, 12, 1, 2, 3, 4, 5, 6, 7].getD i 0)), (fun _ _ => 0), (fun _ => l_f9 (fun _ => 0) (fun _ => 0) (fun _ => 0) q_c2 q_c2 o1 o2 o3 o4), rfl, ⟨by omega, rfl⟩, ⟨Or.inl rfl, by omega⟩, g, l_sv0X, ⟨by omega, rfl, fun j hj => absurd hj (by omega)⟩, fun j hj => ?_⟩, q_pk_P q.1 e, q_pk_D q.2 e ⟨rfl, rfl, rfl⟩⟩
  rcases (show j = 0 ∨ j = 1 ∨ j = 2 ∨ j = 3 ∨ j = 4 ∨ j = 5 ∨ j = 6 ∨ j = 7 by omega) with rfl | rfl | rfl | rfl | rfl | rfl | rfl | rfl <;> rfl
theorem l_M_init (l : Launch) (D : va_G) (ci : Nat → ClassId) (A : Nat → Prop) (sa : Nat → Nat) (R : va_W) (a_m : Nat) : Met l yX11_init wsX11_init ({ frames := 1, cells := 17, slots := 42249, locals := 21 }) (va_Pc [.ref a_m] (q_N D ci A sa ((a_m, .inr (11, (.null :: .null :: .null :: .null :: .null :: .null :: .null :: .null :: .int 0 :: .int 0 :: .int 0 :: .int 0 :: .int 0 :: .int 0 :: .int 0 :: .int 0 :: .int 0 :: .int 0 :: .long 0 :: .long 0 :: .null :: .int 0 :: .int 0 :: .null :: .null :: .int 0 :: .int 0 :: .int 0 :: .int 0 :: .int 0 :: .int 0 :: .int 0 :: .int 0 :: .int 0 :: .null :: .null :: .null :: .int 0 :: .null :: .null :: .int 0 :: .null :: []))) :: R))) (q_Q none (fun t2 => ∃ W3, MI ci a_m W3 0 0 l_sv0 (fun _ => l_sv0) ∧ q_O D A (W3 ++ R) t2) A) 17 42249 A := by
  obtain ⟨⟨o1, o2, o3, o4, o5⟩, hf, g⟩ := t_init (N := 3000000) (Nat.le_of_ble_eq_true rfl)
  dsimp only at g
  refine (c_M_init l D ci A sa 3000000 R a_m o1 o2 o3 o4 o5 hf).imp (fun _ _ h => h) (fun _ _ _ _ _ h => ⟨h.1, ?_, h.2.2⟩)
  obtain ⟨ad, q⟩ := h.2.1
  have e : q_pk 18 [0, 8, 1, 2, 3, 4, 5, 6, 9, 10, 11, 7, 12, 13, 14, 15, 16, 17] ((a_m, .inr (11, (.ref (ad 0) :: .ref (ad 1) :: .ref (ad 2) :: .ref (ad 3) :: .ref (ad 4) :: .ref (ad 5) :: .ref (ad 6) :: .ref (ad 7) :: .int 0 :: .int 0 :: .int 0 :: .int 0 :: .int 0 :: .int 0 :: .int 0 :: .int 0 :: .int 0 :: .int 0 :: .long 0 :: .long 0 :: .ref (ad 8) :: .int 0 :: .int 0 :: .ref (ad 9) :: .ref (ad 10) :: .int 0 :: .int 0 :: .int 0 :: .int 0 :: .int 0 :: .int 0 :: .int 0 :: .int 0 :: .int 0 :: .ref (ad 11) :: .ref (ad 12) :: .ref (ad 13) :: .int 0 :: .ref (ad 14) :: .ref (ad 15) :: .int 0 :: .ref (ad 16) :: []))) :: ((ad 0), .inl (ci 0, 5, .inl o1)) :: ((ad 1), .inl (ci 0, 5, .inl o2)) :: ((ad 2), .inl (ci 0, 5, .inl o3)) :: ((ad 3), .inl (ci 0, 5, .inl o4)) :: ((ad 4), .inl (ci 0, 45, .inl o5)) :: ((ad 5), .inl (ci 0, 20, .inl (fun _ => 0))) :: ((ad 6), .inl (ci 0, 20, .inl (fun _ => 0))) :: ((ad 7), .inl (ci 2, 200, .inl (fun _ => 0))) :: ((ad 8), .inl (ci 1, 4, .inr (.inl (fun _ => 0)))) :: ((ad 9), .inl (ci 0, 20000, .inl (fun _ => 0))) :: ((ad 10), .inl (ci 0, 20000, .inl (fun _ => 0))) :: ((ad 11), .inl (ci 0, 60, .inl (fun _ => 0))) :: ((ad 12), .inl (ci 0, 60, .inl (fun _ => 0))) :: ((ad 13), .inl (ci 0, 60, .inl (fun _ => 0))) :: ((ad 14), .inl (ci 0, 200, .inl (fun _ => 0))) :: ((ad 15), .inl (ci 0, 1552, .inl (fun _ => 0))) :: ((ad 16), .inl (ci 0, 8, .inl (fun _ => 0))) :: R) = MW ci a_m (fun i => ad ([0, 1, 2, 3, 4, 5, 6, 7, 8, 9, 10, 11, 12, 13, 14, 15, 16].getD i 0)) (fun i => ([0, 0, 0, 0, 0, 0, 0, 0, 0, 0, 0, 0, 0, 0, 0, 0, 0, 0, 0, 0, 0, 0, 0] : List Int32).getD i 0) (fun i => ([0, 0] : List Int64).getD i 0) (fun i => ([(fun _ => 0), o1, o2, o3, o4, o5, (fun _ => 0), (fun _ => 0), (fun _ => 0), (fun _ => 0), (fun _ => 0), (fun _ => 0), (fun _ => 0), (fun _ => 0), (fun _ => 0), (fun _ => 0)] : List (Nat → Int32)).getD i (fun _ => 0)) (fun i => ([(fun _ => 0)] : List (Nat → Int64)).getD i (fun _ => 0)) ++ R := rfl
  exact ⟨MW ci a_m (fun i => ad ([0, 1, 2, 3, 4, 5, 6, 7, 8, 9, 10, 11, 12, 13, 14, 15, 16].getD i 0)) (fun i => ([0, 0, 0, 0, 0, 0, 0, 0, 0, 0, 0, 0, 0, 0, 0, 0, 0, 0, 0, 0, 0, 0, 0] : List Int32).getD i 0) (fun i => ([0, 0] : List Int64).getD i 0) (fun i => ([(fun _ => 0), o1, o2, o3, o4, o5, (fun _ => 0), (fun _ => 0), (fun _ => 0), (fun _ => 0), (fun _ => 0), (fun _ => 0), (fun _ => 0), (fun _ => 0), (fun _ => 0), (fun _ => 0)] : List (Nat → Int32)).getD i (fun _ => 0)) (fun i => ([(fun _ => 0)] : List (Nat → Int64)).getD i (fun _ => 0)), ⟨(fun i => ad ([0, 1, 2, 3, 4, 5, 6, 7, 8, 9, 10, 11, 12, 13, 14, 15, 16].getD i 0)), (fun i => ([0, 0, 0, 0, 0, 0, 0, 0, 0, 0, 0, 0, 0, 0, 0, 0, 0, 0, 0, 0, 0, 0, 0] : List Int32).getD i 0), (fun i => ([0, 0] : List Int64).getD i 0), (fun i => ([(fun _ => 0), o1, o2, o3, o4, o5, (fun _ => 0), (fun _ => 0), (fun _ => 0), (fun _ => 0), (fun _ => 0), (fun _ => 0), (fun _ => 0), (fun _ => 0), (fun _ => 0), (fun _ => 0)] : List (Nat → Int32)).getD i (fun _ => 0)), (fun i => ([(fun _ => 0)] : List (Nat → Int64)).getD i (fun _ => 0)), rfl, ⟨by omega, rfl⟩, g, l_sv0X, by omega, rfl, fun j hj => absurd hj (by omega)⟩, q_pk_P q.1 e, q_pk_D q.2 e ⟨rfl, rfl, rfl⟩⟩
end
section
/-! the law's loop -/
theorem l_and63 (x : Int32) : ∃ k, k < 64 ∧ x &&& nI 63 = nI k := by
  refine ⟨(x &&& nI 63).toBitVec.toNat, ?_, ?_⟩
  · rw [Int32.toBitVec_and, BitVec.toNat_and]
    exact Nat.lt_of_le_of_lt Nat.and_le_right (by decide)
  · apply Int32.toBitVec_inj.mp
    show (x &&& nI 63).toBitVec = BitVec.ofNat 32 (x &&& nI 63).toBitVec.toNat
    rw [BitVec.ofNat_toNat, BitVec.setWidth_eq]
theorem l_in0 {i L : Nat} (h : i + 8 ≤ L) (hL : L ≤ 4096) : vp_in (nI i) L := by
  show ¬ (nI i < 0 ∨ L ≤ (nI i).toNatClampNeg)
  have e : (nI i).toNatClampNeg = i := nI_clamp (by omega)
  rw [e]
  rintro (z | z)
  · exact z_lt0 (by omega) z
  · omega
theorem l_le8 {i L : Nat} (hL : L ≤ 4096) (hi : i ≤ 5000) (h : ¬ nI L - nI 8 < nI i) : i + 8 ≤ L := by
  have h1 : ¬ (nI L - nI 8).toInt < (nI i).toInt := fun z => h (z_lt.mpr z)
  rw [Int32.toInt_sub, nI_toInt (by omega), nI_toInt (by omega), nI_toInt (by omega), Int.bmod_eq_of_le (by omega) (by omega)] at h1
  omega
theorem law_switch (p : Program) (l : Launch) (e : Env) (s : State) (m : MethodId) (below : List Frame) (meth : Method) (c : Code) (b L : Nat) (xs : Nat → Int32) (D : va_G) (ci : Nat → ClassId) (sa : Nat → Nat) {a_x a_m i : Nat} {ls : Array Slot} (C0 : lL_C p l e s m below meth c b L xs D ci sa) (hi : i + 8 ≤ L) (hl : lv_has ls 4 [(3, .int (nI i)), (2, .ref a_m), (1, .ref a_x), (0, .ref b)]) (hgo : lL_go p l e s m below meth c b L xs D ci sa a_x a_m ls 2146) (k : Nat) (hk : k < 44) : ∃ off, (#[191, 254, 297, 330, 373, 416, 449, 492, 535, 578, 621, 664, 717, 770, 823, 866, 909, 952, 1005, 1048, 1091, 1134, 1177, 1252, 1327, 1370, 1413, 1456, 1519, 1542, 1585, 1618, 1651, 1694, 1781, 1824, 1857, 1890, 1903, 1978, 2021, 2064, 2087, 2100] : Array Int)[k]? = some off ∧ ∃ tgt : Nat, (33 : Int) + off = (tgt : Int) ∧ lL_go p l e s m below meth c b L xs D ci sa a_x a_m ls tgt := by
  rcases (show k = 0 ∨ k = 1 ∨ k = 2 ∨ k = 3 ∨ k = 4 ∨ k = 5 ∨ k = 6 ∨ k = 7 ∨ k = 8 ∨ k = 9 ∨ k = 10 ∨ k = 11 ∨ k = 12 ∨ k = 13 ∨ k = 14 ∨ k = 15 ∨ k = 16 ∨ k = 17 ∨ k = 18 ∨ k = 19 ∨ k = 20 ∨ k = 21 ∨ k = 22 ∨ k = 23 ∨ k = 24 ∨ k = 25 ∨ k = 26 ∨ k = 27 ∨ k = 28 ∨ k = 29 ∨ k = 30 ∨ k = 31 ∨ k = 32 ∨ k = 33 ∨ k = 34 ∨ k = 35 ∨ k = 36 ∨ k = 37 ∨ k = 38 ∨ k = 39 ∨ k = 40 ∨ k = 41 ∨ k = 42 ∨ k = 43 by omega) with rfl | rfl | rfl | rfl | rfl | rfl | rfl | rfl | rfl | rfl | rfl | rfl | rfl | rfl | rfl | rfl | rfl | rfl | rfl | rfl | rfl | rfl | rfl | rfl | rfl | rfl | rfl | rfl | rfl | rfl | rfl | rfl | rfl | rfl | rfl | rfl | rfl | rfl | rfl | rfl | rfl | rfl | rfl | rfl
  · exact ⟨191, rfl, 224, rfl, law_0 p l e s m below meth c b L xs D ci sa C0 hi hl hgo⟩
  · exact ⟨254, rfl, 287, rfl, law_1 p l e s m below meth c b L xs D ci sa C0 hi hl hgo⟩
  · exact ⟨297, rfl, 330, rfl, law_2 p l e s m below meth c b L xs D ci sa C0 hi hl hgo⟩
  · exact ⟨330, rfl, 363, rfl, law_3 p l e s m below meth c b L xs D ci sa C0 hi hl hgo⟩
  · exact ⟨373, rfl, 406, rfl, law_4 p l e s m below meth c b L xs D ci sa C0 hi hl hgo⟩
  · exact ⟨416, rfl, 449, rfl, law_5 p l e s m below meth c b L xs D ci sa C0 hi hl hgo⟩
  · exact ⟨449, rfl, 482, rfl, law_6 p l e s m below meth c b L xs D ci sa C0 hi hl hgo⟩
  · exact ⟨492, rfl, 525, rfl, law_7 p l e s m below meth c b L xs D ci sa C0 hi hl hgo⟩
  · exact ⟨535, rfl, 568, rfl, law_8 p l e s m below meth c b L xs D ci sa C0 hi hl hgo⟩
  · exact ⟨578, rfl, 611, rfl, law_9 p l e s m below meth c b L xs D ci sa C0 hi hl hgo⟩
  · exact ⟨621, rfl, 654, rfl, law_10 p l e s m below meth c b L xs D ci sa C0 hi hl hgo⟩
  · exact ⟨664, rfl, 697, rfl, law_11 p l e s m below meth c b L xs D ci sa C0 hi hl hgo⟩
  · exact ⟨717, rfl, 750, rfl, law_12 p l e s m below meth c b L xs D ci sa C0 hi hl hgo⟩
  · exact ⟨770, rfl, 803, rfl, law_13 p l e s m below meth c b L xs D ci sa C0 hi hl hgo⟩
  · exact ⟨823, rfl, 856, rfl, law_14 p l e s m below meth c b L xs D ci sa C0 hi hl hgo⟩
  · exact ⟨866, rfl, 899, rfl, law_15 p l e s m below meth c b L xs D ci sa C0 hi hl hgo⟩
  · exact ⟨909, rfl, 942, rfl, law_16 p l e s m below meth c b L xs D ci sa C0 hi hl hgo⟩
  · exact ⟨952, rfl, 985, rfl, law_17 p l e s m below meth c b L xs D ci sa C0 hi hl hgo⟩
  · exact ⟨1005, rfl, 1038, rfl, law_18 p l e s m below meth c b L xs D ci sa C0 hi hl hgo⟩
  · exact ⟨1048, rfl, 1081, rfl, law_19 p l e s m below meth c b L xs D ci sa C0 hi hl hgo⟩
  · exact ⟨1091, rfl, 1124, rfl, law_20 p l e s m below meth c b L xs D ci sa C0 hi hl hgo⟩
  · exact ⟨1134, rfl, 1167, rfl, law_21 p l e s m below meth c b L xs D ci sa C0 hi hl hgo⟩
  · exact ⟨1177, rfl, 1210, rfl, law_22 p l e s m below meth c b L xs D ci sa C0 hi hl hgo⟩
  · exact ⟨1252, rfl, 1285, rfl, law_23 p l e s m below meth c b L xs D ci sa C0 hi hl hgo⟩
  · exact ⟨1327, rfl, 1360, rfl, law_24 p l e s m below meth c b L xs D ci sa C0 hi hl hgo⟩
  · exact ⟨1370, rfl, 1403, rfl, law_25 p l e s m below meth c b L xs D ci sa C0 hi hl hgo⟩
  · exact ⟨1413, rfl, 1446, rfl, law_26 p l e s m below meth c b L xs D ci sa C0 hi hl hgo⟩
  · exact ⟨1456, rfl, 1489, rfl, law_27 p l e s m below meth c b L xs D ci sa C0 hi hl hgo⟩
  · exact ⟨1519, rfl, 1552, rfl, law_28 p l e s m below meth c b L xs D ci sa C0 hi hl hgo⟩
  · exact ⟨1542, rfl, 1575, rfl, law_29 p l e s m below meth c b L xs D ci sa C0 hi hl hgo⟩
  · exact ⟨1585, rfl, 1618, rfl, law_30 p l e s m below meth c b L xs D ci sa C0 hi hl hgo⟩
  · exact ⟨1618, rfl, 1651, rfl, law_31 p l e s m below meth c b L xs D ci sa C0 hi hl hgo⟩
  · exact ⟨1651, rfl, 1684, rfl, law_32 p l e s m below meth c b L xs D ci sa C0 hi hl hgo⟩
  · exact ⟨1694, rfl, 1727, rfl, law_33 p l e s m below meth c b L xs D ci sa C0 hi hl hgo⟩
  · exact ⟨1781, rfl, 1814, rfl, law_34 p l e s m below meth c b L xs D ci sa C0 hi hl hgo⟩
  · exact ⟨1824, rfl, 1857, rfl, law_35 p l e s m below meth c b L xs D ci sa C0 hi hl hgo⟩
  · exact ⟨1857, rfl, 1890, rfl, law_36 p l e s m below meth c b L xs D ci sa C0 hi hl hgo⟩
  · exact ⟨1890, rfl, 1923, rfl, law_37 p l e s m below meth c b L xs D ci sa C0 hi hl hgo⟩
  · exact ⟨1903, rfl, 1936, rfl, law_38 p l e s m below meth c b L xs D ci sa C0 hi hl hgo⟩
  · exact ⟨1978, rfl, 2011, rfl, law_39 p l e s m below meth c b L xs D ci sa C0 hi hl hgo⟩
  · exact ⟨2021, rfl, 2054, rfl, law_40 p l e s m below meth c b L xs D ci sa C0 hi hl hgo⟩
  · exact ⟨2064, rfl, 2097, rfl, law_41 p l e s m below meth c b L xs D ci sa C0 hi hl hgo⟩
  · exact ⟨2087, rfl, 2120, rfl, law_42 p l e s m below meth c b L xs D ci sa C0 hi hl hgo⟩
  · exact ⟨2100, rfl, 2133, rfl, law_43 p l e s m below meth c b L xs D ci sa C0 hi hl hgo⟩
theorem law_loop (p : Program) (l : Launch) (e : Env) (s : State) (m : MethodId) (below : List Frame) (meth : Method) (c : Code) (b L : Nat) (xs : Nat → Int32) (D : va_G) (ci : Nat → ClassId) (sa : Nat → Nat) {a_x a_m : Nat} (C0 : lL_C p l e s m below meth c b L xs D ci sa) : ∀ n i (ls : Array Slot), i ≤ 5000 → 5000 - i < n → lv_has ls 4 [(3, .int (nI i)), (2, .ref a_m), (1, .ref a_x), (0, .ref b)] → lL_go p l e s m below meth c b L xs D ci sa a_x a_m ls 18 := by
  intro n
  induction n with
  | zero => intro i ls _ h; omega
  | succ n ih =>
    intro i ls hi hn hl
    have C1 := C0
    obtain ⟨hx, hb, hml, hown, hts, hX, hbl, hK, hZ, hret, hlocks, hL⟩ := C0
    intro WX WM t nn s0 sv kv H locs cells slots hXI hMI hP hD hS hc hs
    have hbA : ¬ (fun q : Nat => s.heap.size ≤ q) b := Nat.not_le.mpr hbl
    refine lv_iload_n (pc := 18) hx hb dL_law_18 rfl (lv_at hl 0 rfl) ?_
    refine lv_aload_n (pc := 19) hx hb dL_law_19 rfl (lv_at hl 3 rfl) ?_
    refine va_slen (pc := 20) hx hb hX hbl hbA hS dL_law_20 ?_
    refine lv_bipush (pc := 21) (v := nI 8) hx hb dL_law_21 (by decide) ?_
    refine lv_isub (pc := 23) hx hb dL_law_23 ?_
    refine lv_icmp_gt (pc := 24) (tgt := 2152) hx hb dL_law_24 rfl (fun _ => ?_) (fun hle => ?_)
    · refine lv_iconst (pc := 2152) (v := 1) hx hb dL_law_2152 (by decide) ?_
      refine va_forget (fun q h => hS.2.2 q h) ?_
      have hr := l_rm (mc := 0) (ms := 0) hXI.n.2 hc hs (Nat.zero_le _) (Nat.zero_le _)
      refine W.widen (k := 600000) (n := 7302250) hr.1 hr.2 ?_
      exact lw_ret hx hb hret hlocks dL_law_2153
    · have hi8 : i + 8 ≤ L := l_le8 hL hi hle
      refine lv_aload_n (pc := 27) hx hb dL_law_27 rfl (lv_at hl 3 rfl) ?_
      refine lv_iload_n (pc := 28) hx hb dL_law_28 rfl (lv_at hl 0 rfl) ?_
      refine va_sld (pc := 29) (i := nI i) hx hb hX hbl hbA hS (l_in0 hi8 hL) dL_law_29 ?_
      refine lv_bipush (pc := 30) (v := nI 63) hx hb dL_law_30 (by decide) ?_
      refine lv_iand (pc := 32) hx hb dL_law_32 ?_
      obtain ⟨k, hk, ek⟩ := l_and63 (xs (nI i).toNatClampNeg)
      rw [ek]
      have hend : lL_go p l e s m below meth c b L xs D ci sa a_x a_m ls 2146 := by
        intro WX WM t nn s0 sv kv H locs cells slots hXI hMI hP hD hS hc hs
        refine lv_iinc (pc := 2146) (k := 0) (v := nI (i + 8)) (lv' := [(3, .int (nI (i + 8))), (2, .ref a_m), (1, .ref a_x), (0, .ref b)]) hx hb dL_law_2146 hl rfl (by rw [show Int32.ofInt 8 = nI 8 from rfl, nI_add]) (by decide) rfl (fun ls2 hl2 => ?_)
        refine lv_goto (pc := 2149) (tgt := 18) hx hb dL_law_2149 rfl ?_
        exact ih (i + 8) ls2 (by omega) (by omega) hl2 WX WM t nn s0 sv kv H locs cells slots hXI hMI hP hD hS hc hs
      by_cases h44 : k < 44
      · obtain ⟨off, ho, tgt, ht, hgo⟩ := law_switch p l e s m below meth c b L xs D ci sa C1 hi8 hl hend k h44
        have e0 : ((nI k).toInt - 0).toNat = k := by rw [nI_toInt (by omega)]; omega
        refine lv_tableIn (pc := 33) (tgt := tgt) hx hb dL_law_33 (by rw [nI_toInt (by omega)]; omega) (by rw [nI_toInt (by omega)]; omega) (by rw [e0]; exact ho) ht ?_
        exact hgo WX WM t nn s0 sv kv H locs cells slots hXI hMI hP hD hS hc hs
      · refine lv_tableOut (pc := 33) (tgt := 2146) hx hb dL_law_33 (Or.inr (by rw [nI_toInt (by omega)]; omega)) rfl ?_
        exact hend WX WM t nn s0 sv kv H locs cells slots hXI hMI hP hD hS hc hs
end
section
/-! the law's start: classes, arrays, statics, String constants -/
section LS
variable {s : State} {b : Nat}
theorem l_arr {aa : Array Value} {ty : FieldType} (h : (Cond.arrayClass ty).before aa s = true) : ∃ cA, ArrOfT s cA ty ∧ s.vm.findClass ("[" ++ ty.toString) = some cA := by
  obtain ⟨c, k, comp, h1, h2, h3⟩ := Cond.arrayClass_spec (args := aa) h
  exact ⟨c, fun n z => ⟨fun k h => (by cases h), k, h2, comp, h3⟩, h1⟩
theorem l_arrO {aa : Array Value} {C : String} (h : (Cond.arrayOver (.object C)).before aa s = true) : ∃ cA, ArrOfT s cA (.object C) ∧ va_RA s cA (.object C) := by
  obtain ⟨comp, c, k, h1, h2, h3, h4, h5⟩ := Cond.arrayOver_spec h
  exact ⟨c, fun n z => ⟨fun k h => (by cases h), k, h3, comp, h4⟩, k, comp, h3, h4, h1, h5⟩
theorem l_mc : Cond.arrayClass .int ∈ lw_tbl ∧ Cond.arrayClass .long ∈ lw_tbl ∧ Cond.arrayClass .byte ∈ lw_tbl ∧ Cond.arrayOver (.object "SheetNames$Atlas") ∈ lw_tbl := ⟨tb_1 _ (List.mem_of_getElem? (i := 83) rfl), tb_6 _ (List.mem_of_getElem? (i := 47) rfl), tb_5 _ (List.mem_of_getElem? (i := 14) rfl), tb_1 _ (List.mem_of_getElem? (i := 150) rfl)⟩
theorem l_mi : Cond.instantiable RX0 6 ∈ lw_tbl ∧ Cond.instantiable RX1 5 ∈ lw_tbl ∧ Cond.instantiable RX2 6 ∈ lw_tbl ∧ Cond.instantiable RX3 9 ∈ lw_tbl ∧ Cond.instantiable RX4 2 ∈ lw_tbl ∧ Cond.instantiable RX5 7 ∈ lw_tbl ∧ Cond.instantiable RX6 11 ∈ lw_tbl ∧ Cond.instantiable RX7 9 ∈ lw_tbl ∧ Cond.instantiable RX8 2 ∈ lw_tbl ∧ Cond.instantiable RX9 4 ∈ lw_tbl ∧ Cond.instantiable RX10 14 ∈ lw_tbl ∧ Cond.instantiable RX11 42 ∈ lw_tbl := ⟨tb_1 _ (List.mem_of_getElem? (i := 29) rfl), tb_2 _ (List.mem_of_getElem? (i := 73) rfl), tb_1 _ (List.mem_of_getElem? (i := 35) rfl), tb_1 _ (List.mem_of_getElem? (i := 168) rfl), tb_2 _ (List.mem_of_getElem? (i := 95) rfl), tb_1 _ (List.mem_of_getElem? (i := 208) rfl), tb_2 _ (List.mem_of_getElem? (i := 1) rfl), tb_1 _ (List.mem_of_getElem? (i := 85) rfl), tb_1 _ (List.mem_of_getElem? (i := 152) rfl), tb_2 _ (List.mem_of_getElem? (i := 52) rfl), tb_1 _ (List.mem_of_getElem? (i := 21) rfl), tb_5 _ (List.mem_of_getElem? (i := 148) rfl)⟩
theorem lw_K0 (hts : ∀ w ∈ lw_tbl, w.before #[Value.ref b] s = true) : ∃ (D : va_G) (ci : Nat → ClassId), va_K D vwCl (q_tys ci) s := by
  obtain ⟨m0, m1, m2, m3, m4, m5, m6, m7, m8, m9, m10, m11⟩ := l_mi
  obtain ⟨c0, i0, h0⟩ := u_known (C := RX0) (T := TX0) (N := 6) (n := 6) hts (fun w h => (List.mem_filter.mp (inWX00 w h)).1) (hts _ m0)
  obtain ⟨c1, i1, h1⟩ := u_known (C := RX1) (T := TX1) (N := 5) (n := 5) hts (fun w h => (List.mem_filter.mp (inWX10 w h)).1) (hts _ m1)
  obtain ⟨c2, i2, h2⟩ := u_known (C := RX2) (T := TX2) (N := 6) (n := 6) hts (fun w h => (List.mem_filter.mp (inWX20 w h)).1) (hts _ m2)
  obtain ⟨c3, i3, h3⟩ := u_known (C := RX3) (T := TX3) (N := 9) (n := 9) hts (fun w h => (List.mem_filter.mp (inWX30 w h)).1) (hts _ m3)
  obtain ⟨c4, i4, h4⟩ := u_known (C := RX4) (T := TX4) (N := 2) (n := 2) hts (fun w h => (List.mem_filter.mp (inWX40 w h)).1) (hts _ m4)
  obtain ⟨c5, i5, h5⟩ := u_known (C := RX5) (T := TX5) (N := 7) (n := 7) hts (fun w h => (List.mem_filter.mp (inWX50 w h)).1) (hts _ m5)
  obtain ⟨c6, i6, h6⟩ := u_known (C := RX6) (T := TX6) (N := 11) (n := 11) hts (fun w h => (List.mem_filter.mp (inWX60 w h)).1) (hts _ m6)
  obtain ⟨c7, i7, h7⟩ := u_known (C := RX7) (T := TX7) (N := 9) (n := 9) hts (fun w h => (List.mem_filter.mp (inWX70 w h)).1) (hts _ m7)
  obtain ⟨c8, i8, h8⟩ := u_known (C := RX8) (T := TX8) (N := 2) (n := 2) hts (fun w h => (List.mem_filter.mp (inWX80 w h)).1) (hts _ m8)
  obtain ⟨c9, i9, h9⟩ := u_known (C := RX9) (T := TX9) (N := 4) (n := 4) hts (fun w h => (List.mem_filter.mp (inWX90 w h)).1) (hts _ m9)
  obtain ⟨c10, i10, h10⟩ := u_known (C := RX10) (T := TX10) (N := 14) (n := 14) hts (fun w h => (List.mem_filter.mp (inWX100 w h)).1) (hts _ m10)
  obtain ⟨c11, i11, h11⟩ := u_known (C := RX11) (T := TX11) (N := 42) (n := 42) hts (fun w h => (List.mem_filter.mp (inWX110 w h)).1) (hts _ m11)
  obtain ⟨a0, p0, q0⟩ := l_arr (hts _ l_mc.1)
  obtain ⟨a1, p1, q1⟩ := l_arr (hts _ l_mc.2.1)
  obtain ⟨a2, p2, q2⟩ := l_arr (hts _ l_mc.2.2.1)
  obtain ⟨a3, p3, q3⟩ := l_arrO (hts _ l_mc.2.2.2)
  refine ⟨(fun k => match k with
    | 0 => c0
    | 1 => c1
    | 2 => c2
    | 3 => c3
    | 4 => c4
    | 5 => c5
    | 6 => c6
    | 7 => c7
    | 8 => c8
    | 9 => c9
    | 10 => c10
    | _ => c11, fun k => match k with
    | 0 => i0
    | 1 => i1
    | 2 => i2
    | 3 => i3
    | 4 => i4
    | 5 => i5
    | 6 => i6
    | 7 => i7
    | 8 => i8
    | 9 => i9
    | 10 => i10
    | _ => i11), fun k => match k with
    | 0 => a0
    | 1 => a1
    | 2 => a2
    | _ => a3, ?_, ?_⟩
  · intro k q hq
    match k, hq with
    | 0, hq => cases hq; exact h0
    | 1, hq => cases hq; exact h1
    | 2, hq => cases hq; exact h2
    | 3, hq => cases hq; exact h3
    | 4, hq => cases hq; exact h4
    | 5, hq => cases hq; exact h5
    | 6, hq => cases hq; exact h6
    | 7, hq => cases hq; exact h7
    | 8, hq => cases hq; exact h8
    | 9, hq => cases hq; exact h9
    | 10, hq => cases hq; exact h10
    | 11, hq => cases hq; exact h11
    | k + 12, hq => simp at hq
  · intro k q hq
    match k, hq with
    | 0, hq => cases hq; exact ⟨p0, q0⟩
    | 1, hq => cases hq; exact ⟨p1, q1⟩
    | 2, hq => cases hq; exact ⟨p2, q2⟩
    | 3, hq => cases hq; exact ⟨p3, q3⟩
    | k + 4, hq => simp at hq
abbrev l_gn : Cond := Jvm.Cond.and given_1 narrow_1
set_option maxRecDepth 20000 in
theorem l_f1a : ∀ j, j < 44 → (flatC l_gn)[54 + j]? = some (Cond.eq (.elem (.static "SheetNames" "BAND_ZONES" "[I") (.int (Int32.ofNat j))) (.int (q_bZ j))) := by decide +kernel
set_option maxRecDepth 20000 in
theorem l_f1 : (Cond.arrayOf (.static "SheetNames" "BAND_ZONES" "[I") .int ∈ flatC l_gn ∧ Cond.eq (.length (.static "SheetNames" "BAND_ZONES" "[I")) (.int (Int32.ofNat 44)) ∈ flatC l_gn) ∧ (∀ j, j < 44 → Cond.eq (.elem (.static "SheetNames" "BAND_ZONES" "[I") (.int (Int32.ofNat j))) (.int (q_bZ j)) ∈ flatC l_gn) := ⟨⟨List.mem_of_getElem? (i := 52) (by decide +kernel), List.mem_of_getElem? (i := 53) (by decide +kernel)⟩, fun j hj => List.mem_of_getElem? (l_f1a j hj)⟩
set_option maxRecDepth 20000 in
theorem l_f2a : ∀ j, j < 44 → (flatC l_gn)[7 + j]? = some (Cond.eq (.elem (.static "SheetNames" "ZONES_AHEAD" "[I") (.int (Int32.ofNat j))) (.int (q_zA j))) := by decide +kernel
set_option maxRecDepth 20000 in
theorem l_f2 : (Cond.arrayOf (.static "SheetNames" "ZONES_AHEAD" "[I") .int ∈ flatC l_gn ∧ Cond.eq (.length (.static "SheetNames" "ZONES_AHEAD" "[I")) (.int (Int32.ofNat 44)) ∈ flatC l_gn) ∧ (∀ j, j < 44 → Cond.eq (.elem (.static "SheetNames" "ZONES_AHEAD" "[I") (.int (Int32.ofNat j))) (.int (q_zA j)) ∈ flatC l_gn) := ⟨⟨List.mem_of_getElem? (i := 5) (by decide +kernel), List.mem_of_getElem? (i := 6) (by decide +kernel)⟩, fun j hj => List.mem_of_getElem? (l_f2a j hj)⟩
set_option maxRecDepth 20000 in
theorem l_f3 : Cond.eq (.static "java/lang/String" "COMPACT_STRINGS" "Z") (.int 1) ∈ flatC l_gn ∧ Cond.isRef (.static "jdk/internal/util/Preconditions" "SIOOBE_FORMATTER" "Ljava/util/function/BiFunction;") ∈ flatC l_gn := ⟨List.mem_of_getElem? (i := 98) (by decide +kernel), List.mem_of_getElem? (i := 99) (by decide +kernel)⟩
abbrev l_tm (i : Nat) : Term := .string "SheetNames$Question" (q_sidx.getD i 0)
set_option maxRecDepth 20000 in
theorem l_f4a : ∀ i, i < 7 → (flatC l_gn)[([103, 112, 121, 132, 143, 156, 170] : List Nat).getD i 0]? = some (Cond.exactly (l_tm i) "java/lang/String") := by decide +kernel
set_option maxRecDepth 20000 in
theorem l_f4b : ∀ i, i < 7 → (flatC l_gn)[([104, 113, 122, 133, 144, 157, 171] : List Nat).getD i 0]? = some (Cond.eq (.field (l_tm i) "java/lang/String" "coder" "B") (.int 0)) := by decide +kernel
set_option maxRecDepth 20000 in
theorem l_f4c : ∀ i, i < 7 → (flatC l_gn)[([105, 114, 123, 134, 145, 158, 172] : List Nat).getD i 0]? = some (Cond.arrayOf (.field (l_tm i) "java/lang/String" "value" "[B") .byte) := by decide +kernel
set_option maxRecDepth 20000 in
theorem l_f4d : ∀ i, i < 7 → (flatC l_gn)[([106, 115, 124, 135, 146, 159, 173] : List Nat).getD i 0]? = some (Cond.eq (.length (.field (l_tm i) "java/lang/String" "value" "[B")) (.int (Int32.ofNat (q_slen.getD i 0)))) := by decide +kernel
set_option maxRecDepth 20000 in
theorem l_f4 : ∀ i, i < 7 → (Cond.exactly (l_tm i) "java/lang/String" ∈ flatC l_gn ∧ Cond.eq (.field (l_tm i) "java/lang/String" "coder" "B") (.int 0) ∈ flatC l_gn) ∧ Cond.arrayOf (.field (l_tm i) "java/lang/String" "value" "[B") .byte ∈ flatC l_gn ∧ Cond.eq (.length (.field (l_tm i) "java/lang/String" "value" "[B")) (.int (Int32.ofNat (q_slen.getD i 0))) ∈ flatC l_gn := fun i hi => ⟨⟨List.mem_of_getElem? (l_f4a i hi), List.mem_of_getElem? (l_f4b i hi)⟩, List.mem_of_getElem? (l_f4c i hi), List.mem_of_getElem? (l_f4d i hi)⟩
set_option maxRecDepth 20000 in
theorem l_f5a : ∀ i, i < 7 → ∀ j, j < q_slen.getD i 0 → (flatC l_gn)[([107, 116, 125, 136, 147, 160, 174] : List Nat).getD i 0 + j]? = some (Cond.eq (.elem (.field (l_tm i) "java/lang/String" "value" "[B") (.int (Int32.ofNat j))) (.int ((q_sbyt.getD i []).getD j 0))) := by decide +kernel
set_option maxRecDepth 20000 in
theorem l_f5 : ∀ i, i < 7 → ∀ j, j < q_slen.getD i 0 → Cond.eq (.elem (.field (l_tm i) "java/lang/String" "value" "[B") (.int (Int32.ofNat j))) (.int ((q_sbyt.getD i []).getD j 0)) ∈ flatC l_gn := fun i hi j hj => List.mem_of_getElem? (l_f5a i hi j hj)
set_option maxRecDepth 20000 in
theorem l_f6a : ∀ i, i < 7 → ∀ j, j < 7 → i < j → (flatC l_gn)[(([[0, 120, 130, 140, 152, 165, 181], [0, 0, 131, 141, 153, 166, 182], [0, 0, 0, 142, 154, 167, 183], [0, 0, 0, 0, 155, 168, 184], [0, 0, 0, 0, 0, 169, 185], [0, 0, 0, 0, 0, 0, 186], [0, 0, 0, 0, 0, 0, 0]] : List (List Nat)).getD i []).getD j 0]? = some (Cond.not (Cond.eq (l_tm i) (l_tm j))) := by decide +kernel
set_option maxRecDepth 20000 in
theorem l_f6 : ∀ i, i < 7 → ∀ j, j < 7 → i ≠ j → Cond.not (Cond.eq (l_tm i) (l_tm j)) ∈ flatC l_gn ∨ Cond.not (Cond.eq (l_tm j) (l_tm i)) ∈ flatC l_gn := fun i hi j hj ne => (Nat.lt_or_gt_of_ne ne).elim (fun h => Or.inl (List.mem_of_getElem? (l_f6a i hi j hj h))) (fun h => Or.inr (List.mem_of_getElem? (l_f6a j hj i hi h)))
theorem l_t1 : (Cond.laysStatic "SheetNames" "BAND_ZONES" "[I" ∈ lw_tbl ∧ Cond.laysStatic "SheetNames" "ZONES_AHEAD" "[I" ∈ lw_tbl ∧ Cond.laysStatic "java/lang/String" "COMPACT_STRINGS" "Z" ∈ lw_tbl ∧ Cond.laysStatic "jdk/internal/util/Preconditions" "SIOOBE_FORMATTER" "Ljava/util/function/BiFunction;" ∈ lw_tbl) ∧ Cond.initialized "SheetNames" ∈ lw_tbl ∧ Cond.initialized "java/lang/String" ∈ lw_tbl ∧ Cond.initialized "jdk/internal/util/Preconditions" ∈ lw_tbl := ⟨⟨tb_2 _ (List.mem_of_getElem? (i := 216) rfl), tb_2 _ (List.mem_of_getElem? (i := 214) rfl), tb_4 _ (List.mem_of_getElem? (i := 196) rfl), tb_4 _ (List.mem_of_getElem? (i := 212) rfl)⟩, tb_1 _ (List.mem_of_getElem? (i := 1) rfl), tb_1 _ (List.mem_of_getElem? (i := 15) rfl), tb_1 _ (List.mem_of_getElem? (i := 17) rfl)⟩
theorem l_t2 : ∀ i, i < 7 → Cond.stringRef "SheetNames$Question" (q_sidx.getD i 0) (q_stx.getD i "") ∈ lw_tbl := by decide +kernel
theorem l_t3 : ∀ q ∈ q_nf, Cond.fieldLinkNest q.1 q.2.1 q.2.2.1 q.2.2.2.1 q.2.2.2.2.1 q.2.2.2.2.2 ∈ lw_tbl := List.forall_mem_cons.mpr ⟨tb_1 _ (List.mem_of_getElem? (i := 99) rfl), List.forall_mem_cons.mpr ⟨tb_1 _ (List.mem_of_getElem? (i := 68) rfl), List.forall_mem_cons.mpr ⟨tb_1 _ (List.mem_of_getElem? (i := 62) rfl), List.forall_mem_cons.mpr ⟨tb_1 _ (List.mem_of_getElem? (i := 45) rfl), List.forall_mem_cons.mpr ⟨tb_1 _ (List.mem_of_getElem? (i := 51) rfl), List.forall_mem_cons.mpr ⟨tb_1 _ (List.mem_of_getElem? (i := 56) rfl), List.forall_mem_cons.mpr ⟨tb_1 _ (List.mem_of_getElem? (i := 60) rfl), List.forall_mem_cons.mpr ⟨tb_1 _ (List.mem_of_getElem? (i := 126) rfl), List.forall_mem_cons.mpr ⟨tb_2 _ (List.mem_of_getElem? (i := 103) rfl), List.forall_mem_cons.mpr ⟨tb_2 _ (List.mem_of_getElem? (i := 101) rfl), List.forall_mem_cons.mpr ⟨tb_1 _ (List.mem_of_getElem? (i := 179) rfl), List.forall_mem_cons.mpr ⟨tb_1 _ (List.mem_of_getElem? (i := 182) rfl), List.forall_mem_cons.mpr ⟨tb_1 _ (List.mem_of_getElem? (i := 128) rfl), List.forall_mem_cons.mpr ⟨tb_2 _ (List.mem_of_getElem? (i := 20) rfl), List.forall_mem_cons.mpr ⟨tb_2 _ (List.mem_of_getElem? (i := 23) rfl), List.forall_mem_cons.mpr ⟨tb_2 _ (List.mem_of_getElem? (i := 25) rfl), List.forall_mem_cons.mpr ⟨tb_2 _ (List.mem_of_getElem? (i := 11) rfl), List.forall_mem_cons.mpr ⟨tb_2 _ (List.mem_of_getElem? (i := 9) rfl), List.forall_mem_cons.mpr ⟨tb_2 _ (List.mem_of_getElem? (i := 15) rfl), List.forall_mem_cons.mpr ⟨tb_2 _ (List.mem_of_getElem? (i := 13) rfl), List.forall_mem_cons.mpr ⟨tb_1 _ (List.mem_of_getElem? (i := 216) rfl), List.forall_mem_cons.mpr ⟨tb_1 _ (List.mem_of_getElem? (i := 218) rfl), List.forall_mem_cons.mpr ⟨tb_1 _ (List.mem_of_getElem? (i := 220) rfl), List.forall_mem_cons.mpr ⟨tb_1 _ (List.mem_of_getElem? (i := 222) rfl), List.forall_mem_cons.mpr ⟨tb_1 _ (List.mem_of_getElem? (i := 224) rfl), List.forall_mem_cons.mpr ⟨tb_1 _ (List.mem_of_getElem? (i := 96) rfl), List.forall_mem_cons.mpr ⟨tb_1 _ (List.mem_of_getElem? (i := 92) rfl), List.forall_mem_cons.mpr ⟨tb_1 _ (List.mem_of_getElem? (i := 94) rfl), List.forall_mem_cons.mpr ⟨tb_1 _ (List.mem_of_getElem? (i := 101) rfl), List.forall_mem_cons.mpr ⟨tb_1 _ (List.mem_of_getElem? (i := 103) rfl), List.forall_mem_cons.mpr ⟨tb_1 _ (List.mem_of_getElem? (i := 105) rfl), List.forall_mem_cons.mpr ⟨tb_1 _ (List.mem_of_getElem? (i := 130) rfl), List.forall_mem_cons.mpr ⟨tb_1 _ (List.mem_of_getElem? (i := 132) rfl), List.forall_mem_cons.mpr ⟨tb_1 _ (List.mem_of_getElem? (i := 134) rfl), List.forall_mem_cons.mpr ⟨tb_1 _ (List.mem_of_getElem? (i := 136) rfl), List.forall_mem_cons.mpr ⟨tb_1 _ (List.mem_of_getElem? (i := 160) rfl), List.forall_mem_cons.mpr ⟨tb_1 _ (List.mem_of_getElem? (i := 187) rfl), List.forall_mem_cons.mpr ⟨tb_1 _ (List.mem_of_getElem? (i := 184) rfl), List.forall_mem_cons.mpr ⟨tb_1 _ (List.mem_of_getElem? (i := 57) rfl), List.forall_mem_cons.mpr ⟨tb_1 _ (List.mem_of_getElem? (i := 63) rfl), List.forall_mem_cons.mpr ⟨tb_1 _ (List.mem_of_getElem? (i := 48) rfl), List.forall_mem_cons.mpr ⟨tb_1 _ (List.mem_of_getElem? (i := 53) rfl), List.forall_mem_cons.mpr ⟨tb_2 _ (List.mem_of_getElem? (i := 215) rfl), List.forall_mem_cons.mpr ⟨tb_2 _ (List.mem_of_getElem? (i := 213) rfl), List.forall_mem_cons.mpr ⟨tb_1 _ (List.mem_of_getElem? (i := 67) rfl), List.forall_mem_cons.mpr ⟨tb_3 _ (List.mem_of_getElem? (i := 68) rfl), List.forall_mem_cons.mpr ⟨tb_1 _ (List.mem_of_getElem? (i := 50) rfl), List.forall_mem_cons.mpr ⟨tb_1 _ (List.mem_of_getElem? (i := 46) rfl), List.forall_mem_cons.mpr ⟨tb_1 _ (List.mem_of_getElem? (i := 161) rfl), List.forall_mem_cons.mpr ⟨tb_1 _ (List.mem_of_getElem? (i := 158) rfl), List.forall_mem_cons.mpr ⟨tb_2 _ (List.mem_of_getElem? (i := 27) rfl), List.forall_mem_cons.mpr ⟨tb_2 _ (List.mem_of_getElem? (i := 19) rfl), List.forall_mem_cons.mpr ⟨tb_2 _ (List.mem_of_getElem? (i := 17) rfl), List.forall_mem_cons.mpr ⟨tb_1 _ (List.mem_of_getElem? (i := 178) rfl), List.forall_mem_cons.mpr ⟨tb_1 _ (List.mem_of_getElem? (i := 181) rfl), List.forall_mem_cons.mpr ⟨tb_1 _ (List.mem_of_getElem? (i := 69) rfl), List.forall_mem_cons.mpr ⟨tb_1 _ (List.mem_of_getElem? (i := 64) rfl), List.forall_mem_cons.mpr ⟨tb_1 _ (List.mem_of_getElem? (i := 55) rfl), List.forall_mem_cons.mpr ⟨tb_1 _ (List.mem_of_getElem? (i := 59) rfl), List.forall_mem_cons.mpr ⟨tb_1 _ (List.mem_of_getElem? (i := 47) rfl), List.forall_mem_cons.mpr ⟨tb_1 _ (List.mem_of_getElem? (i := 52) rfl), List.forall_mem_cons.mpr ⟨tb_2 _ (List.mem_of_getElem? (i := 7) rfl), List.forall_mem_cons.mpr ⟨tb_1 _ (List.mem_of_getElem? (i := 66) rfl), fun _ h => absurd h List.not_mem_nil⟩⟩⟩⟩⟩⟩⟩⟩⟩⟩⟩⟩⟩⟩⟩⟩⟩⟩⟩⟩⟩⟩⟩⟩⟩⟩⟩⟩⟩⟩⟩⟩⟩⟩⟩⟩⟩⟩⟩⟩⟩⟩⟩⟩⟩⟩⟩⟩⟩⟩⟩⟩⟩⟩⟩⟩⟩⟩⟩⟩⟩⟩⟩
theorem l_t4 : ∀ q ∈ q_nml, Cond.methodLinkNest q.1 q.2.1 q.2.2.1 q.2.2.2 ∈ lw_tbl := List.forall_mem_cons.mpr ⟨tb_1 _ (List.mem_of_getElem? (i := 153) rfl), List.forall_mem_cons.mpr ⟨tb_2 _ (List.mem_of_getElem? (i := 96) rfl), List.forall_mem_cons.mpr ⟨tb_1 _ (List.mem_of_getElem? (i := 30) rfl), List.forall_mem_cons.mpr ⟨tb_2 _ (List.mem_of_getElem? (i := 234) rfl), fun _ h => absurd h List.not_mem_nil⟩⟩⟩⟩
theorem l_slen : ∀ i, i < 7 → q_slen.getD i 0 < 2 ^ 31 := by decide +kernel
theorem lw_Z0 (hts : ∀ w ∈ lw_tbl, w.before #[Value.ref b] s = true) (hg : l_gn.before #[Value.ref b] s = true) : ∃ sa : Nat → Nat, q_Z (fun q : Nat => s.heap.size ≤ q) sa s := by
  have hs := flat_of_before _ hg
  have hA : ∀ a : Nat, a < s.heap.size → ¬ (fun q : Nat => s.heap.size ≤ q) a := fun a h => Nat.not_le.mpr h
  obtain ⟨⟨y1, y2, y3, y4⟩, z1, z2, z3⟩ := l_t1
  obtain ⟨t0, e0, T0⟩ := va_Tof (tm := .static "SheetNames" "BAND_ZONES" "[I") (ty := .int) (N := 44) (f := fun j => .int (q_bZ j)) (by decide) (hs _ l_f1.1.1) (va_eqt (hs _ l_f1.1.2)) (fun j hj => va_eqt (hs _ (l_f1.2 j hj))) hA
  obtain ⟨t1, e1, T1⟩ := va_Tof (tm := .static "SheetNames" "ZONES_AHEAD" "[I") (ty := .int) (N := 44) (f := fun j => .int (q_zA j)) (by decide) (hs _ l_f2.1.1) (va_eqt (hs _ l_f2.1.2)) (fun j hj => va_eqt (hs _ (l_f2.2 j hj))) hA
  obtain ⟨adK, adV, hSt, hEv⟩ := vk_Sof (N := 7) (tm := l_tm) (len := q_slen) (byt := q_sbyt) l_slen (fun i hi => hs _ (l_f4 i hi).1.1) (fun i hi => hs _ (l_f4 i hi).1.2) (fun i hi => hs _ (l_f4 i hi).2.1) (fun i hi => hs _ (l_f4 i hi).2.2) (fun i hi j hj => hs _ (l_f5 i hi j hj)) (fun i j hi hj hij => (l_f6 i hi j hj hij).imp (hs _) (hs _)) hA
  have hfo : ∃ so : Nat, va_Z "jdk/internal/util/Preconditions" "SIOOBE_FORMATTER" "Ljava/util/function/BiFunction;" (va_rf (if so = 0 then none else some (so - 1))) (fun q : Nat => s.heap.size ≤ q) s s.heap := by
    rcases va_Zqof (hts _ y4) (hts _ z3) (hs _ l_f3.2) hA with h | ⟨t, h⟩
    · exact ⟨0, h⟩
    · exact ⟨t + 1, by rw [if_neg (by omega), Nat.add_sub_cancel]; exact h⟩
  obtain ⟨so, hso⟩ := hfo
  refine ⟨fun i => if i = 0 then t0 else if i = 1 then t1 else if i < 9 then adK (i - 2) else if i < 16 then adV (i - 9) else so, va_Zof (hts _ y1) (hts _ z1) e0 hA, T0, va_Zof (hts _ y2) (hts _ z1) e1 hA, T1, va_Zof (hts _ y3) (hts _ z2) (va_eqt (hs _ l_f3.1)) hA, ?_, ?_, hso, va_AO.of (hts _ l_mc.2.2.2), fun q hq => va_Nw.of rfl (hts _ (l_t3 q hq)), fun q hq => va_Nw.of rfl (hts _ (l_t4 q hq))⟩
  · have eK : ∀ i, i < 7 → (fun i : Nat => if 2 + i = 0 then t0 else if 2 + i = 1 then t1 else if 2 + i < 9 then adK (2 + i - 2) else if 2 + i < 16 then adV (2 + i - 9) else so) i = adK i := by
      intro i hi
      dsimp only
      rw [if_neg (by omega), if_neg (by omega), if_pos (by omega), Nat.add_sub_cancel_left]
    have eV : ∀ i, i < 7 → (fun i : Nat => if 9 + i = 0 then t0 else if 9 + i = 1 then t1 else if 9 + i < 9 then adK (9 + i - 2) else if 9 + i < 16 then adV (9 + i - 9) else so) i = adV i := by
      intro i hi
      dsimp only
      rw [if_neg (by omega), if_neg (by omega), if_neg (by omega), if_pos (by omega), Nat.add_sub_cancel_left]
    refine ⟨fun i hi => ?_, fun i j hi hj e => hSt.2 i j hi hj ?_⟩
    · have h := hSt.1 i hi
      rw [← eK i hi, ← eV i hi] at h
      exact h
    · rw [← eK i hi, ← eK j hj]
      exact e
  · intro i hi
    have h2 : (if 2 + i = 0 then t0 else if 2 + i = 1 then t1 else if 2 + i < 9 then adK (2 + i - 2) else if 2 + i < 16 then adV (2 + i - 9) else so) = adK i := by
      rw [if_neg (by omega), if_neg (by omega), if_pos (by omega), Nat.add_sub_cancel_left]
    have h := vk_R.of (hts _ (l_t2 i hi)) (hEv i hi)
    rw [← h2] at h
    exact h
end LS
end
section
/-! the law's start -/
theorem l_m0 : (Cond.classLink RL 7 RX10 ∈ lw_tbl ∧ Cond.initialized RX10 ∈ lw_tbl ∧ Cond.methodLink RL 9 yX10_init ∈ lw_tbl ∧ Cond.instanceMethod yX10_init ∈ lw_tbl) ∧ Cond.classLink RL 10 RX11 ∈ lw_tbl ∧ Cond.initialized RX11 ∈ lw_tbl ∧ Cond.methodLink RL 12 yX11_init ∈ lw_tbl ∧ Cond.instanceMethod yX11_init ∈ lw_tbl := ⟨⟨tb_1 _ (List.mem_of_getElem? (i := 20) rfl), tb_1 _ (List.mem_of_getElem? (i := 1) rfl), tb_1 _ (List.mem_of_getElem? (i := 22) rfl), tb_1 _ (List.mem_of_getElem? (i := 23) rfl)⟩, tb_5 _ (List.mem_of_getElem? (i := 147) rfl), tb_1 _ (List.mem_of_getElem? (i := 12) rfl), tb_5 _ (List.mem_of_getElem? (i := 149) rfl), tb_5 _ (List.mem_of_getElem? (i := 150) rfl)⟩
theorem l_nulX : ∀ j, j < 14 → defaultValue (tyX10 j) = vp_V [.null, .null, .null, .null, .int 0, .null, .null, .null, .null, .null, .null, .null, .null, .null] j := by
  intro j hj
  rcases (show j = 0 ∨ j = 1 ∨ j = 2 ∨ j = 3 ∨ j = 4 ∨ j = 5 ∨ j = 6 ∨ j = 7 ∨ j = 8 ∨ j = 9 ∨ j = 10 ∨ j = 11 ∨ j = 12 ∨ j = 13 by omega) with rfl | rfl | rfl | rfl | rfl | rfl | rfl | rfl | rfl | rfl | rfl | rfl | rfl | rfl <;> rfl
abbrev l_nulM : List Value := [.null, .null, .null, .null, .null, .null, .null, .null, .int 0, .int 0, .int 0, .int 0, .int 0, .int 0, .int 0, .int 0, .int 0, .int 0, .long 0, .long 0, .null, .int 0, .int 0, .null, .null, .int 0, .int 0, .int 0, .int 0, .int 0, .int 0, .int 0, .int 0, .int 0, .null, .null, .null, .int 0, .null, .null, .int 0, .null]
theorem l_nulM2 : ∀ j, j < 42 → defaultValue (tyX11 j) = vp_V l_nulM j := by
  intro j hj
  rcases (show j = 0 ∨ j = 1 ∨ j = 2 ∨ j = 3 ∨ j = 4 ∨ j = 5 ∨ j = 6 ∨ j = 7 ∨ j = 8 ∨ j = 9 ∨ j = 10 ∨ j = 11 ∨ j = 12 ∨ j = 13 ∨ j = 14 ∨ j = 15 ∨ j = 16 ∨ j = 17 ∨ j = 18 ∨ j = 19 ∨ j = 20 ∨ j = 21 ∨ j = 22 ∨ j = 23 ∨ j = 24 ∨ j = 25 ∨ j = 26 ∨ j = 27 ∨ j = 28 ∨ j = 29 ∨ j = 30 ∨ j = 31 ∨ j = 32 ∨ j = 33 ∨ j = 34 ∨ j = 35 ∨ j = 36 ∨ j = 37 ∨ j = 38 ∨ j = 39 ∨ j = 40 ∨ j = 41 by omega) with rfl | rfl | rfl | rfl | rfl | rfl | rfl | rfl | rfl | rfl | rfl | rfl | rfl | rfl | rfl | rfl | rfl | rfl | rfl | rfl | rfl | rfl | rfl | rfl | rfl | rfl | rfl | rfl | rfl | rfl | rfl | rfl | rfl | rfl | rfl | rfl | rfl | rfl | rfl | rfl | rfl | rfl <;> rfl
theorem whole_start {p : Program} {e : Env} {s : State} {m : MethodId} {below : List Frame} {meth : Method} {c : Code} (l : Launch) (hflags : l.flags = flags0) {b L : Nat} {xs : Nat → Int32} (hL : L ≤ 4096) (C0 : lw_At p s m meth c b L xs) : W p l e room_1 s m #[Value.ref b] below meth c s.heap [] 0 0 (lw_Z below #[Value.ref b] s) (entryFrame m ([Value.ref b] : List Value).toArray 4) := by
  obtain ⟨hx, hb, hr, hml, hown, hts, hX, hbl, hlocks, hgv⟩ := id C0
  obtain ⟨D, ci, hK⟩ := lw_K0 hts
  obtain ⟨sa, hZ⟩ := lw_Z0 hts hgv
  obtain ⟨⟨n1, n2, n3, n4⟩, n5, n6, n7, n8⟩ := l_m0
  obtain ⟨-, -, -, -, -, -, -, -, -, -, i10, i11⟩ := l_mi
  have htsL := wsL_law_at hts
  have hown : s.vm.findClass RL = some m.cls := hown
  have hA : ∀ q : Nat, s.heap.size ≤ q → (fun q : Nat => s.heap.size ≤ q) q := fun _ h => h
  have hS : va_S (fun q : Nat => s.heap.size ≤ q) s.heap s.heap [] := va_S.rf
  have hP : va_P D vwCl [] s.heap := fun k q h => by simp at h
  have hD : va_D (fun q : Nat => s.heap.size ≤ q) [] := ⟨fun i j p q h => by simp at h, fun k q h => by simp at h⟩
  have hl := lv_entry ([.ref b]) (n := 4) (Nat.le_of_ble_eq_true rfl)
  rw [lg_entry_eq]
  generalize (lg_sl ([.ref b]) ++ List.replicate (4 - (lg_sl ([.ref b])).length) Slot.unset).toArray = ls at hl ⊢
  have hl : lv_has ls 4 [(0, .ref b)] := hl
  refine va_new (ci := 10) (fs := [.null, .null, .null, .null, .int 0, .null, .null, .null, .null, .null, .null, .null, .null, .null]) (C := RX10) (T := TX10) (N := 14) hx hb hts (fun w h => (List.mem_filter.mp (inWX100 w h)).1) tyX10 tyX10_ok hown (hts _ n1) (hts _ i10) (hts _ n2) hK hP hD hS hA rfl l_nulX (Nat.le_of_ble_eq_true rfl) (Nat.le_of_ble_eq_true rfl) dL_law_0 (fun q1 H hP hD hS => ?_)
  have hP : va_P D vwCl ((q1, .inr (10, [.null, .null, .null, .null, .int 0, .null, .null, .null, .null, .null, .null, .null, .null, .null])) :: []) H := hP
  have hD : va_D (fun q : Nat => s.heap.size ≤ q) ((q1, .inr (10, [.null, .null, .null, .null, .int 0, .null, .null, .null, .null, .null, .null, .null, .null, .null])) :: []) := hD
  refine lv_dup (pc := 3) hx hb dL_law_3 rfl ?_
  refine q_call (pc := 4) (va_runI (As := []) (rest := [.ref q1]) ⟨hx, hb, hml, hown, htsL⟩ (l_X_init l D ci (fun q : Nat => s.heap.size ≤ q) sa [] q1) (cwI 0 htsL gL_law_X10_init rfl rfl rfl (hts _ n2) (hts _ n3) (hts _ n4) rfl (by decide +kernel) ⟨Nat.le_of_ble_eq_true rfl, Nat.le_of_ble_eq_true rfl⟩) (q_preS (As := [.ref q1]) (n1 := 0) (is1 := []) hK hA hZ hP hD hS rfl ⟨rfl, rfl, rfl⟩) rfl rfl hl.1 rfl (lv_room (Nat.le_of_ble_eq_true rfl)) dL_law_4 ⟨Nat.le_of_ble_eq_true rfl, Nat.le_of_ble_eq_true rfl⟩) hS (fun t2 locs _ hB hS => ?_)
  obtain ⟨WX, hXI, hP, hD⟩ := hB
  refine lv_astore_n (pc := 7) (lv' := [(1, .ref q1), (0, .ref b)]) hx hb dL_law_7 rfl hl (by decide) rfl (fun ls hl => ?_)
  refine va_new (pc := 8) (ci := 11) (fs := l_nulM) (C := RX11) (T := TX11) (N := 42) hx hb hts (fun w h => (List.mem_filter.mp (inWX110 w h)).1) tyX11 tyX11_ok hown (hts _ n5) (hts _ i11) (hts _ n6) hK hP hD hS hA rfl l_nulM2 (Nat.le_of_ble_eq_true rfl) (Nat.le_of_ble_eq_true rfl) dL_law_8 (fun q2 H hP hD hS => ?_)
  have hP : va_P D vwCl ((q2, .inr (11, l_nulM)) :: (WX ++ [])) H := l_swP hP
  have hD : va_D (fun q : Nat => s.heap.size ≤ q) ((q2, .inr (11, l_nulM)) :: (WX ++ [])) := l_swD hD
  refine lv_dup (pc := 11) hx hb dL_law_11 rfl ?_
  refine q_call (pc := 12) (va_runI (As := []) (rest := [.ref q2]) ⟨hx, hb, hml, hown, htsL⟩ (l_M_init l D ci (fun q : Nat => s.heap.size ≤ q) sa (WX ++ []) q2) (cwI 0 htsL gL_law_X11_init rfl rfl rfl (hts _ n6) (hts _ n7) (hts _ n8) rfl (by decide +kernel) ⟨Nat.le_of_ble_eq_true rfl, Nat.le_of_ble_eq_true rfl⟩) (q_preS (As := [.ref q2]) (n1 := 0) (is1 := []) hK hA hZ hP hD hS rfl ⟨rfl, rfl, rfl⟩) rfl rfl hl.1 rfl (lv_room (Nat.le_of_ble_eq_true rfl)) dL_law_12 ⟨Nat.le_of_ble_eq_true rfl, Nat.le_of_ble_eq_true rfl⟩) hS (fun t3 locs _ hB hS => ?_)
  obtain ⟨WM, hMI, hP, hD⟩ := hB
  rw [List.append_nil] at hP hD
  refine lv_astore_n (pc := 15) (lv' := [(2, .ref q2), (1, .ref q1), (0, .ref b)]) hx hb dL_law_15 rfl hl (by decide) rfl (fun ls hl => ?_)
  refine lv_iconst (pc := 16) (v := nI 0) hx hb dL_law_16 (by decide) ?_
  refine lv_istore_n (pc := 17) (lv' := [(3, .int (nI 0)), (2, .ref q2), (1, .ref q1), (0, .ref b)]) hx hb dL_law_17 rfl hl (by decide) rfl (fun ls hl => ?_)
  exact law_loop p l e s m below meth c b L xs D ci sa ⟨hx, hb, hml, hown, htsL, hX, hbl, hK, hZ, hr, hlocks, hL⟩ 6000 0 ls (by omega) (by omega) hl WX WM 0 0 0 _ _ _ _ _ _ hXI hMI (l_swP hP) (l_swD hD) hS (Nat.le_of_ble_eq_true rfl) (Nat.le_of_ble_eq_true rfl)
end
section
set_option maxHeartbeats 4000000 in
theorem lw_walk (l : Launch) (hflags : l.flags = flags0) (b : Addr) (xs : List Int32) : MetFree l x (headSpec (Jvm.Cond.code x code maxLocals ret :: tables_1) room_1) (lw_P b xs) (fun _ _ _ _ _ => True) lw_Q := by
  refine MetFree.of_bodyS (code := code) (maxLocals := maxLocals) (ret := ret) (by decide) ?_ ?_
  · intro args s m h hn
    obtain ⟨meth, c, h1, h2, h3, h4, h5, h6, -, -⟩ := Cond.code_spec hn (atoms_spec (ws := Jvm.Cond.code x code maxLocals ret :: tables_1) h _ List.mem_cons_self)
    exact ⟨meth, c, h1, h2, h3, h4, h5, h6⟩
  · intro p e s m args below meth c s₁ B hml0 hP _
    obtain ⟨rfl, hx, hbd, hgv⟩ := hP
    obtain ⟨scr, harrAt, hlist, hof, hsmall⟩ := hx
    obtain ⟨hcb, hkn, -, -⟩ := State.arrayAt?_spec harrAt
    have hown : s.vm.findClass R_law = some m.cls := findClass_of_methodNamed B.named
    have hts0 : ∀ c ∈ (Jvm.Cond.code x code maxLocals ret :: tables_1), c.before #[Value.ref b] s = true := atoms_spec (ws := Jvm.Cond.code x code maxLocals ret :: tables_1) B.pre
    have hts : ∀ w ∈ lw_tbl, w.before #[Value.ref b] s = true := k2_hts_sels lw_privs (fun w hw => hts0 w (List.mem_cons_of_mem _ hw)) lw_privs_ok
    have hml : c.maxLocals = 4 := B.maxLocals_eq (hts0 _ List.mem_cons_self)
    have X₀ : Stand p l e room_1 s m #[Value.ref b] below meth c s₁ [] 0 0 := Stand.of_body B
    have hh0 : s₁.heap = s.heap := by rw [B.state]; rfl
    have hsz : scr.slots.size = xs.length := by rw [← Array.length_toList, hlist, List.length_map]
    have hval : ∀ j : Nat, j < xs.length → scr.slots[j]? = some (.int (xs.getD j 0)) := fun j hj => by
      rw [← Array.getElem?_toList, hlist]
      simp [hj]
    have hbl : b < s.heap.size := (Array.getElem?_eq_some_iff.mp hcb).1
    have hX : va_X b xs.length (fun j => xs.getD j 0) s s.heap := ⟨scr, hcb, hof, hkn, hsz, hval⟩
    have K : W p l e room_1 s m #[Value.ref b] below meth c s₁.heap [] 0 0 (lw_Z below #[Value.ref b] s) (entryFrame m ([Value.ref b] : List Value).toArray 4) := by
      rw [hh0]
      exact whole_start l hflags hbd ⟨B.exec, B.bytes, B.returns, hml, hown, hts, hX, hbl, B.notSynchronized, hgv⟩
    obtain ⟨t, a1, o, b1, b2, b3⟩ := K s₁ rfl X₀
    exact ⟨t, o, a1, b1, b2, b3⟩
theorem lw_pre_spec {args : Array Value} {s : State} (h : (Jvm.Cond.and given_1 narrow_1).before args s = true) (hr : rest_1_c.before args s = true) : ∃ (b : Addr) (xs : List Int32), lw_P b xs args s := by
  have hs := flat_of_before _ h
  have hq := flat_of_before _ hr
  have hc : (Cond.count 1).before args s = true := hs _ (by decide +kernel)
  have harr : (Cond.arrayOf (.arg 0) .int).before args s = true := hs _ (by decide +kernel)
  have hle : (Cond.le (.length (.arg 0)) (.int 4096)).before args s = true := hs _ (by decide +kernel)
  have hlen : (Cond.isInt (.length (.arg 0))).before args s = true := hq _ (by decide +kernel)
  have hall : (Cond.all (.arg 0) (.isInt (.elem (.arg 0) (.index 0)))).before args s = true := hq _ (by decide +kernel)
  obtain ⟨b, xs, hb, hx⟩ := State.ints_of_pre rfl harr hlen hall
  have hsm : xs.length < 2 ^ 31 := hx.choose_spec.2.2.2
  have hev : (Term.length (.arg 0)).eval args s none [] s = some (.int xs.length.toInt32) := hx.length_eval hb
  have hv := Cond.le_ints hev (show (Term.int 4096).eval args s none [] s = some (.int 4096) from rfl)
  have hd : xs.length.toInt32 ≤ 4096 := by
    simpa [Cond.before, Cond.holds, hv] using hle
  have hN : xs.length ≤ 4096 := (Int32.ofNat_le_ofNat hsm (by decide)).mp (show Int32.ofNat xs.length ≤ Int32.ofNat 4096 from hd)
  exact ⟨b, xs, Cond.one_arg hc (show args[0]? = some (.ref b) from hb), hx, hN, h⟩
theorem lw_comes (l : Launch) (hflags : l.flags = flags0) : Comes l x (Jvm.Cond.code x code maxLocals ret :: tables_1) room_1 (fun tb e args s => Calls_1 tb e args s ∧ rest_1 tb e args s ∧ Pre_1 tb e args s)
    (fun _ _ args s o t => lw_Q args s o t) := by
  intro p e ha hc hk s m args below hf hfit hheap happ hpre
  obtain ⟨b, xs, hP⟩ := lw_pre_spec hpre.2.2 hpre.2.1
  obtain ⟨k, o, h1, h2, h3, hQ⟩ := lw_walk l hflags b xs p e ha hc hk s m args below hf ((Spec.applies_iff_loose hf).mp happ).1 hP trivial
  exact ⟨k, o, h1, h2, h3, hQ⟩
theorem lw_frame {s t : State} {o : Outcome} {args : Array Value} (h : Framed s o t [] 600000 7302250) :
    Framed s o t (fieldLocs frame_1_writes args s ++ arrayLocs frame_1_arrays args s ++ staticLocs frame_1_statics s) 600000 7302250 := h
theorem lw_limb (L : Cond) (hL : ∀ (args : Array Value) (s t : State), L.after args s (.returned (some (.int 1))) t = true) :
    ArmFor flags0 classFile x code maxLocals ret World_1 tables_1 room_1 Calls_1 rest_1 Pre_1
      (fun tb e a s o t => postC L tb e a s o t ∧ Framed s o t (fieldLocs frame_1_writes a s ++ arrayLocs frame_1_arrays a s ++ staticLocs frame_1_statics s) 600000 7302250) := by
  intro l hflags _ _ p e ha hc hk s m args below hf hfit hheap happ hpre
  obtain ⟨k, o, h1, h2, h3, rfl, hF⟩ := lw_comes l hflags p e ha hc hk s m args below hf hfit hheap happ hpre
  exact ⟨k, _, h1, h2, h3, hL args s _, lw_frame hF⟩
theorem i_vc : Claimed_1_1 ∧ Claimed_1_2 := ⟨lw_limb limb_1_1 (fun args s t => by simp [limb_1_1, Cond.after, Cond.holds, Cond.value]), lw_limb limb_1_2 (fun args s t => Cond.after_iff.mpr (by
  first | (rw [show limb_1_2 = Cond.eq .result (.int 1) from rfl, Cond.eq_ints (x := 1) (y := 1) rfl rfl]; simp; done) | (simp [limb_1_2, Cond.value, Term.eval]; done)))⟩
end
