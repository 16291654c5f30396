/-! the law's script, and its 37 cases -/
def y_K (g : t_G) (b L : Nat) (xs : Nat → Int32) : Prop := ∀ (U : State) (H : Heap), g.2.2.2.2 U H → va_X b L xs U H
abbrev lol (b xo mo i : Nat) : List (Option Value) := [some (.ref b), some (.ref xo), some (.ref mo), some (.int (nI i))]
section LAW
variable {g : t_G} {q : t_MI} {d pc b L i xo mo n0 u0 K : Nat} {xs : Nat → Int32} {lo : List (Option Value)} {st stk : List Value} {n u : Nat} {E : t_M} {Q : t_Q} {adK adV : Nat → Nat} {fo : Value}
theorem y_at {p : Program} {R : Room} {s : State} {m : MethodId} {args : Array Value} {meth : Method} {c : Code} {H : Heap} (hY : y_K g b L xs) (C : t_C g q d p R s m args meth c) (hlow : t_low (t_z g) s.heap H) : va_X b L xs s H := by
  have h := (C.2.2.2.2.2.2.2.2.2.2.kept hlow).2.2.2.2.2
  exact hY _ _ h
theorem T_slen (hY : y_K g b L xs) (hd : decode q.2.1 pc = .ok (.arraylength, 1)) (h : tT g q d (pc + 1) lo (.int (nI L) :: st) n u E Q) : tT g q d pc lo (.ref b :: st) n u E Q :=
  T_pure (fun p e R s m args below meth c H locs ls cells slots Qs C hR hlow hL kk => by
    obtain ⟨cell, h1, h2, h3, h4, h5⟩ := y_at hY C hlow
    exact W.alen (n := nI L) C.1 C.2.1 h1 h2 (by rw [h4]; rfl) rfl rfl hd kk) h
theorem T_sld {j : Nat} (hY : y_K g b L xs) (hj : j < L) (hL9 : L ≤ 3072) (hd : decode q.2.1 pc = .ok (.iaload, 1)) (h : tT g q d (pc + 1) lo (.int (xs j) :: st) n u E Q) : tT g q d pc lo (.int (nI j) :: .ref b :: st) n u E Q :=
  T_pure (fun p e R s m args below meth c H locs ls cells slots Qs C hR hlow hL kk => by
    obtain ⟨cell, h1, h2, h3, h4, h5⟩ := y_at hY C hlow
    have hin : vp_in (nI j) L := vp_in_nI hj (by omega)
    exact W.iald (v := .int (xs j)) C.1 C.2.1 h1 h2 h3 (by rw [h4]; exact hin) (by rw [nI_clamp (by omega)]; exact h5 _ hj) rfl rfl hd kk) h
theorem A_ld {k : Nat} (hY : y_K g b L xs) (hi : i + 6 ≤ L) (hL : L ≤ 3072) (hk : k < 6) (d0 : decode q.2.1 pc = .ok (.aload_n 0, 1)) (d1 : decode q.2.1 (pc + 1) = .ok (.iload_n 3, 1)) (d2 : decode q.2.1 (pc + 2) = .ok (.iconst (k : Int), 1)) (d3 : decode q.2.1 (pc + 3) = .ok (.iadd, 1)) (d4 : decode q.2.1 (pc + 4) = .ok (.iaload, 1)) (h : tT g q d (pc + 5) (lol b xo mo i) (.int (xs (i + k)) :: st) n u E Q) : tT g q d pc (lol b xo mo i) st n u E Q := by
  refine T_aload_n (x := b) d0 rfl rfl ?_
  refine T_iload_n (x := nI i) d1 rfl rfl ?_
  refine N_iconst (k := k) d2 ?_
  refine N_iadd (a := i) (b := k) d3 ?_
  exact T_sld hY (by omega) hL d4 h
theorem LV.obj (h : LV g xo mo n0 u0 K n u E) : (t_z g ≤ xo ∧ xo < t_z g + n) ∧ ∃ fs, E xo = .inr (8, fs) := by
  obtain ⟨B, ac, sa, ma, ow, ta, S, X, wd, sp, mk, bt, f, s, b5, hW, hE, ⟨P, e, hM⟩, hR⟩ := h
  have h1 := hM.2.1 5 0 ⟨by show (5 : Nat) < 6; omega, by decide⟩
  have h2 : c_ad (cL6 g B mo ac sa ma ow ta E n0 u0) P 5 0 = xo := b5
  rw [h2] at h1
  exact ⟨⟨h1.2.1, h1.2.2.1⟩, _, h1.1⟩
theorem L_c0 (hY : y_K g b L xs) (hi : i + 6 ≤ L) (hL : L ≤ 3072) (hK : K + 1 ≤ 512) (hV : LV g xo mo n0 u0 K n u E) (h : ∀ n' u' E', LV g xo mo n0 u0 (K + 1) n' u' E' → tT g qL_law 12 1247 (lol b xo mo i) [] n' u' E' Q) : tT g qL_law 12 196 (lol b xo mo i) [] n u E Q := by
  obtain ⟨v, MID, h8, h9⟩ := two_status  hK n u E hV
  obtain ⟨hb8, fs8, hE8⟩ := hV.obj
  refine T_aload_n (pc := 196) (x := xo) dL_law_196 rfl rfl ?_
  refine T_callV (pc := 197) (st := []) (As := []) (q' := qX8_status) dL_law_197 mX8_status lL_13 rfl hb8 hE8 rfl rfl (by decide) (by decide) rfl h8 ?_
  rintro _ n1 u1 E1 ⟨rfl, hM⟩
  obtain ⟨⟨hb9, fs9, hE9⟩, h9⟩ := h9 n1 u1 E1 hM
  refine T_aload_n (pc := 200) (x := mo) dL_law_200 rfl rfl ?_
  refine T_callV (pc := 201) (st := [.int v]) (As := []) (q' := qX9_status) dL_law_201 mX9_status lL_17 rfl hb9 hE9 rfl rfl (by decide) (by show (1 : Nat) ≤ 8; omega) rfl h9 ?_
  rintro _ n2 u2 E2 ⟨r, rfl, rfl, rfl, hr, hV2⟩
  exact T_icmp_eq (pc := 204) (x := v) (y := r) (st := []) dL_law_204 rfl (fun _ => h _ _ _ hV2) (fun hne => absurd hr.symm hne)
theorem L_c1 (hY : y_K g b L xs) (hi : i + 6 ≤ L) (hL : L ≤ 3072) (hK : K + 1 ≤ 512) (hV : LV g xo mo n0 u0 K n u E) (h : ∀ n' u' E', LV g xo mo n0 u0 (K + 1) n' u' E' → tT g qL_law 12 1247 (lol b xo mo i) [] n' u' E' Q) : tT g qL_law 12 209 (lol b xo mo i) [] n u E Q := by
  obtain ⟨v, MID, h8, h9⟩ := two_feed (xs (i + 1)) (xs (i + 2)) (xs (i + 3)) (xs (i + 4)) (xs (i + 5)) hK n u E hV
  obtain ⟨hb8, fs8, hE8⟩ := hV.obj
  refine T_aload_n (pc := 209) (x := xo) dL_law_209 rfl rfl ?_
  refine A_ld (pc := 210) (k := 1) hY hi hL (by omega) dL_law_210 dL_law_211 dL_law_212 dL_law_213 dL_law_214 ?_
  refine A_ld (pc := 215) (k := 2) hY hi hL (by omega) dL_law_215 dL_law_216 dL_law_217 dL_law_218 dL_law_219 ?_
  refine A_ld (pc := 220) (k := 3) hY hi hL (by omega) dL_law_220 dL_law_221 dL_law_222 dL_law_223 dL_law_224 ?_
  refine A_ld (pc := 225) (k := 4) hY hi hL (by omega) dL_law_225 dL_law_226 dL_law_227 dL_law_228 dL_law_229 ?_
  refine A_ld (pc := 230) (k := 5) hY hi hL (by omega) dL_law_230 dL_law_231 dL_law_232 dL_law_233 dL_law_234 ?_
  refine T_callV (pc := 235) (st := []) (As := [.int (xs (i + 1)), .int (xs (i + 2)), .int (xs (i + 3)), .int (xs (i + 4)), .int (xs (i + 5))]) (q' := qX8_feed) dL_law_235 mX8_feed lL_18 rfl hb8 hE8 rfl rfl (by decide) (by decide) rfl h8 ?_
  rintro _ n1 u1 E1 ⟨rfl, hM⟩
  obtain ⟨⟨hb9, fs9, hE9⟩, h9⟩ := h9 n1 u1 E1 hM
  refine T_aload_n (pc := 238) (x := mo) dL_law_238 rfl rfl ?_
  refine A_ld (pc := 239) (k := 1) hY hi hL (by omega) dL_law_239 dL_law_240 dL_law_241 dL_law_242 dL_law_243 ?_
  refine A_ld (pc := 244) (k := 2) hY hi hL (by omega) dL_law_244 dL_law_245 dL_law_246 dL_law_247 dL_law_248 ?_
  refine A_ld (pc := 249) (k := 3) hY hi hL (by omega) dL_law_249 dL_law_250 dL_law_251 dL_law_252 dL_law_253 ?_
  refine A_ld (pc := 254) (k := 4) hY hi hL (by omega) dL_law_254 dL_law_255 dL_law_256 dL_law_257 dL_law_258 ?_
  refine A_ld (pc := 259) (k := 5) hY hi hL (by omega) dL_law_259 dL_law_260 dL_law_261 dL_law_262 dL_law_263 ?_
  refine T_callV (pc := 264) (st := [.int v]) (As := [.int (xs (i + 1)), .int (xs (i + 2)), .int (xs (i + 3)), .int (xs (i + 4)), .int (xs (i + 5))]) (q' := qX9_feed) dL_law_264 mX9_feed lL_22 rfl hb9 hE9 rfl rfl (by decide) (by show (1 : Nat) ≤ 8; omega) rfl h9 ?_
  rintro _ n2 u2 E2 ⟨r, rfl, rfl, rfl, hr, hV2⟩
  exact T_icmp_eq (pc := 267) (x := v) (y := r) (st := []) dL_law_267 rfl (fun _ => h _ _ _ hV2) (fun hne => absurd hr.symm hne)
theorem L_c2 (hX : x_K g adK adV fo) (hY : y_K g b L xs) (hi : i + 6 ≤ L) (hL : L ≤ 3072) (hK : K + 1 ≤ 512) (hV : LV g xo mo n0 u0 K n u E) (h : ∀ n' u' E', LV g xo mo n0 u0 (K + 1) n' u' E' → tT g qL_law 12 1247 (lol b xo mo i) [] n' u' E' Q) : tT g qL_law 12 272 (lol b xo mo i) [] n u E Q := by
  obtain ⟨v, MID, h8, h9⟩ := two_load hX (xs (i + 1)) hK n u E hV
  obtain ⟨hb8, fs8, hE8⟩ := hV.obj
  refine T_aload_n (pc := 272) (x := xo) dL_law_272 rfl rfl ?_
  refine A_ld (pc := 273) (k := 1) hY hi hL (by omega) dL_law_273 dL_law_274 dL_law_275 dL_law_276 dL_law_277 ?_
  refine T_callV (pc := 278) (st := []) (As := [.int (xs (i + 1))]) (q' := qX8_load) dL_law_278 mX8_load lL_23 rfl hb8 hE8 rfl rfl (by decide) (by decide) rfl h8 ?_
  rintro _ n1 u1 E1 ⟨rfl, hM⟩
  obtain ⟨⟨hb9, fs9, hE9⟩, h9⟩ := h9 n1 u1 E1 hM
  refine T_aload_n (pc := 281) (x := mo) dL_law_281 rfl rfl ?_
  refine A_ld (pc := 282) (k := 1) hY hi hL (by omega) dL_law_282 dL_law_283 dL_law_284 dL_law_285 dL_law_286 ?_
  refine T_callV (pc := 287) (st := [.int v]) (As := [.int (xs (i + 1))]) (q' := qX9_load) dL_law_287 mX9_load lL_27 rfl hb9 hE9 rfl rfl (by decide) (by show (1 : Nat) ≤ 8; omega) rfl h9 ?_
  rintro _ n2 u2 E2 ⟨r, rfl, rfl, rfl, hr, hV2⟩
  exact T_icmp_eq (pc := 290) (x := v) (y := r) (st := []) dL_law_290 rfl (fun _ => h _ _ _ hV2) (fun hne => absurd hr.symm hne)
theorem L_c3 (hY : y_K g b L xs) (hi : i + 6 ≤ L) (hL : L ≤ 3072) (hK : K + 1 ≤ 512) (hV : LV g xo mo n0 u0 K n u E) (h : ∀ n' u' E', LV g xo mo n0 u0 (K + 1) n' u' E' → tT g qL_law 12 1247 (lol b xo mo i) [] n' u' E' Q) : tT g qL_law 12 295 (lol b xo mo i) [] n u E Q := by
  obtain ⟨v, MID, h8, h9⟩ := two_fault (xs (i + 1)) hK n u E hV
  obtain ⟨hb8, fs8, hE8⟩ := hV.obj
  refine T_aload_n (pc := 295) (x := xo) dL_law_295 rfl rfl ?_
  refine A_ld (pc := 296) (k := 1) hY hi hL (by omega) dL_law_296 dL_law_297 dL_law_298 dL_law_299 dL_law_300 ?_
  refine T_callV (pc := 301) (st := []) (As := [.int (xs (i + 1))]) (q' := qX8_fault) dL_law_301 mX8_fault lL_28 rfl hb8 hE8 rfl rfl (by decide) (by decide) rfl h8 ?_
  rintro _ n1 u1 E1 ⟨rfl, hM⟩
  obtain ⟨⟨hb9, fs9, hE9⟩, h9⟩ := h9 n1 u1 E1 hM
  refine T_aload_n (pc := 304) (x := mo) dL_law_304 rfl rfl ?_
  refine A_ld (pc := 305) (k := 1) hY hi hL (by omega) dL_law_305 dL_law_306 dL_law_307 dL_law_308 dL_law_309 ?_
  refine T_callV (pc := 310) (st := [.int v]) (As := [.int (xs (i + 1))]) (q' := qX9_fault) dL_law_310 mX9_fault lL_31 rfl hb9 hE9 rfl rfl (by decide) (by show (1 : Nat) ≤ 8; omega) rfl h9 ?_
  rintro _ n2 u2 E2 ⟨r, rfl, rfl, rfl, hr, hV2⟩
  exact T_icmp_eq (pc := 313) (x := v) (y := r) (st := []) dL_law_313 rfl (fun _ => h _ _ _ hV2) (fun hne => absurd hr.symm hne)
theorem L_c4 (hY : y_K g b L xs) (hi : i + 6 ≤ L) (hL : L ≤ 3072) (hK : K + 1 ≤ 512) (hV : LV g xo mo n0 u0 K n u E) (h : ∀ n' u' E', LV g xo mo n0 u0 (K + 1) n' u' E' → tT g qL_law 12 1247 (lol b xo mo i) [] n' u' E' Q) : tT g qL_law 12 318 (lol b xo mo i) [] n u E Q := by
  obtain ⟨v, MID, h8, h9⟩ := two_many (xs (i + 1)) hK n u E hV
  obtain ⟨hb8, fs8, hE8⟩ := hV.obj
  refine T_aload_n (pc := 318) (x := xo) dL_law_318 rfl rfl ?_
  refine A_ld (pc := 319) (k := 1) hY hi hL (by omega) dL_law_319 dL_law_320 dL_law_321 dL_law_322 dL_law_323 ?_
  refine T_callV (pc := 324) (st := []) (As := [.int (xs (i + 1))]) (q' := qX8_many) dL_law_324 mX8_many lL_32 rfl hb8 hE8 rfl rfl (by decide) (by decide) rfl h8 ?_
  rintro _ n1 u1 E1 ⟨rfl, hM⟩
  obtain ⟨⟨hb9, fs9, hE9⟩, h9⟩ := h9 n1 u1 E1 hM
  refine T_aload_n (pc := 327) (x := mo) dL_law_327 rfl rfl ?_
  refine A_ld (pc := 328) (k := 1) hY hi hL (by omega) dL_law_328 dL_law_329 dL_law_330 dL_law_331 dL_law_332 ?_
  refine T_callV (pc := 333) (st := [.int v]) (As := [.int (xs (i + 1))]) (q' := qX9_many) dL_law_333 mX9_many lL_35 rfl hb9 hE9 rfl rfl (by decide) (by show (1 : Nat) ≤ 8; omega) rfl h9 ?_
  rintro _ n2 u2 E2 ⟨r, rfl, rfl, rfl, hr, hV2⟩
  exact T_icmp_eq (pc := 336) (x := v) (y := r) (st := []) dL_law_336 rfl (fun _ => h _ _ _ hV2) (fun hne => absurd hr.symm hne)
theorem L_c5 (hY : y_K g b L xs) (hi : i + 6 ≤ L) (hL : L ≤ 3072) (hK : K + 1 ≤ 512) (hV : LV g xo mo n0 u0 K n u E) (h : ∀ n' u' E', LV g xo mo n0 u0 (K + 1) n' u' E' → tT g qL_law 12 1247 (lol b xo mo i) [] n' u' E' Q) : tT g qL_law 12 341 (lol b xo mo i) [] n u E Q := by
  obtain ⟨v, MID, h8, h9⟩ := two_node (xs (i + 1)) (xs (i + 2)) hK n u E hV
  obtain ⟨hb8, fs8, hE8⟩ := hV.obj
  refine T_aload_n (pc := 341) (x := xo) dL_law_341 rfl rfl ?_
  refine A_ld (pc := 342) (k := 1) hY hi hL (by omega) dL_law_342 dL_law_343 dL_law_344 dL_law_345 dL_law_346 ?_
  refine A_ld (pc := 347) (k := 2) hY hi hL (by omega) dL_law_347 dL_law_348 dL_law_349 dL_law_350 dL_law_351 ?_
  refine T_callV (pc := 352) (st := []) (As := [.int (xs (i + 1)), .int (xs (i + 2))]) (q' := qX8_node) dL_law_352 mX8_node lL_36 rfl hb8 hE8 rfl rfl (by decide) (by decide) rfl h8 ?_
  rintro _ n1 u1 E1 ⟨rfl, hM⟩
  obtain ⟨⟨hb9, fs9, hE9⟩, h9⟩ := h9 n1 u1 E1 hM
  refine T_aload_n (pc := 355) (x := mo) dL_law_355 rfl rfl ?_
  refine A_ld (pc := 356) (k := 1) hY hi hL (by omega) dL_law_356 dL_law_357 dL_law_358 dL_law_359 dL_law_360 ?_
  refine A_ld (pc := 361) (k := 2) hY hi hL (by omega) dL_law_361 dL_law_362 dL_law_363 dL_law_364 dL_law_365 ?_
  refine T_callV (pc := 366) (st := [.int v]) (As := [.int (xs (i + 1)), .int (xs (i + 2))]) (q' := qX9_node) dL_law_366 mX9_node lL_40 rfl hb9 hE9 rfl rfl (by decide) (by show (1 : Nat) ≤ 8; omega) rfl h9 ?_
  rintro _ n2 u2 E2 ⟨r, rfl, rfl, rfl, hr, hV2⟩
  exact T_icmp_eq (pc := 369) (x := v) (y := r) (st := []) dL_law_369 rfl (fun _ => h _ _ _ hV2) (fun hne => absurd hr.symm hne)
theorem L_c6 (hY : y_K g b L xs) (hi : i + 6 ≤ L) (hL : L ≤ 3072) (hK : K + 1 ≤ 512) (hV : LV g xo mo n0 u0 K n u E) (h : ∀ n' u' E', LV g xo mo n0 u0 (K + 1) n' u' E' → tT g qL_law 12 1247 (lol b xo mo i) [] n' u' E' Q) : tT g qL_law 12 374 (lol b xo mo i) [] n u E Q := by
  obtain ⟨v, MID, h8, h9⟩ := two_wire (xs (i + 1)) (xs (i + 2)) hK n u E hV
  obtain ⟨hb8, fs8, hE8⟩ := hV.obj
  refine T_aload_n (pc := 374) (x := xo) dL_law_374 rfl rfl ?_
  refine A_ld (pc := 375) (k := 1) hY hi hL (by omega) dL_law_375 dL_law_376 dL_law_377 dL_law_378 dL_law_379 ?_
  refine A_ld (pc := 380) (k := 2) hY hi hL (by omega) dL_law_380 dL_law_381 dL_law_382 dL_law_383 dL_law_384 ?_
  refine T_callV (pc := 385) (st := []) (As := [.int (xs (i + 1)), .int (xs (i + 2))]) (q' := qX8_wire) dL_law_385 mX8_wire lL_41 rfl hb8 hE8 rfl rfl (by decide) (by decide) rfl h8 ?_
  rintro _ n1 u1 E1 ⟨rfl, hM⟩
  obtain ⟨⟨hb9, fs9, hE9⟩, h9⟩ := h9 n1 u1 E1 hM
  refine T_aload_n (pc := 388) (x := mo) dL_law_388 rfl rfl ?_
  refine A_ld (pc := 389) (k := 1) hY hi hL (by omega) dL_law_389 dL_law_390 dL_law_391 dL_law_392 dL_law_393 ?_
  refine A_ld (pc := 394) (k := 2) hY hi hL (by omega) dL_law_394 dL_law_395 dL_law_396 dL_law_397 dL_law_398 ?_
  refine T_callV (pc := 399) (st := [.int v]) (As := [.int (xs (i + 1)), .int (xs (i + 2))]) (q' := qX9_wire) dL_law_399 mX9_wire lL_44 rfl hb9 hE9 rfl rfl (by decide) (by show (1 : Nat) ≤ 8; omega) rfl h9 ?_
  rintro _ n2 u2 E2 ⟨r, rfl, rfl, rfl, hr, hV2⟩
  exact T_icmp_eq (pc := 402) (x := v) (y := r) (st := []) dL_law_402 rfl (fun _ => h _ _ _ hV2) (fun hne => absurd hr.symm hne)
theorem L_c7 (hY : y_K g b L xs) (hi : i + 6 ≤ L) (hL : L ≤ 3072) (hK : K + 1 ≤ 512) (hV : LV g xo mo n0 u0 K n u E) (h : ∀ n' u' E', LV g xo mo n0 u0 (K + 1) n' u' E' → tT g qL_law 12 1247 (lol b xo mo i) [] n' u' E' Q) : tT g qL_law 12 407 (lol b xo mo i) [] n u E Q := by
  obtain ⟨v, MID, h8, h9⟩ := two_row (xs (i + 1)) (xs (i + 2)) hK n u E hV
  obtain ⟨hb8, fs8, hE8⟩ := hV.obj
  refine T_aload_n (pc := 407) (x := xo) dL_law_407 rfl rfl ?_
  refine A_ld (pc := 408) (k := 1) hY hi hL (by omega) dL_law_408 dL_law_409 dL_law_410 dL_law_411 dL_law_412 ?_
  refine A_ld (pc := 413) (k := 2) hY hi hL (by omega) dL_law_413 dL_law_414 dL_law_415 dL_law_416 dL_law_417 ?_
  refine T_callV (pc := 418) (st := []) (As := [.int (xs (i + 1)), .int (xs (i + 2))]) (q' := qX8_row) dL_law_418 mX8_row lL_45 rfl hb8 hE8 rfl rfl (by decide) (by decide) rfl h8 ?_
  rintro _ n1 u1 E1 ⟨rfl, hM⟩
  obtain ⟨⟨hb9, fs9, hE9⟩, h9⟩ := h9 n1 u1 E1 hM
  refine T_aload_n (pc := 421) (x := mo) dL_law_421 rfl rfl ?_
  refine A_ld (pc := 422) (k := 1) hY hi hL (by omega) dL_law_422 dL_law_423 dL_law_424 dL_law_425 dL_law_426 ?_
  refine A_ld (pc := 427) (k := 2) hY hi hL (by omega) dL_law_427 dL_law_428 dL_law_429 dL_law_430 dL_law_431 ?_
  refine T_callV (pc := 432) (st := [.int v]) (As := [.int (xs (i + 1)), .int (xs (i + 2))]) (q' := qX9_row) dL_law_432 mX9_row lL_48 rfl hb9 hE9 rfl rfl (by decide) (by show (1 : Nat) ≤ 8; omega) rfl h9 ?_
  rintro _ n2 u2 E2 ⟨r, rfl, rfl, rfl, hr, hV2⟩
  exact T_icmp_eq (pc := 435) (x := v) (y := r) (st := []) dL_law_435 rfl (fun _ => h _ _ _ hV2) (fun hne => absurd hr.symm hne)
theorem L_c8 (hY : y_K g b L xs) (hi : i + 6 ≤ L) (hL : L ≤ 3072) (hK : K + 1 ≤ 512) (hV : LV g xo mo n0 u0 K n u E) (h : ∀ n' u' E', LV g xo mo n0 u0 (K + 1) n' u' E' → tT g qL_law 12 1247 (lol b xo mo i) [] n' u' E' Q) : tT g qL_law 12 440 (lol b xo mo i) [] n u E Q := by
  obtain ⟨v, MID, h8, h9⟩ := two_letter (xs (i + 1)) (xs (i + 2)) hK n u E hV
  obtain ⟨hb8, fs8, hE8⟩ := hV.obj
  refine T_aload_n (pc := 440) (x := xo) dL_law_440 rfl rfl ?_
  refine A_ld (pc := 441) (k := 1) hY hi hL (by omega) dL_law_441 dL_law_442 dL_law_443 dL_law_444 dL_law_445 ?_
  refine A_ld (pc := 446) (k := 2) hY hi hL (by omega) dL_law_446 dL_law_447 dL_law_448 dL_law_449 dL_law_450 ?_
  refine T_callV (pc := 451) (st := []) (As := [.int (xs (i + 1)), .int (xs (i + 2))]) (q' := qX8_letter) dL_law_451 mX8_letter lL_49 rfl hb8 hE8 rfl rfl (by decide) (by decide) rfl h8 ?_
  rintro _ n1 u1 E1 ⟨rfl, hM⟩
  obtain ⟨⟨hb9, fs9, hE9⟩, h9⟩ := h9 n1 u1 E1 hM
  refine T_aload_n (pc := 454) (x := mo) dL_law_454 rfl rfl ?_
  refine A_ld (pc := 455) (k := 1) hY hi hL (by omega) dL_law_455 dL_law_456 dL_law_457 dL_law_458 dL_law_459 ?_
  refine A_ld (pc := 460) (k := 2) hY hi hL (by omega) dL_law_460 dL_law_461 dL_law_462 dL_law_463 dL_law_464 ?_
  refine T_callV (pc := 465) (st := [.int v]) (As := [.int (xs (i + 1)), .int (xs (i + 2))]) (q' := qX9_letter) dL_law_465 mX9_letter lL_52 rfl hb9 hE9 rfl rfl (by decide) (by show (1 : Nat) ≤ 8; omega) rfl h9 ?_
  rintro _ n2 u2 E2 ⟨r, rfl, rfl, rfl, hr, hV2⟩
  exact T_icmp_eq (pc := 468) (x := v) (y := r) (st := []) dL_law_468 rfl (fun _ => h _ _ _ hV2) (fun hne => absurd hr.symm hne)
theorem L_c9 (hY : y_K g b L xs) (hi : i + 6 ≤ L) (hL : L ≤ 3072) (hK : K + 1 ≤ 512) (hV : LV g xo mo n0 u0 K n u E) (h : ∀ n' u' E', LV g xo mo n0 u0 (K + 1) n' u' E' → tT g qL_law 12 1247 (lol b xo mo i) [] n' u' E' Q) : tT g qL_law 12 473 (lol b xo mo i) [] n u E Q := by
  obtain ⟨v, MID, h8, h9⟩ := two_watch (xs (i + 1)) (xs (i + 2)) hK n u E hV
  obtain ⟨hb8, fs8, hE8⟩ := hV.obj
  refine T_aload_n (pc := 473) (x := xo) dL_law_473 rfl rfl ?_
  refine A_ld (pc := 474) (k := 1) hY hi hL (by omega) dL_law_474 dL_law_475 dL_law_476 dL_law_477 dL_law_478 ?_
  refine A_ld (pc := 479) (k := 2) hY hi hL (by omega) dL_law_479 dL_law_480 dL_law_481 dL_law_482 dL_law_483 ?_
  refine T_callV (pc := 484) (st := []) (As := [.int (xs (i + 1)), .int (xs (i + 2))]) (q' := qX8_watch) dL_law_484 mX8_watch lL_53 rfl hb8 hE8 rfl rfl (by decide) (by decide) rfl h8 ?_
  rintro _ n1 u1 E1 ⟨rfl, hM⟩
  obtain ⟨⟨hb9, fs9, hE9⟩, h9⟩ := h9 n1 u1 E1 hM
  refine T_aload_n (pc := 487) (x := mo) dL_law_487 rfl rfl ?_
  refine A_ld (pc := 488) (k := 1) hY hi hL (by omega) dL_law_488 dL_law_489 dL_law_490 dL_law_491 dL_law_492 ?_
  refine A_ld (pc := 493) (k := 2) hY hi hL (by omega) dL_law_493 dL_law_494 dL_law_495 dL_law_496 dL_law_497 ?_
  refine T_callV (pc := 498) (st := [.int v]) (As := [.int (xs (i + 1)), .int (xs (i + 2))]) (q' := qX9_watch) dL_law_498 mX9_watch lL_56 rfl hb9 hE9 rfl rfl (by decide) (by show (1 : Nat) ≤ 8; omega) rfl h9 ?_
  rintro _ n2 u2 E2 ⟨r, rfl, rfl, rfl, hr, hV2⟩
  exact T_icmp_eq (pc := 501) (x := v) (y := r) (st := []) dL_law_501 rfl (fun _ => h _ _ _ hV2) (fun hne => absurd hr.symm hne)
theorem L_c10 (hY : y_K g b L xs) (hi : i + 6 ≤ L) (hL : L ≤ 3072) (hK : K + 1 ≤ 512) (hV : LV g xo mo n0 u0 K n u E) (h : ∀ n' u' E', LV g xo mo n0 u0 (K + 1) n' u' E' → tT g qL_law 12 1247 (lol b xo mo i) [] n' u' E' Q) : tT g qL_law 12 506 (lol b xo mo i) [] n u E Q := by
  obtain ⟨v, MID, h8, h9⟩ := two_lag (xs (i + 1)) hK n u E hV
  obtain ⟨hb8, fs8, hE8⟩ := hV.obj
  refine T_aload_n (pc := 506) (x := xo) dL_law_506 rfl rfl ?_
  refine A_ld (pc := 507) (k := 1) hY hi hL (by omega) dL_law_507 dL_law_508 dL_law_509 dL_law_510 dL_law_511 ?_
  refine T_callV (pc := 512) (st := []) (As := [.int (xs (i + 1))]) (q' := qX8_lag) dL_law_512 mX8_lag lL_57 rfl hb8 hE8 rfl rfl (by decide) (by decide) rfl h8 ?_
  rintro _ n1 u1 E1 ⟨rfl, hM⟩
  obtain ⟨⟨hb9, fs9, hE9⟩, h9⟩ := h9 n1 u1 E1 hM
  refine T_aload_n (pc := 515) (x := mo) dL_law_515 rfl rfl ?_
  refine A_ld (pc := 516) (k := 1) hY hi hL (by omega) dL_law_516 dL_law_517 dL_law_518 dL_law_519 dL_law_520 ?_
  refine T_callV (pc := 521) (st := [.int v]) (As := [.int (xs (i + 1))]) (q' := qX9_lag) dL_law_521 mX9_lag lL_60 rfl hb9 hE9 rfl rfl (by decide) (by show (1 : Nat) ≤ 8; omega) rfl h9 ?_
  rintro _ n2 u2 E2 ⟨r, rfl, rfl, rfl, hr, hV2⟩
  exact T_icmp_eq (pc := 524) (x := v) (y := r) (st := []) dL_law_524 rfl (fun _ => h _ _ _ hV2) (fun hne => absurd hr.symm hne)
theorem L_c11 (hY : y_K g b L xs) (hi : i + 6 ≤ L) (hL : L ≤ 3072) (hK : K + 1 ≤ 512) (hV : LV g xo mo n0 u0 K n u E) (h : ∀ n' u' E', LV g xo mo n0 u0 (K + 1) n' u' E' → tT g qL_law 12 1247 (lol b xo mo i) [] n' u' E' Q) : tT g qL_law 12 529 (lol b xo mo i) [] n u E Q := by
  obtain ⟨v, MID, h8, h9⟩ := two_bound (xs (i + 1)) hK n u E hV
  obtain ⟨hb8, fs8, hE8⟩ := hV.obj
  refine T_aload_n (pc := 529) (x := xo) dL_law_529 rfl rfl ?_
  refine A_ld (pc := 530) (k := 1) hY hi hL (by omega) dL_law_530 dL_law_531 dL_law_532 dL_law_533 dL_law_534 ?_
  refine T_callV (pc := 535) (st := []) (As := [.int (xs (i + 1))]) (q' := qX8_bound) dL_law_535 mX8_bound lL_61 rfl hb8 hE8 rfl rfl (by decide) (by decide) rfl h8 ?_
  rintro _ n1 u1 E1 ⟨rfl, hM⟩
  obtain ⟨⟨hb9, fs9, hE9⟩, h9⟩ := h9 n1 u1 E1 hM
  refine T_aload_n (pc := 538) (x := mo) dL_law_538 rfl rfl ?_
  refine A_ld (pc := 539) (k := 1) hY hi hL (by omega) dL_law_539 dL_law_540 dL_law_541 dL_law_542 dL_law_543 ?_
  refine T_callV (pc := 544) (st := [.int v]) (As := [.int (xs (i + 1))]) (q' := qX9_bound) dL_law_544 mX9_bound lL_64 rfl hb9 hE9 rfl rfl (by decide) (by show (1 : Nat) ≤ 8; omega) rfl h9 ?_
  rintro _ n2 u2 E2 ⟨r, rfl, rfl, rfl, hr, hV2⟩
  exact T_icmp_eq (pc := 547) (x := v) (y := r) (st := []) dL_law_547 rfl (fun _ => h _ _ _ hV2) (fun hne => absurd hr.symm hne)
theorem L_c12 (hY : y_K g b L xs) (hi : i + 6 ≤ L) (hL : L ≤ 3072) (hK : K + 1 ≤ 512) (hV : LV g xo mo n0 u0 K n u E) (h : ∀ n' u' E', LV g xo mo n0 u0 (K + 1) n' u' E' → tT g qL_law 12 1247 (lol b xo mo i) [] n' u' E' Q) : tT g qL_law 12 552 (lol b xo mo i) [] n u E Q := by
  obtain ⟨v, MID, h8, h9⟩ := two_best (xs (i + 1)) hK n u E hV
  obtain ⟨hb8, fs8, hE8⟩ := hV.obj
  refine T_aload_n (pc := 552) (x := xo) dL_law_552 rfl rfl ?_
  refine A_ld (pc := 553) (k := 1) hY hi hL (by omega) dL_law_553 dL_law_554 dL_law_555 dL_law_556 dL_law_557 ?_
  refine T_callV (pc := 558) (st := []) (As := [.int (xs (i + 1))]) (q' := qX8_best) dL_law_558 mX8_best lL_65 rfl hb8 hE8 rfl rfl (by decide) (by decide) rfl h8 ?_
  rintro _ n1 u1 E1 ⟨rfl, hM⟩
  obtain ⟨⟨hb9, fs9, hE9⟩, h9⟩ := h9 n1 u1 E1 hM
  refine T_aload_n (pc := 561) (x := mo) dL_law_561 rfl rfl ?_
  refine A_ld (pc := 562) (k := 1) hY hi hL (by omega) dL_law_562 dL_law_563 dL_law_564 dL_law_565 dL_law_566 ?_
  refine T_callV (pc := 567) (st := [.int v]) (As := [.int (xs (i + 1))]) (q' := qX9_best) dL_law_567 mX9_best lL_68 rfl hb9 hE9 rfl rfl (by decide) (by show (1 : Nat) ≤ 8; omega) rfl h9 ?_
  rintro _ n2 u2 E2 ⟨r, rfl, rfl, rfl, hr, hV2⟩
  exact T_icmp_eq (pc := 570) (x := v) (y := r) (st := []) dL_law_570 rfl (fun _ => h _ _ _ hV2) (fun hne => absurd hr.symm hne)
theorem L_c13 (hY : y_K g b L xs) (hi : i + 6 ≤ L) (hL : L ≤ 3072) (hK : K + 1 ≤ 512) (hV : LV g xo mo n0 u0 K n u E) (h : ∀ n' u' E', LV g xo mo n0 u0 (K + 1) n' u' E' → tT g qL_law 12 1247 (lol b xo mo i) [] n' u' E' Q) : tT g qL_law 12 575 (lol b xo mo i) [] n u E Q := by
  obtain ⟨v, MID, h8, h9⟩ := two_weights (xs (i + 1)) hK n u E hV
  obtain ⟨hb8, fs8, hE8⟩ := hV.obj
  refine T_aload_n (pc := 575) (x := xo) dL_law_575 rfl rfl ?_
  refine A_ld (pc := 576) (k := 1) hY hi hL (by omega) dL_law_576 dL_law_577 dL_law_578 dL_law_579 dL_law_580 ?_
  refine T_callV (pc := 581) (st := []) (As := [.int (xs (i + 1))]) (q' := qX8_weights) dL_law_581 mX8_weights lL_69 rfl hb8 hE8 rfl rfl (by decide) (by decide) rfl h8 ?_
  rintro _ n1 u1 E1 ⟨rfl, hM⟩
  obtain ⟨⟨hb9, fs9, hE9⟩, h9⟩ := h9 n1 u1 E1 hM
  refine T_aload_n (pc := 584) (x := mo) dL_law_584 rfl rfl ?_
  refine A_ld (pc := 585) (k := 1) hY hi hL (by omega) dL_law_585 dL_law_586 dL_law_587 dL_law_588 dL_law_589 ?_
  refine T_callV (pc := 590) (st := [.int v]) (As := [.int (xs (i + 1))]) (q' := qX9_weights) dL_law_590 mX9_weights lL_72 rfl hb9 hE9 rfl rfl (by decide) (by show (1 : Nat) ≤ 8; omega) rfl h9 ?_
  rintro _ n2 u2 E2 ⟨r, rfl, rfl, rfl, hr, hV2⟩
  exact T_icmp_eq (pc := 593) (x := v) (y := r) (st := []) dL_law_593 rfl (fun _ => h _ _ _ hV2) (fun hne => absurd hr.symm hne)
theorem L_c14 (hY : y_K g b L xs) (hi : i + 6 ≤ L) (hL : L ≤ 3072) (hK : K + 1 ≤ 512) (hV : LV g xo mo n0 u0 K n u E) (h : ∀ n' u' E', LV g xo mo n0 u0 (K + 1) n' u' E' → tT g qL_law 12 1247 (lol b xo mo i) [] n' u' E' Q) : tT g qL_law 12 598 (lol b xo mo i) [] n u E Q := by
  obtain ⟨v, MID, h8, h9⟩ := two_last (xs (i + 1)) hK n u E hV
  obtain ⟨hb8, fs8, hE8⟩ := hV.obj
  refine T_aload_n (pc := 598) (x := xo) dL_law_598 rfl rfl ?_
  refine A_ld (pc := 599) (k := 1) hY hi hL (by omega) dL_law_599 dL_law_600 dL_law_601 dL_law_602 dL_law_603 ?_
  refine T_callV (pc := 604) (st := []) (As := [.int (xs (i + 1))]) (q' := qX8_last) dL_law_604 mX8_last lL_73 rfl hb8 hE8 rfl rfl (by decide) (by decide) rfl h8 ?_
  rintro _ n1 u1 E1 ⟨rfl, hM⟩
  obtain ⟨⟨hb9, fs9, hE9⟩, h9⟩ := h9 n1 u1 E1 hM
  refine T_aload_n (pc := 607) (x := mo) dL_law_607 rfl rfl ?_
  refine A_ld (pc := 608) (k := 1) hY hi hL (by omega) dL_law_608 dL_law_609 dL_law_610 dL_law_611 dL_law_612 ?_
  refine T_callV (pc := 613) (st := [.int v]) (As := [.int (xs (i + 1))]) (q' := qX9_last) dL_law_613 mX9_last lL_76 rfl hb9 hE9 rfl rfl (by decide) (by show (1 : Nat) ≤ 8; omega) rfl h9 ?_
  rintro _ n2 u2 E2 ⟨r, rfl, rfl, rfl, hr, hV2⟩
  exact T_icmp_eq (pc := 616) (x := v) (y := r) (st := []) dL_law_616 rfl (fun _ => h _ _ _ hV2) (fun hne => absurd hr.symm hne)
theorem L_c15 (hY : y_K g b L xs) (hi : i + 6 ≤ L) (hL : L ≤ 3072) (hK : K + 1 ≤ 512) (hV : LV g xo mo n0 u0 K n u E) (h : ∀ n' u' E', LV g xo mo n0 u0 (K + 1) n' u' E' → tT g qL_law 12 1247 (lol b xo mo i) [] n' u' E' Q) : tT g qL_law 12 621 (lol b xo mo i) [] n u E Q := by
  obtain ⟨v, MID, h8, h9⟩ := two_ledger (xs (i + 1)) (xs (i + 2)) (xs (i + 3)) hK n u E hV
  obtain ⟨hb8, fs8, hE8⟩ := hV.obj
  refine T_aload_n (pc := 621) (x := xo) dL_law_621 rfl rfl ?_
  refine A_ld (pc := 622) (k := 1) hY hi hL (by omega) dL_law_622 dL_law_623 dL_law_624 dL_law_625 dL_law_626 ?_
  refine A_ld (pc := 627) (k := 2) hY hi hL (by omega) dL_law_627 dL_law_628 dL_law_629 dL_law_630 dL_law_631 ?_
  refine A_ld (pc := 632) (k := 3) hY hi hL (by omega) dL_law_632 dL_law_633 dL_law_634 dL_law_635 dL_law_636 ?_
  refine T_callV (pc := 637) (st := []) (As := [.int (xs (i + 1)), .int (xs (i + 2)), .int (xs (i + 3))]) (q' := qX8_ledger) dL_law_637 mX8_ledger lL_77 rfl hb8 hE8 rfl rfl (by decide) (by decide) rfl h8 ?_
  rintro _ n1 u1 E1 ⟨rfl, hM⟩
  obtain ⟨⟨hb9, fs9, hE9⟩, h9⟩ := h9 n1 u1 E1 hM
  refine T_aload_n (pc := 640) (x := mo) dL_law_640 rfl rfl ?_
  refine A_ld (pc := 641) (k := 1) hY hi hL (by omega) dL_law_641 dL_law_642 dL_law_643 dL_law_644 dL_law_645 ?_
  refine A_ld (pc := 646) (k := 2) hY hi hL (by omega) dL_law_646 dL_law_647 dL_law_648 dL_law_649 dL_law_650 ?_
  refine A_ld (pc := 651) (k := 3) hY hi hL (by omega) dL_law_651 dL_law_652 dL_law_653 dL_law_654 dL_law_655 ?_
  refine T_callV (pc := 656) (st := [.int v]) (As := [.int (xs (i + 1)), .int (xs (i + 2)), .int (xs (i + 3))]) (q' := qX9_ledger) dL_law_656 mX9_ledger lL_81 rfl hb9 hE9 rfl rfl (by decide) (by show (1 : Nat) ≤ 8; omega) rfl h9 ?_
  rintro _ n2 u2 E2 ⟨r, rfl, rfl, rfl, hr, hV2⟩
  exact T_icmp_eq (pc := 659) (x := v) (y := r) (st := []) dL_law_659 rfl (fun _ => h _ _ _ hV2) (fun hne => absurd hr.symm hne)
theorem L_c16 (hY : y_K g b L xs) (hi : i + 6 ≤ L) (hL : L ≤ 3072) (hK : K + 1 ≤ 512) (hV : LV g xo mo n0 u0 K n u E) (h : ∀ n' u' E', LV g xo mo n0 u0 (K + 1) n' u' E' → tT g qL_law 12 1247 (lol b xo mo i) [] n' u' E' Q) : tT g qL_law 12 664 (lol b xo mo i) [] n u E Q := by
  obtain ⟨v, MID, h8, h9⟩ := two_cutting (xs (i + 1)) hK n u E hV
  obtain ⟨hb8, fs8, hE8⟩ := hV.obj
  refine T_aload_n (pc := 664) (x := xo) dL_law_664 rfl rfl ?_
  refine A_ld (pc := 665) (k := 1) hY hi hL (by omega) dL_law_665 dL_law_666 dL_law_667 dL_law_668 dL_law_669 ?_
  refine T_callV (pc := 670) (st := []) (As := [.int (xs (i + 1))]) (q' := qX8_cutting) dL_law_670 mX8_cutting lL_82 rfl hb8 hE8 rfl rfl (by decide) (by decide) rfl h8 ?_
  rintro _ n1 u1 E1 ⟨rfl, hM⟩
  obtain ⟨⟨hb9, fs9, hE9⟩, h9⟩ := h9 n1 u1 E1 hM
  refine T_aload_n (pc := 673) (x := mo) dL_law_673 rfl rfl ?_
  refine A_ld (pc := 674) (k := 1) hY hi hL (by omega) dL_law_674 dL_law_675 dL_law_676 dL_law_677 dL_law_678 ?_
  refine T_callV (pc := 679) (st := [.int v]) (As := [.int (xs (i + 1))]) (q' := qX9_cutting) dL_law_679 mX9_cutting lL_85 rfl hb9 hE9 rfl rfl (by decide) (by show (1 : Nat) ≤ 8; omega) rfl h9 ?_
  rintro _ n2 u2 E2 ⟨r, rfl, rfl, rfl, hr, hV2⟩
  exact T_icmp_eq (pc := 682) (x := v) (y := r) (st := []) dL_law_682 rfl (fun _ => h _ _ _ hV2) (fun hne => absurd hr.symm hne)
theorem L_c17 (hY : y_K g b L xs) (hi : i + 6 ≤ L) (hL : L ≤ 3072) (hK : K + 1 ≤ 512) (hV : LV g xo mo n0 u0 K n u E) (h : ∀ n' u' E', LV g xo mo n0 u0 (K + 1) n' u' E' → tT g qL_law 12 1247 (lol b xo mo i) [] n' u' E' Q) : tT g qL_law 12 687 (lol b xo mo i) [] n u E Q := by
  obtain ⟨v, MID, h8, h9⟩ := two_recorded (xs (i + 1)) (xs (i + 2)) hK n u E hV
  obtain ⟨hb8, fs8, hE8⟩ := hV.obj
  refine T_aload_n (pc := 687) (x := xo) dL_law_687 rfl rfl ?_
  refine A_ld (pc := 688) (k := 1) hY hi hL (by omega) dL_law_688 dL_law_689 dL_law_690 dL_law_691 dL_law_692 ?_
  refine A_ld (pc := 693) (k := 2) hY hi hL (by omega) dL_law_693 dL_law_694 dL_law_695 dL_law_696 dL_law_697 ?_
  refine T_callV (pc := 698) (st := []) (As := [.int (xs (i + 1)), .int (xs (i + 2))]) (q' := qX8_recorded) dL_law_698 mX8_recorded lL_86 rfl hb8 hE8 rfl rfl (by decide) (by decide) rfl h8 ?_
  rintro _ n1 u1 E1 ⟨rfl, hM⟩
  obtain ⟨⟨hb9, fs9, hE9⟩, h9⟩ := h9 n1 u1 E1 hM
  refine T_aload_n (pc := 701) (x := mo) dL_law_701 rfl rfl ?_
  refine A_ld (pc := 702) (k := 1) hY hi hL (by omega) dL_law_702 dL_law_703 dL_law_704 dL_law_705 dL_law_706 ?_
  refine A_ld (pc := 707) (k := 2) hY hi hL (by omega) dL_law_707 dL_law_708 dL_law_709 dL_law_710 dL_law_711 ?_
  refine T_callV (pc := 712) (st := [.int v]) (As := [.int (xs (i + 1)), .int (xs (i + 2))]) (q' := qX9_recorded) dL_law_712 mX9_recorded lL_89 rfl hb9 hE9 rfl rfl (by decide) (by show (1 : Nat) ≤ 8; omega) rfl h9 ?_
  rintro _ n2 u2 E2 ⟨r, rfl, rfl, rfl, hr, hV2⟩
  exact T_icmp_eq (pc := 715) (x := v) (y := r) (st := []) dL_law_715 rfl (fun _ => h _ _ _ hV2) (fun hne => absurd hr.symm hne)
theorem L_c18 (hY : y_K g b L xs) (hi : i + 6 ≤ L) (hL : L ≤ 3072) (hK : K + 1 ≤ 512) (hV : LV g xo mo n0 u0 K n u E) (h : ∀ n' u' E', LV g xo mo n0 u0 (K + 1) n' u' E' → tT g qL_law 12 1247 (lol b xo mo i) [] n' u' E' Q) : tT g qL_law 12 720 (lol b xo mo i) [] n u E Q := by
  obtain ⟨v, MID, h8, h9⟩ := two_event (xs (i + 1)) (xs (i + 2)) hK n u E hV
  obtain ⟨hb8, fs8, hE8⟩ := hV.obj
  refine T_aload_n (pc := 720) (x := xo) dL_law_720 rfl rfl ?_
  refine A_ld (pc := 721) (k := 1) hY hi hL (by omega) dL_law_721 dL_law_722 dL_law_723 dL_law_724 dL_law_725 ?_
  refine A_ld (pc := 726) (k := 2) hY hi hL (by omega) dL_law_726 dL_law_727 dL_law_728 dL_law_729 dL_law_730 ?_
  refine T_callV (pc := 731) (st := []) (As := [.int (xs (i + 1)), .int (xs (i + 2))]) (q' := qX8_event) dL_law_731 mX8_event lL_90 rfl hb8 hE8 rfl rfl (by decide) (by decide) rfl h8 ?_
  rintro _ n1 u1 E1 ⟨rfl, hM⟩
  obtain ⟨⟨hb9, fs9, hE9⟩, h9⟩ := h9 n1 u1 E1 hM
  refine T_aload_n (pc := 734) (x := mo) dL_law_734 rfl rfl ?_
  refine A_ld (pc := 735) (k := 1) hY hi hL (by omega) dL_law_735 dL_law_736 dL_law_737 dL_law_738 dL_law_739 ?_
  refine A_ld (pc := 740) (k := 2) hY hi hL (by omega) dL_law_740 dL_law_741 dL_law_742 dL_law_743 dL_law_744 ?_
  refine T_callV (pc := 745) (st := [.int v]) (As := [.int (xs (i + 1)), .int (xs (i + 2))]) (q' := qX9_event) dL_law_745 mX9_event lL_93 rfl hb9 hE9 rfl rfl (by decide) (by show (1 : Nat) ≤ 8; omega) rfl h9 ?_
  rintro _ n2 u2 E2 ⟨r, rfl, rfl, rfl, hr, hV2⟩
  exact T_icmp_eq (pc := 748) (x := v) (y := r) (st := []) dL_law_748 rfl (fun _ => h _ _ _ hV2) (fun hne => absurd hr.symm hne)
theorem L_c19 (hY : y_K g b L xs) (hi : i + 6 ≤ L) (hL : L ≤ 3072) (hK : K + 1 ≤ 512) (hV : LV g xo mo n0 u0 K n u E) (h : ∀ n' u' E', LV g xo mo n0 u0 (K + 1) n' u' E' → tT g qL_law 12 1247 (lol b xo mo i) [] n' u' E' Q) : tT g qL_law 12 753 (lol b xo mo i) [] n u E Q := by
  obtain ⟨v, MID, h8, h9⟩ := two_begin (xs (i + 1)) hK n u E hV
  obtain ⟨hb8, fs8, hE8⟩ := hV.obj
  refine T_aload_n (pc := 753) (x := xo) dL_law_753 rfl rfl ?_
  refine A_ld (pc := 754) (k := 1) hY hi hL (by omega) dL_law_754 dL_law_755 dL_law_756 dL_law_757 dL_law_758 ?_
  refine T_callV (pc := 759) (st := []) (As := [.int (xs (i + 1))]) (q' := qX8_begin) dL_law_759 mX8_begin lL_94 rfl hb8 hE8 rfl rfl (by decide) (by decide) rfl h8 ?_
  rintro _ n1 u1 E1 ⟨rfl, hM⟩
  obtain ⟨⟨hb9, fs9, hE9⟩, h9⟩ := h9 n1 u1 E1 hM
  refine T_aload_n (pc := 762) (x := mo) dL_law_762 rfl rfl ?_
  refine A_ld (pc := 763) (k := 1) hY hi hL (by omega) dL_law_763 dL_law_764 dL_law_765 dL_law_766 dL_law_767 ?_
  refine T_callV (pc := 768) (st := [.int v]) (As := [.int (xs (i + 1))]) (q' := qX9_begin) dL_law_768 mX9_begin lL_97 rfl hb9 hE9 rfl rfl (by decide) (by show (1 : Nat) ≤ 8; omega) rfl h9 ?_
  rintro _ n2 u2 E2 ⟨r, rfl, rfl, rfl, hr, hV2⟩
  exact T_icmp_eq (pc := 771) (x := v) (y := r) (st := []) dL_law_771 rfl (fun _ => h _ _ _ hV2) (fun hne => absurd hr.symm hne)
theorem L_c20 (hY : y_K g b L xs) (hi : i + 6 ≤ L) (hL : L ≤ 3072) (hK : K + 1 ≤ 512) (hV : LV g xo mo n0 u0 K n u E) (h : ∀ n' u' E', LV g xo mo n0 u0 (K + 1) n' u' E' → tT g qL_law 12 1247 (lol b xo mo i) [] n' u' E' Q) : tT g qL_law 12 776 (lol b xo mo i) [] n u E Q := by
  obtain ⟨v, MID, h8, h9⟩ := two_plan (xs (i + 1)) (xs (i + 2)) (xs (i + 3)) (xs (i + 4)) hK n u E hV
  obtain ⟨hb8, fs8, hE8⟩ := hV.obj
  refine T_aload_n (pc := 776) (x := xo) dL_law_776 rfl rfl ?_
  refine A_ld (pc := 777) (k := 1) hY hi hL (by omega) dL_law_777 dL_law_778 dL_law_779 dL_law_780 dL_law_781 ?_
  refine A_ld (pc := 782) (k := 2) hY hi hL (by omega) dL_law_782 dL_law_783 dL_law_784 dL_law_785 dL_law_786 ?_
  refine A_ld (pc := 787) (k := 3) hY hi hL (by omega) dL_law_787 dL_law_788 dL_law_789 dL_law_790 dL_law_791 ?_
  refine A_ld (pc := 792) (k := 4) hY hi hL (by omega) dL_law_792 dL_law_793 dL_law_794 dL_law_795 dL_law_796 ?_
  refine T_callV (pc := 797) (st := []) (As := [.int (xs (i + 1)), .int (xs (i + 2)), .int (xs (i + 3)), .int (xs (i + 4))]) (q' := qX8_plan) dL_law_797 mX8_plan lL_98 rfl hb8 hE8 rfl rfl (by decide) (by decide) rfl h8 ?_
  rintro _ n1 u1 E1 ⟨rfl, hM⟩
  obtain ⟨⟨hb9, fs9, hE9⟩, h9⟩ := h9 n1 u1 E1 hM
  refine T_aload_n (pc := 800) (x := mo) dL_law_800 rfl rfl ?_
  refine A_ld (pc := 801) (k := 1) hY hi hL (by omega) dL_law_801 dL_law_802 dL_law_803 dL_law_804 dL_law_805 ?_
  refine A_ld (pc := 806) (k := 2) hY hi hL (by omega) dL_law_806 dL_law_807 dL_law_808 dL_law_809 dL_law_810 ?_
  refine A_ld (pc := 811) (k := 3) hY hi hL (by omega) dL_law_811 dL_law_812 dL_law_813 dL_law_814 dL_law_815 ?_
  refine A_ld (pc := 816) (k := 4) hY hi hL (by omega) dL_law_816 dL_law_817 dL_law_818 dL_law_819 dL_law_820 ?_
  refine T_callV (pc := 821) (st := [.int v]) (As := [.int (xs (i + 1)), .int (xs (i + 2)), .int (xs (i + 3)), .int (xs (i + 4))]) (q' := qX9_plan) dL_law_821 mX9_plan lL_102 rfl hb9 hE9 rfl rfl (by decide) (by show (1 : Nat) ≤ 8; omega) rfl h9 ?_
  rintro _ n2 u2 E2 ⟨r, rfl, rfl, rfl, hr, hV2⟩
  exact T_icmp_eq (pc := 824) (x := v) (y := r) (st := []) dL_law_824 rfl (fun _ => h _ _ _ hV2) (fun hne => absurd hr.symm hne)
theorem L_c21 (hY : y_K g b L xs) (hi : i + 6 ≤ L) (hL : L ≤ 3072) (hK : K + 1 ≤ 512) (hV : LV g xo mo n0 u0 K n u E) (h : ∀ n' u' E', LV g xo mo n0 u0 (K + 1) n' u' E' → tT g qL_law 12 1247 (lol b xo mo i) [] n' u' E' Q) : tT g qL_law 12 829 (lol b xo mo i) [] n u E Q := by
  obtain ⟨v, MID, h8, h9⟩ := two_drop (xs (i + 1)) hK n u E hV
  obtain ⟨hb8, fs8, hE8⟩ := hV.obj
  refine T_aload_n (pc := 829) (x := xo) dL_law_829 rfl rfl ?_
  refine A_ld (pc := 830) (k := 1) hY hi hL (by omega) dL_law_830 dL_law_831 dL_law_832 dL_law_833 dL_law_834 ?_
  refine T_callV (pc := 835) (st := []) (As := [.int (xs (i + 1))]) (q' := qX8_drop) dL_law_835 mX8_drop lL_103 rfl hb8 hE8 rfl rfl (by decide) (by decide) rfl h8 ?_
  rintro _ n1 u1 E1 ⟨rfl, hM⟩
  obtain ⟨⟨hb9, fs9, hE9⟩, h9⟩ := h9 n1 u1 E1 hM
  refine T_aload_n (pc := 838) (x := mo) dL_law_838 rfl rfl ?_
  refine A_ld (pc := 839) (k := 1) hY hi hL (by omega) dL_law_839 dL_law_840 dL_law_841 dL_law_842 dL_law_843 ?_
  refine T_callV (pc := 844) (st := [.int v]) (As := [.int (xs (i + 1))]) (q' := qX9_drop) dL_law_844 mX9_drop lL_106 rfl hb9 hE9 rfl rfl (by decide) (by show (1 : Nat) ≤ 8; omega) rfl h9 ?_
  rintro _ n2 u2 E2 ⟨r, rfl, rfl, rfl, hr, hV2⟩
  exact T_icmp_eq (pc := 847) (x := v) (y := r) (st := []) dL_law_847 rfl (fun _ => h _ _ _ hV2) (fun hne => absurd hr.symm hne)
theorem L_c22 (hY : y_K g b L xs) (hi : i + 6 ≤ L) (hL : L ≤ 3072) (hK : K + 1 ≤ 512) (hV : LV g xo mo n0 u0 K n u E) (h : ∀ n' u' E', LV g xo mo n0 u0 (K + 1) n' u' E' → tT g qL_law 12 1247 (lol b xo mo i) [] n' u' E' Q) : tT g qL_law 12 852 (lol b xo mo i) [] n u E Q := by
  obtain ⟨v, MID, h8, h9⟩ := two_wires (xs (i + 1)) (xs (i + 2)) (xs (i + 3)) hK n u E hV
  obtain ⟨hb8, fs8, hE8⟩ := hV.obj
  refine T_aload_n (pc := 852) (x := xo) dL_law_852 rfl rfl ?_
  refine A_ld (pc := 853) (k := 1) hY hi hL (by omega) dL_law_853 dL_law_854 dL_law_855 dL_law_856 dL_law_857 ?_
  refine A_ld (pc := 858) (k := 2) hY hi hL (by omega) dL_law_858 dL_law_859 dL_law_860 dL_law_861 dL_law_862 ?_
  refine A_ld (pc := 863) (k := 3) hY hi hL (by omega) dL_law_863 dL_law_864 dL_law_865 dL_law_866 dL_law_867 ?_
  refine T_callV (pc := 868) (st := []) (As := [.int (xs (i + 1)), .int (xs (i + 2)), .int (xs (i + 3))]) (q' := qX8_wires) dL_law_868 mX8_wires lL_107 rfl hb8 hE8 rfl rfl (by decide) (by decide) rfl h8 ?_
  rintro _ n1 u1 E1 ⟨rfl, hM⟩
  obtain ⟨⟨hb9, fs9, hE9⟩, h9⟩ := h9 n1 u1 E1 hM
  refine T_aload_n (pc := 871) (x := mo) dL_law_871 rfl rfl ?_
  refine A_ld (pc := 872) (k := 1) hY hi hL (by omega) dL_law_872 dL_law_873 dL_law_874 dL_law_875 dL_law_876 ?_
  refine A_ld (pc := 877) (k := 2) hY hi hL (by omega) dL_law_877 dL_law_878 dL_law_879 dL_law_880 dL_law_881 ?_
  refine A_ld (pc := 882) (k := 3) hY hi hL (by omega) dL_law_882 dL_law_883 dL_law_884 dL_law_885 dL_law_886 ?_
  refine T_callV (pc := 887) (st := [.int v]) (As := [.int (xs (i + 1)), .int (xs (i + 2)), .int (xs (i + 3))]) (q' := qX9_wires) dL_law_887 mX9_wires lL_110 rfl hb9 hE9 rfl rfl (by decide) (by show (1 : Nat) ≤ 8; omega) rfl h9 ?_
  rintro _ n2 u2 E2 ⟨r, rfl, rfl, rfl, hr, hV2⟩
  exact T_icmp_eq (pc := 890) (x := v) (y := r) (st := []) dL_law_890 rfl (fun _ => h _ _ _ hV2) (fun hne => absurd hr.symm hne)
theorem L_c23 (hY : y_K g b L xs) (hi : i + 6 ≤ L) (hL : L ≤ 3072) (hK : K + 1 ≤ 512) (hV : LV g xo mo n0 u0 K n u E) (h : ∀ n' u' E', LV g xo mo n0 u0 (K + 1) n' u' E' → tT g qL_law 12 1247 (lol b xo mo i) [] n' u' E' Q) : tT g qL_law 12 895 (lol b xo mo i) [] n u E Q := by
  obtain ⟨v, MID, h8, h9⟩ := two_add  hK n u E hV
  obtain ⟨hb8, fs8, hE8⟩ := hV.obj
  refine T_aload_n (pc := 895) (x := xo) dL_law_895 rfl rfl ?_
  refine T_callV (pc := 896) (st := []) (As := []) (q' := qX8_add) dL_law_896 mX8_add lL_111 rfl hb8 hE8 rfl rfl (by decide) (by decide) rfl h8 ?_
  rintro _ n1 u1 E1 ⟨rfl, hM⟩
  obtain ⟨⟨hb9, fs9, hE9⟩, h9⟩ := h9 n1 u1 E1 hM
  refine T_aload_n (pc := 899) (x := mo) dL_law_899 rfl rfl ?_
  refine T_callV (pc := 900) (st := [.int v]) (As := []) (q' := qX9_add) dL_law_900 mX9_add lL_114 rfl hb9 hE9 rfl rfl (by decide) (by show (1 : Nat) ≤ 8; omega) rfl h9 ?_
  rintro _ n2 u2 E2 ⟨r, rfl, rfl, rfl, hr, hV2⟩
  exact T_icmp_eq (pc := 903) (x := v) (y := r) (st := []) dL_law_903 rfl (fun _ => h _ _ _ hV2) (fun hne => absurd hr.symm hne)
theorem L_c24 (hY : y_K g b L xs) (hi : i + 6 ≤ L) (hL : L ≤ 3072) (hK : K + 1 ≤ 512) (hV : LV g xo mo n0 u0 K n u E) (h : ∀ n' u' E', LV g xo mo n0 u0 (K + 1) n' u' E' → tT g qL_law 12 1247 (lol b xo mo i) [] n' u' E' Q) : tT g qL_law 12 908 (lol b xo mo i) [] n u E Q := by
  obtain ⟨v, MID, h8, h9⟩ := two_sleep (xs (i + 1)) (xs (i + 2)) hK n u E hV
  obtain ⟨hb8, fs8, hE8⟩ := hV.obj
  refine T_aload_n (pc := 908) (x := xo) dL_law_908 rfl rfl ?_
  refine A_ld (pc := 909) (k := 1) hY hi hL (by omega) dL_law_909 dL_law_910 dL_law_911 dL_law_912 dL_law_913 ?_
  refine A_ld (pc := 914) (k := 2) hY hi hL (by omega) dL_law_914 dL_law_915 dL_law_916 dL_law_917 dL_law_918 ?_
  refine T_callV (pc := 919) (st := []) (As := [.int (xs (i + 1)), .int (xs (i + 2))]) (q' := qX8_sleep) dL_law_919 mX8_sleep lL_115 rfl hb8 hE8 rfl rfl (by decide) (by decide) rfl h8 ?_
  rintro _ n1 u1 E1 ⟨rfl, hM⟩
  obtain ⟨⟨hb9, fs9, hE9⟩, h9⟩ := h9 n1 u1 E1 hM
  refine T_aload_n (pc := 922) (x := mo) dL_law_922 rfl rfl ?_
  refine A_ld (pc := 923) (k := 1) hY hi hL (by omega) dL_law_923 dL_law_924 dL_law_925 dL_law_926 dL_law_927 ?_
  refine A_ld (pc := 928) (k := 2) hY hi hL (by omega) dL_law_928 dL_law_929 dL_law_930 dL_law_931 dL_law_932 ?_
  refine T_callV (pc := 933) (st := [.int v]) (As := [.int (xs (i + 1)), .int (xs (i + 2))]) (q' := qX9_sleep) dL_law_933 mX9_sleep lL_118 rfl hb9 hE9 rfl rfl (by decide) (by show (1 : Nat) ≤ 8; omega) rfl h9 ?_
  rintro _ n2 u2 E2 ⟨r, rfl, rfl, rfl, hr, hV2⟩
  exact T_icmp_eq (pc := 936) (x := v) (y := r) (st := []) dL_law_936 rfl (fun _ => h _ _ _ hV2) (fun hne => absurd hr.symm hne)
theorem L_c25 (hY : y_K g b L xs) (hi : i + 6 ≤ L) (hL : L ≤ 3072) (hK : K + 1 ≤ 512) (hV : LV g xo mo n0 u0 K n u E) (h : ∀ n' u' E', LV g xo mo n0 u0 (K + 1) n' u' E' → tT g qL_law 12 1247 (lol b xo mo i) [] n' u' E' Q) : tT g qL_law 12 941 (lol b xo mo i) [] n u E Q := by
  obtain ⟨v, MID, h8, h9⟩ := two_cut (xs (i + 1)) hK n u E hV
  obtain ⟨hb8, fs8, hE8⟩ := hV.obj
  refine T_aload_n (pc := 941) (x := xo) dL_law_941 rfl rfl ?_
  refine A_ld (pc := 942) (k := 1) hY hi hL (by omega) dL_law_942 dL_law_943 dL_law_944 dL_law_945 dL_law_946 ?_
  refine T_callV (pc := 947) (st := []) (As := [.int (xs (i + 1))]) (q' := qX8_cut) dL_law_947 mX8_cut lL_119 rfl hb8 hE8 rfl rfl (by decide) (by decide) rfl h8 ?_
  rintro _ n1 u1 E1 ⟨rfl, hM⟩
  obtain ⟨⟨hb9, fs9, hE9⟩, h9⟩ := h9 n1 u1 E1 hM
  refine T_aload_n (pc := 950) (x := mo) dL_law_950 rfl rfl ?_
  refine A_ld (pc := 951) (k := 1) hY hi hL (by omega) dL_law_951 dL_law_952 dL_law_953 dL_law_954 dL_law_955 ?_
  refine T_callV (pc := 956) (st := [.int v]) (As := [.int (xs (i + 1))]) (q' := qX9_cut) dL_law_956 mX9_cut lL_122 rfl hb9 hE9 rfl rfl (by decide) (by show (1 : Nat) ≤ 8; omega) rfl h9 ?_
  rintro _ n2 u2 E2 ⟨r, rfl, rfl, rfl, hr, hV2⟩
  exact T_icmp_eq (pc := 959) (x := v) (y := r) (st := []) dL_law_959 rfl (fun _ => h _ _ _ hV2) (fun hne => absurd hr.symm hne)
theorem L_c26 (hY : y_K g b L xs) (hi : i + 6 ≤ L) (hL : L ≤ 3072) (hK : K + 1 ≤ 512) (hV : LV g xo mo n0 u0 K n u E) (h : ∀ n' u' E', LV g xo mo n0 u0 (K + 1) n' u' E' → tT g qL_law 12 1247 (lol b xo mo i) [] n' u' E' Q) : tT g qL_law 12 964 (lol b xo mo i) [] n u E Q := by
  obtain ⟨v, MID, h8, h9⟩ := two_tick (xs (i + 1)) hK n u E hV
  obtain ⟨hb8, fs8, hE8⟩ := hV.obj
  refine T_aload_n (pc := 964) (x := xo) dL_law_964 rfl rfl ?_
  refine A_ld (pc := 965) (k := 1) hY hi hL (by omega) dL_law_965 dL_law_966 dL_law_967 dL_law_968 dL_law_969 ?_
  refine T_callV (pc := 970) (st := []) (As := [.int (xs (i + 1))]) (q' := qX8_tick) dL_law_970 mX8_tick lL_123 rfl hb8 hE8 rfl rfl (by decide) (by decide) rfl h8 ?_
  rintro _ n1 u1 E1 ⟨rfl, hM⟩
  obtain ⟨⟨hb9, fs9, hE9⟩, h9⟩ := h9 n1 u1 E1 hM
  refine T_aload_n (pc := 973) (x := mo) dL_law_973 rfl rfl ?_
  refine A_ld (pc := 974) (k := 1) hY hi hL (by omega) dL_law_974 dL_law_975 dL_law_976 dL_law_977 dL_law_978 ?_
  refine T_callV (pc := 979) (st := [.int v]) (As := [.int (xs (i + 1))]) (q' := qX9_tick) dL_law_979 mX9_tick lL_126 rfl hb9 hE9 rfl rfl (by decide) (by show (1 : Nat) ≤ 8; omega) rfl h9 ?_
  rintro _ n2 u2 E2 ⟨r, rfl, rfl, rfl, hr, hV2⟩
  exact T_icmp_eq (pc := 982) (x := v) (y := r) (st := []) dL_law_982 rfl (fun _ => h _ _ _ hV2) (fun hne => absurd hr.symm hne)
theorem L_c27 (hY : y_K g b L xs) (hi : i + 6 ≤ L) (hL : L ≤ 3072) (hK : K + 1 ≤ 512) (hV : LV g xo mo n0 u0 K n u E) (h : ∀ n' u' E', LV g xo mo n0 u0 (K + 1) n' u' E' → tT g qL_law 12 1247 (lol b xo mo i) [] n' u' E' Q) : tT g qL_law 12 987 (lol b xo mo i) [] n u E Q := by
  obtain ⟨v, MID, h8, h9⟩ := two_mark  hK n u E hV
  obtain ⟨hb8, fs8, hE8⟩ := hV.obj
  refine T_aload_n (pc := 987) (x := xo) dL_law_987 rfl rfl ?_
  refine T_callV (pc := 988) (st := []) (As := []) (q' := qX8_mark) dL_law_988 mX8_mark lL_127 rfl hb8 hE8 rfl rfl (by decide) (by decide) rfl h8 ?_
  rintro _ n1 u1 E1 ⟨rfl, hM⟩
  obtain ⟨⟨hb9, fs9, hE9⟩, h9⟩ := h9 n1 u1 E1 hM
  refine T_aload_n (pc := 991) (x := mo) dL_law_991 rfl rfl ?_
  refine T_callV (pc := 992) (st := [.int v]) (As := []) (q' := qX9_mark) dL_law_992 mX9_mark lL_130 rfl hb9 hE9 rfl rfl (by decide) (by show (1 : Nat) ≤ 8; omega) rfl h9 ?_
  rintro _ n2 u2 E2 ⟨r, rfl, rfl, rfl, hr, hV2⟩
  exact T_icmp_eq (pc := 995) (x := v) (y := r) (st := []) dL_law_995 rfl (fun _ => h _ _ _ hV2) (fun hne => absurd hr.symm hne)
theorem L_c28 (hY : y_K g b L xs) (hi : i + 6 ≤ L) (hL : L ≤ 3072) (hK : K + 1 ≤ 512) (hV : LV g xo mo n0 u0 K n u E) (h : ∀ n' u' E', LV g xo mo n0 u0 (K + 1) n' u' E' → tT g qL_law 12 1247 (lol b xo mo i) [] n' u' E' Q) : tT g qL_law 12 1000 (lol b xo mo i) [] n u E Q := by
  obtain ⟨v, MID, h8, h9⟩ := two_back  hK n u E hV
  obtain ⟨hb8, fs8, hE8⟩ := hV.obj
  refine T_aload_n (pc := 1000) (x := xo) dL_law_1000 rfl rfl ?_
  refine T_callV (pc := 1001) (st := []) (As := []) (q' := qX8_back) dL_law_1001 mX8_back lL_131 rfl hb8 hE8 rfl rfl (by decide) (by decide) rfl h8 ?_
  rintro _ n1 u1 E1 ⟨rfl, hM⟩
  obtain ⟨⟨hb9, fs9, hE9⟩, h9⟩ := h9 n1 u1 E1 hM
  refine T_aload_n (pc := 1004) (x := mo) dL_law_1004 rfl rfl ?_
  refine T_callV (pc := 1005) (st := [.int v]) (As := []) (q' := qX9_back) dL_law_1005 mX9_back lL_134 rfl hb9 hE9 rfl rfl (by decide) (by show (1 : Nat) ≤ 8; omega) rfl h9 ?_
  rintro _ n2 u2 E2 ⟨r, rfl, rfl, rfl, hr, hV2⟩
  exact T_icmp_eq (pc := 1008) (x := v) (y := r) (st := []) dL_law_1008 rfl (fun _ => h _ _ _ hV2) (fun hne => absurd hr.symm hne)
theorem L_c29 (hY : y_K g b L xs) (hi : i + 6 ≤ L) (hL : L ≤ 3072) (hK : K + 1 ≤ 512) (hV : LV g xo mo n0 u0 K n u E) (h : ∀ n' u' E', LV g xo mo n0 u0 (K + 1) n' u' E' → tT g qL_law 12 1247 (lol b xo mo i) [] n' u' E' Q) : tT g qL_law 12 1013 (lol b xo mo i) [] n u E Q := by
  obtain ⟨v, MID, h8, h9⟩ := two_ends  hK n u E hV
  obtain ⟨hb8, fs8, hE8⟩ := hV.obj
  refine T_aload_n (pc := 1013) (x := xo) dL_law_1013 rfl rfl ?_
  refine T_callV (pc := 1014) (st := []) (As := []) (q' := qX8_ends) dL_law_1014 mX8_ends lL_135 rfl hb8 hE8 rfl rfl (by decide) (by decide) rfl h8 ?_
  rintro _ n1 u1 E1 ⟨rfl, hM⟩
  obtain ⟨⟨hb9, fs9, hE9⟩, h9⟩ := h9 n1 u1 E1 hM
  refine T_aload_n (pc := 1017) (x := mo) dL_law_1017 rfl rfl ?_
  refine T_callV (pc := 1018) (st := [.int v]) (As := []) (q' := qX9_ends) dL_law_1018 mX9_ends lL_138 rfl hb9 hE9 rfl rfl (by decide) (by show (1 : Nat) ≤ 8; omega) rfl h9 ?_
  rintro _ n2 u2 E2 ⟨r, rfl, rfl, rfl, hr, hV2⟩
  exact T_icmp_eq (pc := 1021) (x := v) (y := r) (st := []) dL_law_1021 rfl (fun _ => h _ _ _ hV2) (fun hne => absurd hr.symm hne)
theorem L_c30 (hY : y_K g b L xs) (hi : i + 6 ≤ L) (hL : L ≤ 3072) (hK : K + 1 ≤ 512) (hV : LV g xo mo n0 u0 K n u E) (h : ∀ n' u' E', LV g xo mo n0 u0 (K + 1) n' u' E' → tT g qL_law 12 1247 (lol b xo mo i) [] n' u' E' Q) : tT g qL_law 12 1026 (lol b xo mo i) [] n u E Q := by
  obtain ⟨v, MID, h8, h9⟩ := two_tells (xs (i + 1)) hK n u E hV
  obtain ⟨hb8, fs8, hE8⟩ := hV.obj
  refine T_aload_n (pc := 1026) (x := xo) dL_law_1026 rfl rfl ?_
  refine A_ld (pc := 1027) (k := 1) hY hi hL (by omega) dL_law_1027 dL_law_1028 dL_law_1029 dL_law_1030 dL_law_1031 ?_
  refine T_callV (pc := 1032) (st := []) (As := [.int (xs (i + 1))]) (q' := qX8_tells) dL_law_1032 mX8_tells lL_139 rfl hb8 hE8 rfl rfl (by decide) (by decide) rfl h8 ?_
  rintro _ n1 u1 E1 ⟨rfl, hM⟩
  obtain ⟨⟨hb9, fs9, hE9⟩, h9⟩ := h9 n1 u1 E1 hM
  refine T_aload_n (pc := 1035) (x := mo) dL_law_1035 rfl rfl ?_
  refine A_ld (pc := 1036) (k := 1) hY hi hL (by omega) dL_law_1036 dL_law_1037 dL_law_1038 dL_law_1039 dL_law_1040 ?_
  refine T_callV (pc := 1041) (st := [.int v]) (As := [.int (xs (i + 1))]) (q' := qX9_tells) dL_law_1041 mX9_tells lL_142 rfl hb9 hE9 rfl rfl (by decide) (by show (1 : Nat) ≤ 8; omega) rfl h9 ?_
  rintro _ n2 u2 E2 ⟨r, rfl, rfl, rfl, hr, hV2⟩
  exact T_icmp_eq (pc := 1044) (x := v) (y := r) (st := []) dL_law_1044 rfl (fun _ => h _ _ _ hV2) (fun hne => absurd hr.symm hne)
theorem L_c31 (hY : y_K g b L xs) (hi : i + 6 ≤ L) (hL : L ≤ 3072) (hK : K + 1 ≤ 512) (hV : LV g xo mo n0 u0 K n u E) (h : ∀ n' u' E', LV g xo mo n0 u0 (K + 1) n' u' E' → tT g qL_law 12 1247 (lol b xo mo i) [] n' u' E' Q) : tT g qL_law 12 1049 (lol b xo mo i) [] n u E Q := by
  obtain ⟨v, MID, h8, h9⟩ := two_whole (xs (i + 1)) hK n u E hV
  obtain ⟨hb8, fs8, hE8⟩ := hV.obj
  refine T_aload_n (pc := 1049) (x := xo) dL_law_1049 rfl rfl ?_
  refine A_ld (pc := 1050) (k := 1) hY hi hL (by omega) dL_law_1050 dL_law_1051 dL_law_1052 dL_law_1053 dL_law_1054 ?_
  refine T_callV (pc := 1055) (st := []) (As := [.int (xs (i + 1))]) (q' := qX8_whole) dL_law_1055 mX8_whole lL_143 rfl hb8 hE8 rfl rfl (by decide) (by decide) rfl h8 ?_
  rintro _ n1 u1 E1 ⟨rfl, hM⟩
  obtain ⟨⟨hb9, fs9, hE9⟩, h9⟩ := h9 n1 u1 E1 hM
  refine T_aload_n (pc := 1058) (x := mo) dL_law_1058 rfl rfl ?_
  refine A_ld (pc := 1059) (k := 1) hY hi hL (by omega) dL_law_1059 dL_law_1060 dL_law_1061 dL_law_1062 dL_law_1063 ?_
  refine T_callV (pc := 1064) (st := [.int v]) (As := [.int (xs (i + 1))]) (q' := qX9_whole) dL_law_1064 mX9_whole lL_146 rfl hb9 hE9 rfl rfl (by decide) (by show (1 : Nat) ≤ 8; omega) rfl h9 ?_
  rintro _ n2 u2 E2 ⟨r, rfl, rfl, rfl, hr, hV2⟩
  exact T_icmp_eq (pc := 1067) (x := v) (y := r) (st := []) dL_law_1067 rfl (fun _ => h _ _ _ hV2) (fun hne => absurd hr.symm hne)
theorem L_c32 (hY : y_K g b L xs) (hi : i + 6 ≤ L) (hL : L ≤ 3072) (hK : K + 1 ≤ 512) (hV : LV g xo mo n0 u0 K n u E) (h : ∀ n' u' E', LV g xo mo n0 u0 (K + 1) n' u' E' → tT g qL_law 12 1247 (lol b xo mo i) [] n' u' E' Q) : tT g qL_law 12 1072 (lol b xo mo i) [] n u E Q := by
  obtain ⟨v, MID, h8, h9⟩ := two_would (xs (i + 1)) (xs (i + 2)) (xs (i + 3)) hK n u E hV
  obtain ⟨hb8, fs8, hE8⟩ := hV.obj
  refine T_aload_n (pc := 1072) (x := xo) dL_law_1072 rfl rfl ?_
  refine A_ld (pc := 1073) (k := 1) hY hi hL (by omega) dL_law_1073 dL_law_1074 dL_law_1075 dL_law_1076 dL_law_1077 ?_
  refine A_ld (pc := 1078) (k := 2) hY hi hL (by omega) dL_law_1078 dL_law_1079 dL_law_1080 dL_law_1081 dL_law_1082 ?_
  refine A_ld (pc := 1083) (k := 3) hY hi hL (by omega) dL_law_1083 dL_law_1084 dL_law_1085 dL_law_1086 dL_law_1087 ?_
  refine T_callV (pc := 1088) (st := []) (As := [.int (xs (i + 1)), .int (xs (i + 2)), .int (xs (i + 3))]) (q' := qX8_would) dL_law_1088 mX8_would lL_147 rfl hb8 hE8 rfl rfl (by decide) (by decide) rfl h8 ?_
  rintro _ n1 u1 E1 ⟨rfl, hM⟩
  obtain ⟨⟨hb9, fs9, hE9⟩, h9⟩ := h9 n1 u1 E1 hM
  refine T_aload_n (pc := 1091) (x := mo) dL_law_1091 rfl rfl ?_
  refine A_ld (pc := 1092) (k := 1) hY hi hL (by omega) dL_law_1092 dL_law_1093 dL_law_1094 dL_law_1095 dL_law_1096 ?_
  refine A_ld (pc := 1097) (k := 2) hY hi hL (by omega) dL_law_1097 dL_law_1098 dL_law_1099 dL_law_1100 dL_law_1101 ?_
  refine A_ld (pc := 1102) (k := 3) hY hi hL (by omega) dL_law_1102 dL_law_1103 dL_law_1104 dL_law_1105 dL_law_1106 ?_
  refine T_callV (pc := 1107) (st := [.int v]) (As := [.int (xs (i + 1)), .int (xs (i + 2)), .int (xs (i + 3))]) (q' := qX9_would) dL_law_1107 mX9_would lL_150 rfl hb9 hE9 rfl rfl (by decide) (by show (1 : Nat) ≤ 8; omega) rfl h9 ?_
  rintro _ n2 u2 E2 ⟨r, rfl, rfl, rfl, hr, hV2⟩
  exact T_icmp_eq (pc := 1110) (x := v) (y := r) (st := []) dL_law_1110 rfl (fun _ => h _ _ _ hV2) (fun hne => absurd hr.symm hne)
theorem L_c33 (hY : y_K g b L xs) (hi : i + 6 ≤ L) (hL : L ≤ 3072) (hK : K + 1 ≤ 512) (hV : LV g xo mo n0 u0 K n u E) (h : ∀ n' u' E', LV g xo mo n0 u0 (K + 1) n' u' E' → tT g qL_law 12 1247 (lol b xo mo i) [] n' u' E' Q) : tT g qL_law 12 1115 (lol b xo mo i) [] n u E Q := by
  obtain ⟨v, MID, h8, h9⟩ := two_with (xs (i + 1)) (xs (i + 2)) (xs (i + 3)) (xs (i + 4)) (xs (i + 5)) hK n u E hV
  obtain ⟨hb8, fs8, hE8⟩ := hV.obj
  refine T_aload_n (pc := 1115) (x := xo) dL_law_1115 rfl rfl ?_
  refine A_ld (pc := 1116) (k := 1) hY hi hL (by omega) dL_law_1116 dL_law_1117 dL_law_1118 dL_law_1119 dL_law_1120 ?_
  refine A_ld (pc := 1121) (k := 2) hY hi hL (by omega) dL_law_1121 dL_law_1122 dL_law_1123 dL_law_1124 dL_law_1125 ?_
  refine A_ld (pc := 1126) (k := 3) hY hi hL (by omega) dL_law_1126 dL_law_1127 dL_law_1128 dL_law_1129 dL_law_1130 ?_
  refine A_ld (pc := 1131) (k := 4) hY hi hL (by omega) dL_law_1131 dL_law_1132 dL_law_1133 dL_law_1134 dL_law_1135 ?_
  refine A_ld (pc := 1136) (k := 5) hY hi hL (by omega) dL_law_1136 dL_law_1137 dL_law_1138 dL_law_1139 dL_law_1140 ?_
  refine T_callV (pc := 1141) (st := []) (As := [.int (xs (i + 1)), .int (xs (i + 2)), .int (xs (i + 3)), .int (xs (i + 4)), .int (xs (i + 5))]) (q' := qX8_with) dL_law_1141 mX8_with lL_151 rfl hb8 hE8 rfl rfl (by decide) (by decide) rfl h8 ?_
  rintro _ n1 u1 E1 ⟨rfl, hM⟩
  obtain ⟨⟨hb9, fs9, hE9⟩, h9⟩ := h9 n1 u1 E1 hM
  refine T_aload_n (pc := 1144) (x := mo) dL_law_1144 rfl rfl ?_
  refine A_ld (pc := 1145) (k := 1) hY hi hL (by omega) dL_law_1145 dL_law_1146 dL_law_1147 dL_law_1148 dL_law_1149 ?_
  refine A_ld (pc := 1150) (k := 2) hY hi hL (by omega) dL_law_1150 dL_law_1151 dL_law_1152 dL_law_1153 dL_law_1154 ?_
  refine A_ld (pc := 1155) (k := 3) hY hi hL (by omega) dL_law_1155 dL_law_1156 dL_law_1157 dL_law_1158 dL_law_1159 ?_
  refine A_ld (pc := 1160) (k := 4) hY hi hL (by omega) dL_law_1160 dL_law_1161 dL_law_1162 dL_law_1163 dL_law_1164 ?_
  refine A_ld (pc := 1165) (k := 5) hY hi hL (by omega) dL_law_1165 dL_law_1166 dL_law_1167 dL_law_1168 dL_law_1169 ?_
  refine T_callV (pc := 1170) (st := [.int v]) (As := [.int (xs (i + 1)), .int (xs (i + 2)), .int (xs (i + 3)), .int (xs (i + 4)), .int (xs (i + 5))]) (q' := qX9_with) dL_law_1170 mX9_with lL_154 rfl hb9 hE9 rfl rfl (by decide) (by show (1 : Nat) ≤ 8; omega) rfl h9 ?_
  rintro _ n2 u2 E2 ⟨r, rfl, rfl, rfl, hr, hV2⟩
  exact T_icmp_eq (pc := 1173) (x := v) (y := r) (st := []) dL_law_1173 rfl (fun _ => h _ _ _ hV2) (fun hne => absurd hr.symm hne)
theorem L_c34 (hY : y_K g b L xs) (hi : i + 6 ≤ L) (hL : L ≤ 3072) (hK : K + 1 ≤ 512) (hV : LV g xo mo n0 u0 K n u E) (h : ∀ n' u' E', LV g xo mo n0 u0 (K + 1) n' u' E' → tT g qL_law 12 1247 (lol b xo mo i) [] n' u' E' Q) : tT g qL_law 12 1178 (lol b xo mo i) [] n u E Q := by
  obtain ⟨v, MID, h8, h9⟩ := two_margin (xs (i + 1)) (xs (i + 2)) hK n u E hV
  obtain ⟨hb8, fs8, hE8⟩ := hV.obj
  refine T_aload_n (pc := 1178) (x := xo) dL_law_1178 rfl rfl ?_
  refine A_ld (pc := 1179) (k := 1) hY hi hL (by omega) dL_law_1179 dL_law_1180 dL_law_1181 dL_law_1182 dL_law_1183 ?_
  refine A_ld (pc := 1184) (k := 2) hY hi hL (by omega) dL_law_1184 dL_law_1185 dL_law_1186 dL_law_1187 dL_law_1188 ?_
  refine T_callV (pc := 1189) (st := []) (As := [.int (xs (i + 1)), .int (xs (i + 2))]) (q' := qX8_margin) dL_law_1189 mX8_margin lL_155 rfl hb8 hE8 rfl rfl (by decide) (by decide) rfl h8 ?_
  rintro _ n1 u1 E1 ⟨rfl, hM⟩
  obtain ⟨⟨hb9, fs9, hE9⟩, h9⟩ := h9 n1 u1 E1 hM
  refine T_aload_n (pc := 1192) (x := mo) dL_law_1192 rfl rfl ?_
  refine A_ld (pc := 1193) (k := 1) hY hi hL (by omega) dL_law_1193 dL_law_1194 dL_law_1195 dL_law_1196 dL_law_1197 ?_
  refine A_ld (pc := 1198) (k := 2) hY hi hL (by omega) dL_law_1198 dL_law_1199 dL_law_1200 dL_law_1201 dL_law_1202 ?_
  refine T_callV (pc := 1203) (st := [.int v]) (As := [.int (xs (i + 1)), .int (xs (i + 2))]) (q' := qX9_margin) dL_law_1203 mX9_margin lL_158 rfl hb9 hE9 rfl rfl (by decide) (by show (1 : Nat) ≤ 8; omega) rfl h9 ?_
  rintro _ n2 u2 E2 ⟨r, rfl, rfl, rfl, hr, hV2⟩
  exact T_icmp_eq (pc := 1206) (x := v) (y := r) (st := []) dL_law_1206 rfl (fun _ => h _ _ _ hV2) (fun hne => absurd hr.symm hne)
theorem L_c35 (hY : y_K g b L xs) (hi : i + 6 ≤ L) (hL : L ≤ 3072) (hK : K + 1 ≤ 512) (hV : LV g xo mo n0 u0 K n u E) (h : ∀ n' u' E', LV g xo mo n0 u0 (K + 1) n' u' E' → tT g qL_law 12 1247 (lol b xo mo i) [] n' u' E' Q) : tT g qL_law 12 1211 (lol b xo mo i) [] n u E Q := by
  obtain ⟨v, MID, h8, h9⟩ := two_quickest (xs (i + 1)) hK n u E hV
  obtain ⟨hb8, fs8, hE8⟩ := hV.obj
  refine T_aload_n (pc := 1211) (x := xo) dL_law_1211 rfl rfl ?_
  refine A_ld (pc := 1212) (k := 1) hY hi hL (by omega) dL_law_1212 dL_law_1213 dL_law_1214 dL_law_1215 dL_law_1216 ?_
  refine T_callV (pc := 1217) (st := []) (As := [.int (xs (i + 1))]) (q' := qX8_quickest) dL_law_1217 mX8_quickest lL_159 rfl hb8 hE8 rfl rfl (by decide) (by decide) rfl h8 ?_
  rintro _ n1 u1 E1 ⟨rfl, hM⟩
  obtain ⟨⟨hb9, fs9, hE9⟩, h9⟩ := h9 n1 u1 E1 hM
  refine T_aload_n (pc := 1220) (x := mo) dL_law_1220 rfl rfl ?_
  refine A_ld (pc := 1221) (k := 1) hY hi hL (by omega) dL_law_1221 dL_law_1222 dL_law_1223 dL_law_1224 dL_law_1225 ?_
  refine T_callV (pc := 1226) (st := [.int v]) (As := [.int (xs (i + 1))]) (q' := qX9_quickest) dL_law_1226 mX9_quickest lL_162 rfl hb9 hE9 rfl rfl (by decide) (by show (1 : Nat) ≤ 8; omega) rfl h9 ?_
  rintro _ n2 u2 E2 ⟨r, rfl, rfl, rfl, hr, hV2⟩
  exact T_icmp_eq (pc := 1229) (x := v) (y := r) (st := []) dL_law_1229 rfl (fun _ => h _ _ _ hV2) (fun hne => absurd hr.symm hne)
theorem L_c36 (hY : y_K g b L xs) (hi : i + 6 ≤ L) (hL : L ≤ 3072) (hK : K + 1 ≤ 512) (hV : LV g xo mo n0 u0 K n u E) (h : ∀ n' u' E', LV g xo mo n0 u0 (K + 1) n' u' E' → tT g qL_law 12 1247 (lol b xo mo i) [] n' u' E' Q) : tT g qL_law 12 1234 (lol b xo mo i) [] n u E Q := by
  obtain ⟨v, MID, h8, h9⟩ := two_enough  hK n u E hV
  obtain ⟨hb8, fs8, hE8⟩ := hV.obj
  refine T_aload_n (pc := 1234) (x := xo) dL_law_1234 rfl rfl ?_
  refine T_callV (pc := 1235) (st := []) (As := []) (q' := qX8_enough) dL_law_1235 mX8_enough lL_163 rfl hb8 hE8 rfl rfl (by decide) (by decide) rfl h8 ?_
  rintro _ n1 u1 E1 ⟨rfl, hM⟩
  obtain ⟨⟨hb9, fs9, hE9⟩, h9⟩ := h9 n1 u1 E1 hM
  refine T_aload_n (pc := 1238) (x := mo) dL_law_1238 rfl rfl ?_
  refine T_callV (pc := 1239) (st := [.int v]) (As := []) (q' := qX9_enough) dL_law_1239 mX9_enough lL_166 rfl hb9 hE9 rfl rfl (by decide) (by show (1 : Nat) ≤ 8; omega) rfl h9 ?_
  rintro _ n2 u2 E2 ⟨r, rfl, rfl, rfl, hr, hV2⟩
  exact T_icmp_eq (pc := 1242) (x := v) (y := r) (st := []) dL_law_1242 rfl (fun _ => h _ _ _ hV2) (fun hne => absurd hr.symm hne)
end LAW
