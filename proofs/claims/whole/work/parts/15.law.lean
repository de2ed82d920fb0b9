theorem lg_cmp_self (x : Int64) : lg_cmp x x = 0 := by unfold lg_cmp; rw [if_neg (fun h => Int64.lt_irrefl h), if_pos rfl]
section LB
variable {p : Program} {l : Launch} {e : Env} {s : State} {m : MethodId} {args : Array Value} {below : List Frame} {meth : Method} {c : Code} {Q : State → Prop} {gc gm : GE} {b L : Nat} {xs : Nat → Int32} {cells slots : Nat} {hc hm : ST}
def s_feed (hc hm : ST) (a1 : Int32) (a2 : Int32) (a3 : Int32) (a4 : Int32) (a5 : Int32) : Option (ST × ST) :=
  bnd (fX10_feed hc a1 a2 a3 a4 a5) fun r => bnd (fX11_feed hm a1 a2 a3 a4 a5) fun q => if r.1 = q.1 then some (mg hc r.2, q.2) else none
set_option maxRecDepth 100000 in
set_option maxHeartbeats 4000000 in
theorem ca_feed (hT : l.stackTraces = false) (F : FL p s m args meth c gc gm b L xs) {i : Nat} {y : ST × ST} (hi : i + 6 ≤ L) (hs : s_feed hc hm (xs (i + 1)) (xs (i + 2)) (xs (i + 3)) (xs (i + 4)) (xs (i + 5)) = some y) (hce : cells + 3 ≤ 601024 ∧ slots + 18 ≤ 7293034)
    (kk : VL p l e s m args below meth c Q gc gm (cells + 3) (slots + 18) y.1 y.2 2250 [(0, .ref b), (1, .ref (gA gc 0)), (2, .ref (gA gm 0)), (3, .ref (gA gc 395)), (4, .int (nI i))] []) : VL p l e s m args below meth c Q gc gm cells slots hc hm 208 [(0, .ref b), (1, .ref (gA gc 0)), (2, .ref (gA gm 0)), (3, .ref (gA gc 395)), (4, .int (nI i))] [] := by
  unfold s_feed at hs
  obtain ⟨r, e1, hs⟩ := bnd_some hs
  obtain ⟨q, e2, hs⟩ := bnd_some hs
  by_cases hq : r.1 = q.1
  rotate_left
  · cases ite_f hs hq
  have hs := Option.some.inj (ite_t hs hq)
  subst hs
  refine VL_widen (c' := cells + 3) (s' := slots + 18) (by omega) (by omega) ?_
  refine l_aload_n (pc := 208) (j := 1) F dL_law_208 rfl rfl ?_
  refine l_arg (pc := 209) (i := i) (k := 1) (j4 := 4) F rfl rfl (by omega) rfl rfl ic_1 dL_law_209 dL_law_210 dL_law_212 dL_law_213 dL_law_214 ?_
  refine l_arg (pc := 215) (i := i) (k := 2) (j4 := 4) F rfl rfl (by omega) rfl rfl ic_2 dL_law_215 dL_law_216 dL_law_218 dL_law_219 dL_law_220 ?_
  refine l_arg (pc := 221) (i := i) (k := 3) (j4 := 4) F rfl rfl (by omega) rfl rfl ic_3 dL_law_221 dL_law_222 dL_law_224 dL_law_225 dL_law_226 ?_
  refine l_arg (pc := 227) (i := i) (k := 4) (j4 := 4) F rfl rfl (by omega) rfl rfl ic_4 dL_law_227 dL_law_228 dL_law_230 dL_law_231 dL_law_232 ?_
  refine l_arg (pc := 233) (i := i) (k := 5) (j4 := 4) F rfl rfl (by omega) rfl rfl ic_5 dL_law_233 dL_law_234 dL_law_236 dL_law_237 dL_law_238 ?_
  refine l_callC (pc := 239) (As := [.int (xs (i + 1)), .int (xs (i + 2)), .int (xs (i + 3)), .int (xs (i + 4)), .int (xs (i + 5))]) F cl_L_104 dL_law_239 (kX10_feed e1) rfl rfl rfl (Nat.le_of_ble_eq_true rfl) (by decide) hce ?_
  refine l_aload_n (pc := 242) (j := 2) F dL_law_242 rfl rfl ?_
  refine l_arg (pc := 243) (i := i) (k := 1) (j4 := 4) F rfl rfl (by omega) rfl rfl ic_1 dL_law_243 dL_law_244 dL_law_246 dL_law_247 dL_law_248 ?_
  refine l_arg (pc := 249) (i := i) (k := 2) (j4 := 4) F rfl rfl (by omega) rfl rfl ic_2 dL_law_249 dL_law_250 dL_law_252 dL_law_253 dL_law_254 ?_
  refine l_arg (pc := 255) (i := i) (k := 3) (j4 := 4) F rfl rfl (by omega) rfl rfl ic_3 dL_law_255 dL_law_256 dL_law_258 dL_law_259 dL_law_260 ?_
  refine l_arg (pc := 261) (i := i) (k := 4) (j4 := 4) F rfl rfl (by omega) rfl rfl ic_4 dL_law_261 dL_law_262 dL_law_264 dL_law_265 dL_law_266 ?_
  refine l_arg (pc := 267) (i := i) (k := 5) (j4 := 4) F rfl rfl (by omega) rfl rfl ic_5 dL_law_267 dL_law_268 dL_law_270 dL_law_271 dL_law_272 ?_
  refine l_callM (pc := 273) (As := [.int (xs (i + 1)), .int (xs (i + 2)), .int (xs (i + 3)), .int (xs (i + 4)), .int (xs (i + 5))]) F cl_L_108 dL_law_273 (kX11_feed e2) rfl rfl rfl (Nat.le_of_ble_eq_true rfl) (by decide) hce ?_
  exact l_icmp_eq (pc := 276) (tgt := 2250) F dL_law_276 (by decide) (fun _ => kk) (fun q9 => absurd hq q9)
theorem clw_L_parish : CLW 109 yL_parish cL_parish 4 [(0, 9, 12, 13)] 3 := ⟨tw_559, tw_0, tw_561, by decide, by decide +kernel, by decide +kernel, by decide +kernel, tw_560⟩
def s_parish (hc hm : ST) (a1 : Int32) : Option (ST × ST) :=
  bnd (fL_parish hc a1) fun r => bnd (fX11_parish hm a1) fun q => bnd (fX11_thrown q.2) fun t => if t = r.1 then (if r.1 = 0 then (if r.2 395 0 = q.1 then some (r.2, q.2) else none) else some (r.2, q.2)) else none
set_option maxRecDepth 100000 in
set_option maxHeartbeats 4000000 in
theorem ca_parish (hT : l.stackTraces = false) (F : FL p s m args meth c gc gm b L xs) {i : Nat} {y : ST × ST} (hi : i + 6 ≤ L) (hs : s_parish hc hm (xs (i + 1)) = some y) (hce : cells + 3 ≤ 601024 ∧ slots + 18 ≤ 7293034)
    (kk : VL p l e s m args below meth c Q gc gm (cells + 3) (slots + 18) y.1 y.2 2250 [(0, .ref b), (1, .ref (gA gc 0)), (2, .ref (gA gm 0)), (3, .ref (gA gc 395)), (4, .int (nI i))] []) : VL p l e s m args below meth c Q gc gm cells slots hc hm 281 [(0, .ref b), (1, .ref (gA gc 0)), (2, .ref (gA gm 0)), (3, .ref (gA gc 395)), (4, .int (nI i))] [] := by
  unfold s_parish at hs
  obtain ⟨r, e1, hs⟩ := bnd_some hs
  obtain ⟨q, e2, hs⟩ := bnd_some hs
  obtain ⟨t, e3, hs⟩ := bnd_some hs
  by_cases hq : t = r.1
  rotate_left
  · cases ite_f hs hq
  have hs := ite_t hs hq
  refine l_aload_n (pc := 281) (j := 1) F dL_law_281 rfl rfl ?_
  refine l_arg (pc := 282) (i := i) (k := 1) (j4 := 4) F rfl rfl (by omega) rfl rfl ic_1 dL_law_282 dL_law_283 dL_law_285 dL_law_286 dL_law_287 ?_
  refine l_aload_n (pc := 288) (j := 3) F dL_law_288 rfl rfl ?_
  refine l_callW (pc := 289) (As := [.ref (gA gc 0), .int (xs (i + 1)), .ref (gA gc 395)]) F clw_L_parish dL_law_289 (kL_parish hT e1) rfl rfl (Nat.le_of_ble_eq_true rfl) (by decide) (by decide) hce ?_
  refine l_istore (pc := 292) (lv' := [(0, .ref b), (1, .ref (gA gc 0)), (2, .ref (gA gm 0)), (3, .ref (gA gc 395)), (4, .int (nI i)), (5, .int r.1)]) F dL_law_292 (by decide) rfl ?_
  refine l_aload_n (pc := 294) (j := 2) F dL_law_294 rfl rfl ?_
  refine l_arg (pc := 295) (i := i) (k := 1) (j4 := 4) F rfl rfl (by omega) rfl rfl ic_1 dL_law_295 dL_law_296 dL_law_298 dL_law_299 dL_law_300 ?_
  refine l_callM (pc := 301) (As := [.int (xs (i + 1))]) F cl_L_114 dL_law_301 (kX11_parish e2) rfl rfl rfl (Nat.le_of_ble_eq_true rfl) (by decide) ⟨by omega, by omega⟩ ?_
  refine l_istore (pc := 304) (lv' := [(0, .ref b), (1, .ref (gA gc 0)), (2, .ref (gA gm 0)), (3, .ref (gA gc 395)), (4, .int (nI i)), (5, .int r.1), (6, .int q.1)]) F dL_law_304 (by decide) rfl ?_
  refine l_aload_n (pc := 306) (j := 2) F dL_law_306 rfl rfl ?_
  refine l_callM (pc := 307) (As := []) F cl_L_115 dL_law_307 (kX11_thrown e3) rfl rfl rfl (Nat.le_of_ble_eq_true rfl) (by decide) ⟨by omega, by omega⟩ ?_
  refine l_iload (pc := 310) (j := 5) F dL_law_310 rfl ?_
  refine l_icmp_eq (pc := 312) (tgt := 317) F dL_law_312 (by decide) (fun _ => ?_) (fun q9 => absurd hq q9)
  refine l_iload (pc := 317) (j := 5) F dL_law_317 rfl ?_
  refine l_if_ne (pc := 319) (tgt := 334) F dL_law_319 (by decide) (fun hz => ?_) (fun hz => ?_)
  · have hs := Option.some.inj (ite_f hs hz)
    subst hs
    refine l_goto (pc := 334) (tgt := 2250) F dL_law_334 (by decide) ?_
    exact VL_sub [0, 1, 2, 3, 4] rfl kk
  · have hs := ite_t hs hz
    by_cases hv : r.2 395 0 = q.1
    · have hs := Option.some.inj (ite_t hs hv)
      subst hs
      refine l_aload_n (pc := 322) (j := 3) F dL_law_322 rfl rfl ?_
      refine l_iconst (pc := 323) (v := 0) F dL_law_323 ic_0 ?_
      refine l_lald (pc := 324) F dL_law_324 ?_
      refine l_iload (pc := 325) (j := 6) F dL_law_325 rfl ?_
      refine l_i2l (pc := 327) F dL_law_327 rfl ?_
      refine l_lcmp (pc := 328) F dL_law_328 ?_
      refine l_if_eq (pc := 329) (tgt := 334) F dL_law_329 (by decide) (fun _ => ?_) (fun q9 => absurd (by rw [hv]; exact lg_cmp_self _) q9)
      refine l_goto (pc := 334) (tgt := 2250) F dL_law_334 (by decide) ?_
      exact VL_sub [0, 1, 2, 3, 4] rfl kk
    · cases ite_f hs hv
def s_fault (hc hm : ST) : Option (ST × ST) :=
  bnd (fX10_fault hc) fun r => bnd (fX11_fault hm) fun q => if r = q.1 then some (mg hc hc, q.2) else none
set_option maxRecDepth 100000 in
set_option maxHeartbeats 4000000 in
theorem ca_fault (hT : l.stackTraces = false) (F : FL p s m args meth c gc gm b L xs) {i : Nat} {y : ST × ST} (hi : i + 6 ≤ L) (hs : s_fault hc hm = some y) (hce : cells + 3 ≤ 601024 ∧ slots + 18 ≤ 7293034)
    (kk : VL p l e s m args below meth c Q gc gm (cells + 3) (slots + 18) y.1 y.2 2250 [(0, .ref b), (1, .ref (gA gc 0)), (2, .ref (gA gm 0)), (3, .ref (gA gc 395)), (4, .int (nI i))] []) : VL p l e s m args below meth c Q gc gm cells slots hc hm 337 [(0, .ref b), (1, .ref (gA gc 0)), (2, .ref (gA gm 0)), (3, .ref (gA gc 395)), (4, .int (nI i))] [] := by
  unfold s_fault at hs
  obtain ⟨r, e1, hs⟩ := bnd_some hs
  obtain ⟨q, e2, hs⟩ := bnd_some hs
  by_cases hq : r = q.1
  rotate_left
  · cases ite_f hs hq
  have hs := Option.some.inj (ite_t hs hq)
  subst hs
  refine VL_widen (c' := cells + 3) (s' := slots + 18) (by omega) (by omega) ?_
  refine l_aload_n (pc := 337) (j := 1) F dL_law_337 rfl rfl ?_
  refine l_callC (pc := 338) (As := []) F cl_L_119 dL_law_338 (kX10_fault e1) rfl rfl rfl (Nat.le_of_ble_eq_true rfl) (by decide) hce ?_
  refine l_aload_n (pc := 341) (j := 2) F dL_law_341 rfl rfl ?_
  refine l_callM (pc := 342) (As := []) F cl_L_122 dL_law_342 (kX11_fault e2) rfl rfl rfl (Nat.le_of_ble_eq_true rfl) (by decide) hce ?_
  exact l_icmp_eq (pc := 345) (tgt := 2250) F dL_law_345 (by decide) (fun _ => kk) (fun q9 => absurd hq q9)
theorem clw_L_count : CLW 123 yL_count cL_count 4 [(0, 9, 12, 18)] 3 := ⟨tw_928, tw_0, tw_930, by decide, by decide +kernel, by decide +kernel, by decide +kernel, tw_929⟩
def s_count (hc hm : ST) (a1 : Int32) : Option (ST × ST) :=
  bnd (fL_count hc a1) fun r => bnd (fX11_count hm a1) fun q => bnd (fX11_thrown q.2) fun t => if t = r.1 then (if r.1 = 0 then (if r.2 395 0 = q.1 then some (r.2, q.2) else none) else some (r.2, q.2)) else none
set_option maxRecDepth 100000 in
set_option maxHeartbeats 4000000 in
theorem ca_count (hT : l.stackTraces = false) (F : FL p s m args meth c gc gm b L xs) {i : Nat} {y : ST × ST} (hi : i + 6 ≤ L) (hs : s_count hc hm (xs (i + 1)) = some y) (hce : cells + 3 ≤ 601024 ∧ slots + 18 ≤ 7293034)
    (kk : VL p l e s m args below meth c Q gc gm (cells + 3) (slots + 18) y.1 y.2 2250 [(0, .ref b), (1, .ref (gA gc 0)), (2, .ref (gA gm 0)), (3, .ref (gA gc 395)), (4, .int (nI i))] []) : VL p l e s m args below meth c Q gc gm cells slots hc hm 350 [(0, .ref b), (1, .ref (gA gc 0)), (2, .ref (gA gm 0)), (3, .ref (gA gc 395)), (4, .int (nI i))] [] := by
  unfold s_count at hs
  obtain ⟨r, e1, hs⟩ := bnd_some hs
  obtain ⟨q, e2, hs⟩ := bnd_some hs
  obtain ⟨t, e3, hs⟩ := bnd_some hs
  by_cases hq : t = r.1
  rotate_left
  · cases ite_f hs hq
  have hs := ite_t hs hq
  refine l_aload_n (pc := 350) (j := 1) F dL_law_350 rfl rfl ?_
  refine l_arg (pc := 351) (i := i) (k := 1) (j4 := 4) F rfl rfl (by omega) rfl rfl ic_1 dL_law_351 dL_law_352 dL_law_354 dL_law_355 dL_law_356 ?_
  refine l_aload_n (pc := 357) (j := 3) F dL_law_357 rfl rfl ?_
  refine l_callW (pc := 358) (As := [.ref (gA gc 0), .int (xs (i + 1)), .ref (gA gc 395)]) F clw_L_count dL_law_358 (kL_count hT e1) rfl rfl (Nat.le_of_ble_eq_true rfl) (by decide) (by decide) hce ?_
  refine l_istore (pc := 361) (lv' := [(0, .ref b), (1, .ref (gA gc 0)), (2, .ref (gA gm 0)), (3, .ref (gA gc 395)), (4, .int (nI i)), (5, .int r.1)]) F dL_law_361 (by decide) rfl ?_
  refine l_aload_n (pc := 363) (j := 2) F dL_law_363 rfl rfl ?_
  refine l_arg (pc := 364) (i := i) (k := 1) (j4 := 4) F rfl rfl (by omega) rfl rfl ic_1 dL_law_364 dL_law_365 dL_law_367 dL_law_368 dL_law_369 ?_
  refine l_callM (pc := 370) (As := [.int (xs (i + 1))]) F cl_L_125 dL_law_370 (kX11_count e2) rfl rfl rfl (Nat.le_of_ble_eq_true rfl) (by decide) ⟨by omega, by omega⟩ ?_
  refine l_istore (pc := 373) (lv' := [(0, .ref b), (1, .ref (gA gc 0)), (2, .ref (gA gm 0)), (3, .ref (gA gc 395)), (4, .int (nI i)), (5, .int r.1), (6, .int q.1)]) F dL_law_373 (by decide) rfl ?_
  refine l_aload_n (pc := 375) (j := 2) F dL_law_375 rfl rfl ?_
  refine l_callM (pc := 376) (As := []) F cl_L_115 dL_law_376 (kX11_thrown e3) rfl rfl rfl (Nat.le_of_ble_eq_true rfl) (by decide) ⟨by omega, by omega⟩ ?_
  refine l_iload (pc := 379) (j := 5) F dL_law_379 rfl ?_
  refine l_icmp_eq (pc := 381) (tgt := 386) F dL_law_381 (by decide) (fun _ => ?_) (fun q9 => absurd hq q9)
  refine l_iload (pc := 386) (j := 5) F dL_law_386 rfl ?_
  refine l_if_ne (pc := 388) (tgt := 403) F dL_law_388 (by decide) (fun hz => ?_) (fun hz => ?_)
  · have hs := Option.some.inj (ite_f hs hz)
    subst hs
    refine l_goto (pc := 403) (tgt := 2250) F dL_law_403 (by decide) ?_
    exact VL_sub [0, 1, 2, 3, 4] rfl kk
  · have hs := ite_t hs hz
    by_cases hv : r.2 395 0 = q.1
    · have hs := Option.some.inj (ite_t hs hv)
      subst hs
      refine l_aload_n (pc := 391) (j := 3) F dL_law_391 rfl rfl ?_
      refine l_iconst (pc := 392) (v := 0) F dL_law_392 ic_0 ?_
      refine l_lald (pc := 393) F dL_law_393 ?_
      refine l_iload (pc := 394) (j := 6) F dL_law_394 rfl ?_
      refine l_i2l (pc := 396) F dL_law_396 rfl ?_
      refine l_lcmp (pc := 397) F dL_law_397 ?_
      refine l_if_eq (pc := 398) (tgt := 403) F dL_law_398 (by decide) (fun _ => ?_) (fun q9 => absurd (by rw [hv]; exact lg_cmp_self _) q9)
      refine l_goto (pc := 403) (tgt := 2250) F dL_law_403 (by decide) ?_
      exact VL_sub [0, 1, 2, 3, 4] rfl kk
    · cases ite_f hs hv
theorem clw_L_room : CLW 126 yL_room cL_room 5 [(0, 10, 13, 18)] 4 := ⟨tw_954, tw_0, tw_956, by decide, by decide +kernel, by decide +kernel, by decide +kernel, tw_955⟩
def s_room (hc hm : ST) (a1 : Int32) (a2 : Int32) : Option (ST × ST) :=
  bnd (fL_room hc a1 a2) fun r => bnd (fX11_room hm a1 a2) fun q => bnd (fX11_thrown q.2) fun t => if t = r.1 then (if r.1 = 0 then (if r.2 395 0 = q.1 then some (r.2, q.2) else none) else some (r.2, q.2)) else none
set_option maxRecDepth 100000 in
set_option maxHeartbeats 4000000 in
theorem ca_room (hT : l.stackTraces = false) (F : FL p s m args meth c gc gm b L xs) {i : Nat} {y : ST × ST} (hi : i + 6 ≤ L) (hs : s_room hc hm (xs (i + 1)) (xs (i + 2)) = some y) (hce : cells + 3 ≤ 601024 ∧ slots + 18 ≤ 7293034)
    (kk : VL p l e s m args below meth c Q gc gm (cells + 3) (slots + 18) y.1 y.2 2250 [(0, .ref b), (1, .ref (gA gc 0)), (2, .ref (gA gm 0)), (3, .ref (gA gc 395)), (4, .int (nI i))] []) : VL p l e s m args below meth c Q gc gm cells slots hc hm 406 [(0, .ref b), (1, .ref (gA gc 0)), (2, .ref (gA gm 0)), (3, .ref (gA gc 395)), (4, .int (nI i))] [] := by
  unfold s_room at hs
  obtain ⟨r, e1, hs⟩ := bnd_some hs
  obtain ⟨q, e2, hs⟩ := bnd_some hs
  obtain ⟨t, e3, hs⟩ := bnd_some hs
  by_cases hq : t = r.1
  rotate_left
  · cases ite_f hs hq
  have hs := ite_t hs hq
  refine l_aload_n (pc := 406) (j := 1) F dL_law_406 rfl rfl ?_
  refine l_arg (pc := 407) (i := i) (k := 1) (j4 := 4) F rfl rfl (by omega) rfl rfl ic_1 dL_law_407 dL_law_408 dL_law_410 dL_law_411 dL_law_412 ?_
  refine l_arg (pc := 413) (i := i) (k := 2) (j4 := 4) F rfl rfl (by omega) rfl rfl ic_2 dL_law_413 dL_law_414 dL_law_416 dL_law_417 dL_law_418 ?_
  refine l_aload_n (pc := 419) (j := 3) F dL_law_419 rfl rfl ?_
  refine l_callW (pc := 420) (As := [.ref (gA gc 0), .int (xs (i + 1)), .int (xs (i + 2)), .ref (gA gc 395)]) F clw_L_room dL_law_420 (kL_room hT e1) rfl rfl (Nat.le_of_ble_eq_true rfl) (by decide) (by decide) hce ?_
  refine l_istore (pc := 423) (lv' := [(0, .ref b), (1, .ref (gA gc 0)), (2, .ref (gA gm 0)), (3, .ref (gA gc 395)), (4, .int (nI i)), (5, .int r.1)]) F dL_law_423 (by decide) rfl ?_
  refine l_aload_n (pc := 425) (j := 2) F dL_law_425 rfl rfl ?_
  refine l_arg (pc := 426) (i := i) (k := 1) (j4 := 4) F rfl rfl (by omega) rfl rfl ic_1 dL_law_426 dL_law_427 dL_law_429 dL_law_430 dL_law_431 ?_
  refine l_arg (pc := 432) (i := i) (k := 2) (j4 := 4) F rfl rfl (by omega) rfl rfl ic_2 dL_law_432 dL_law_433 dL_law_435 dL_law_436 dL_law_437 ?_
  refine l_callM (pc := 438) (As := [.int (xs (i + 1)), .int (xs (i + 2))]) F cl_L_129 dL_law_438 (kX11_room e2) rfl rfl rfl (Nat.le_of_ble_eq_true rfl) (by decide) ⟨by omega, by omega⟩ ?_
  refine l_istore (pc := 441) (lv' := [(0, .ref b), (1, .ref (gA gc 0)), (2, .ref (gA gm 0)), (3, .ref (gA gc 395)), (4, .int (nI i)), (5, .int r.1), (6, .int q.1)]) F dL_law_441 (by decide) rfl ?_
  refine l_aload_n (pc := 443) (j := 2) F dL_law_443 rfl rfl ?_
  refine l_callM (pc := 444) (As := []) F cl_L_115 dL_law_444 (kX11_thrown e3) rfl rfl rfl (Nat.le_of_ble_eq_true rfl) (by decide) ⟨by omega, by omega⟩ ?_
  refine l_iload (pc := 447) (j := 5) F dL_law_447 rfl ?_
  refine l_icmp_eq (pc := 449) (tgt := 454) F dL_law_449 (by decide) (fun _ => ?_) (fun q9 => absurd hq q9)
  refine l_iload (pc := 454) (j := 5) F dL_law_454 rfl ?_
  refine l_if_ne (pc := 456) (tgt := 471) F dL_law_456 (by decide) (fun hz => ?_) (fun hz => ?_)
  · have hs := Option.some.inj (ite_f hs hz)
    subst hs
    refine l_goto (pc := 471) (tgt := 2250) F dL_law_471 (by decide) ?_
    exact VL_sub [0, 1, 2, 3, 4] rfl kk
  · have hs := ite_t hs hz
    by_cases hv : r.2 395 0 = q.1
    · have hs := Option.some.inj (ite_t hs hv)
      subst hs
      refine l_aload_n (pc := 459) (j := 3) F dL_law_459 rfl rfl ?_
      refine l_iconst (pc := 460) (v := 0) F dL_law_460 ic_0 ?_
      refine l_lald (pc := 461) F dL_law_461 ?_
      refine l_iload (pc := 462) (j := 6) F dL_law_462 rfl ?_
      refine l_i2l (pc := 464) F dL_law_464 rfl ?_
      refine l_lcmp (pc := 465) F dL_law_465 ?_
      refine l_if_eq (pc := 466) (tgt := 471) F dL_law_466 (by decide) (fun _ => ?_) (fun q9 => absurd (by rw [hv]; exact lg_cmp_self _) q9)
      refine l_goto (pc := 471) (tgt := 2250) F dL_law_471 (by decide) ?_
      exact VL_sub [0, 1, 2, 3, 4] rfl kk
    · cases ite_f hs hv
theorem clw_L_far : CLW 130 yL_far cL_far 5 [(0, 10, 13, 18)] 4 := ⟨tw_970, tw_0, tw_972, by decide, by decide +kernel, by decide +kernel, by decide +kernel, tw_971⟩
def s_far (hc hm : ST) (a1 : Int32) (a2 : Int32) : Option (ST × ST) :=
  bnd (fL_far hc a1 a2) fun r => bnd (fX11_far hm a1 a2) fun q => bnd (fX11_thrown q.2) fun t => if t = r.1 then (if r.1 = 0 then (if r.2 395 0 = q.1 then some (r.2, q.2) else none) else some (r.2, q.2)) else none
set_option maxRecDepth 100000 in
set_option maxHeartbeats 4000000 in
theorem ca_far (hT : l.stackTraces = false) (F : FL p s m args meth c gc gm b L xs) {i : Nat} {y : ST × ST} (hi : i + 6 ≤ L) (hs : s_far hc hm (xs (i + 1)) (xs (i + 2)) = some y) (hce : cells + 3 ≤ 601024 ∧ slots + 18 ≤ 7293034)
    (kk : VL p l e s m args below meth c Q gc gm (cells + 3) (slots + 18) y.1 y.2 2250 [(0, .ref b), (1, .ref (gA gc 0)), (2, .ref (gA gm 0)), (3, .ref (gA gc 395)), (4, .int (nI i))] []) : VL p l e s m args below meth c Q gc gm cells slots hc hm 474 [(0, .ref b), (1, .ref (gA gc 0)), (2, .ref (gA gm 0)), (3, .ref (gA gc 395)), (4, .int (nI i))] [] := by
  unfold s_far at hs
  obtain ⟨r, e1, hs⟩ := bnd_some hs
  obtain ⟨q, e2, hs⟩ := bnd_some hs
  obtain ⟨t, e3, hs⟩ := bnd_some hs
  by_cases hq : t = r.1
  rotate_left
  · cases ite_f hs hq
  have hs := ite_t hs hq
  refine l_aload_n (pc := 474) (j := 1) F dL_law_474 rfl rfl ?_
  refine l_arg (pc := 475) (i := i) (k := 1) (j4 := 4) F rfl rfl (by omega) rfl rfl ic_1 dL_law_475 dL_law_476 dL_law_478 dL_law_479 dL_law_480 ?_
  refine l_arg (pc := 481) (i := i) (k := 2) (j4 := 4) F rfl rfl (by omega) rfl rfl ic_2 dL_law_481 dL_law_482 dL_law_484 dL_law_485 dL_law_486 ?_
  refine l_aload_n (pc := 487) (j := 3) F dL_law_487 rfl rfl ?_
  refine l_callW (pc := 488) (As := [.ref (gA gc 0), .int (xs (i + 1)), .int (xs (i + 2)), .ref (gA gc 395)]) F clw_L_far dL_law_488 (kL_far hT e1) rfl rfl (Nat.le_of_ble_eq_true rfl) (by decide) (by decide) hce ?_
  refine l_istore (pc := 491) (lv' := [(0, .ref b), (1, .ref (gA gc 0)), (2, .ref (gA gm 0)), (3, .ref (gA gc 395)), (4, .int (nI i)), (5, .int r.1)]) F dL_law_491 (by decide) rfl ?_
  refine l_aload_n (pc := 493) (j := 2) F dL_law_493 rfl rfl ?_
  refine l_arg (pc := 494) (i := i) (k := 1) (j4 := 4) F rfl rfl (by omega) rfl rfl ic_1 dL_law_494 dL_law_495 dL_law_497 dL_law_498 dL_law_499 ?_
  refine l_arg (pc := 500) (i := i) (k := 2) (j4 := 4) F rfl rfl (by omega) rfl rfl ic_2 dL_law_500 dL_law_501 dL_law_503 dL_law_504 dL_law_505 ?_
  refine l_callM (pc := 506) (As := [.int (xs (i + 1)), .int (xs (i + 2))]) F cl_L_132 dL_law_506 (kX11_far e2) rfl rfl rfl (Nat.le_of_ble_eq_true rfl) (by decide) ⟨by omega, by omega⟩ ?_
  refine l_istore (pc := 509) (lv' := [(0, .ref b), (1, .ref (gA gc 0)), (2, .ref (gA gm 0)), (3, .ref (gA gc 395)), (4, .int (nI i)), (5, .int r.1), (6, .int q.1)]) F dL_law_509 (by decide) rfl ?_
  refine l_aload_n (pc := 511) (j := 2) F dL_law_511 rfl rfl ?_
  refine l_callM (pc := 512) (As := []) F cl_L_115 dL_law_512 (kX11_thrown e3) rfl rfl rfl (Nat.le_of_ble_eq_true rfl) (by decide) ⟨by omega, by omega⟩ ?_
  refine l_iload (pc := 515) (j := 5) F dL_law_515 rfl ?_
  refine l_icmp_eq (pc := 517) (tgt := 522) F dL_law_517 (by decide) (fun _ => ?_) (fun q9 => absurd hq q9)
  refine l_iload (pc := 522) (j := 5) F dL_law_522 rfl ?_
  refine l_if_ne (pc := 524) (tgt := 539) F dL_law_524 (by decide) (fun hz => ?_) (fun hz => ?_)
  · have hs := Option.some.inj (ite_f hs hz)
    subst hs
    refine l_goto (pc := 539) (tgt := 2250) F dL_law_539 (by decide) ?_
    exact VL_sub [0, 1, 2, 3, 4] rfl kk
  · have hs := ite_t hs hz
    by_cases hv : r.2 395 0 = q.1
    · have hs := Option.some.inj (ite_t hs hv)
      subst hs
      refine l_aload_n (pc := 527) (j := 3) F dL_law_527 rfl rfl ?_
      refine l_iconst (pc := 528) (v := 0) F dL_law_528 ic_0 ?_
      refine l_lald (pc := 529) F dL_law_529 ?_
      refine l_iload (pc := 530) (j := 6) F dL_law_530 rfl ?_
      refine l_i2l (pc := 532) F dL_law_532 rfl ?_
      refine l_lcmp (pc := 533) F dL_law_533 ?_
      refine l_if_eq (pc := 534) (tgt := 539) F dL_law_534 (by decide) (fun _ => ?_) (fun q9 => absurd (by rw [hv]; exact lg_cmp_self _) q9)
      refine l_goto (pc := 539) (tgt := 2250) F dL_law_539 (by decide) ?_
      exact VL_sub [0, 1, 2, 3, 4] rfl kk
    · cases ite_f hs hv
theorem clw_L_near : CLW 133 yL_near cL_near 5 [(0, 10, 13, 18)] 4 := ⟨tw_981, tw_0, tw_983, by decide, by decide +kernel, by decide +kernel, by decide +kernel, tw_982⟩
def s_near (hc hm : ST) (a1 : Int32) (a2 : Int32) : Option (ST × ST) :=
  bnd (fL_near hc a1 a2) fun r => bnd (fX11_near hm a1 a2) fun q => bnd (fX11_thrown q.2) fun t => if t = r.1 then (if r.1 = 0 then (if r.2 395 0 = q.1 then some (r.2, q.2) else none) else some (r.2, q.2)) else none
set_option maxRecDepth 100000 in
set_option maxHeartbeats 4000000 in
theorem ca_near (hT : l.stackTraces = false) (F : FL p s m args meth c gc gm b L xs) {i : Nat} {y : ST × ST} (hi : i + 6 ≤ L) (hs : s_near hc hm (xs (i + 1)) (xs (i + 2)) = some y) (hce : cells + 3 ≤ 601024 ∧ slots + 18 ≤ 7293034)
    (kk : VL p l e s m args below meth c Q gc gm (cells + 3) (slots + 18) y.1 y.2 2250 [(0, .ref b), (1, .ref (gA gc 0)), (2, .ref (gA gm 0)), (3, .ref (gA gc 395)), (4, .int (nI i))] []) : VL p l e s m args below meth c Q gc gm cells slots hc hm 542 [(0, .ref b), (1, .ref (gA gc 0)), (2, .ref (gA gm 0)), (3, .ref (gA gc 395)), (4, .int (nI i))] [] := by
  unfold s_near at hs
  obtain ⟨r, e1, hs⟩ := bnd_some hs
  obtain ⟨q, e2, hs⟩ := bnd_some hs
  obtain ⟨t, e3, hs⟩ := bnd_some hs
  by_cases hq : t = r.1
  rotate_left
  · cases ite_f hs hq
  have hs := ite_t hs hq
  refine l_aload_n (pc := 542) (j := 1) F dL_law_542 rfl rfl ?_
  refine l_arg (pc := 543) (i := i) (k := 1) (j4 := 4) F rfl rfl (by omega) rfl rfl ic_1 dL_law_543 dL_law_544 dL_law_546 dL_law_547 dL_law_548 ?_
  refine l_arg (pc := 549) (i := i) (k := 2) (j4 := 4) F rfl rfl (by omega) rfl rfl ic_2 dL_law_549 dL_law_550 dL_law_552 dL_law_553 dL_law_554 ?_
  refine l_aload_n (pc := 555) (j := 3) F dL_law_555 rfl rfl ?_
  refine l_callW (pc := 556) (As := [.ref (gA gc 0), .int (xs (i + 1)), .int (xs (i + 2)), .ref (gA gc 395)]) F clw_L_near dL_law_556 (kL_near hT e1) rfl rfl (Nat.le_of_ble_eq_true rfl) (by decide) (by decide) hce ?_
  refine l_istore (pc := 559) (lv' := [(0, .ref b), (1, .ref (gA gc 0)), (2, .ref (gA gm 0)), (3, .ref (gA gc 395)), (4, .int (nI i)), (5, .int r.1)]) F dL_law_559 (by decide) rfl ?_
  refine l_aload_n (pc := 561) (j := 2) F dL_law_561 rfl rfl ?_
  refine l_arg (pc := 562) (i := i) (k := 1) (j4 := 4) F rfl rfl (by omega) rfl rfl ic_1 dL_law_562 dL_law_563 dL_law_565 dL_law_566 dL_law_567 ?_
  refine l_arg (pc := 568) (i := i) (k := 2) (j4 := 4) F rfl rfl (by omega) rfl rfl ic_2 dL_law_568 dL_law_569 dL_law_571 dL_law_572 dL_law_573 ?_
  refine l_callM (pc := 574) (As := [.int (xs (i + 1)), .int (xs (i + 2))]) F cl_L_135 dL_law_574 (kX11_near e2) rfl rfl rfl (Nat.le_of_ble_eq_true rfl) (by decide) ⟨by omega, by omega⟩ ?_
  refine l_istore (pc := 577) (lv' := [(0, .ref b), (1, .ref (gA gc 0)), (2, .ref (gA gm 0)), (3, .ref (gA gc 395)), (4, .int (nI i)), (5, .int r.1), (6, .int q.1)]) F dL_law_577 (by decide) rfl ?_
  refine l_aload_n (pc := 579) (j := 2) F dL_law_579 rfl rfl ?_
  refine l_callM (pc := 580) (As := []) F cl_L_115 dL_law_580 (kX11_thrown e3) rfl rfl rfl (Nat.le_of_ble_eq_true rfl) (by decide) ⟨by omega, by omega⟩ ?_
  refine l_iload (pc := 583) (j := 5) F dL_law_583 rfl ?_
  refine l_icmp_eq (pc := 585) (tgt := 590) F dL_law_585 (by decide) (fun _ => ?_) (fun q9 => absurd hq q9)
  refine l_iload (pc := 590) (j := 5) F dL_law_590 rfl ?_
  refine l_if_ne (pc := 592) (tgt := 607) F dL_law_592 (by decide) (fun hz => ?_) (fun hz => ?_)
  · have hs := Option.some.inj (ite_f hs hz)
    subst hs
    refine l_goto (pc := 607) (tgt := 2250) F dL_law_607 (by decide) ?_
    exact VL_sub [0, 1, 2, 3, 4] rfl kk
  · have hs := ite_t hs hz
    by_cases hv : r.2 395 0 = q.1
    · have hs := Option.some.inj (ite_t hs hv)
      subst hs
      refine l_aload_n (pc := 595) (j := 3) F dL_law_595 rfl rfl ?_
      refine l_iconst (pc := 596) (v := 0) F dL_law_596 ic_0 ?_
      refine l_lald (pc := 597) F dL_law_597 ?_
      refine l_iload (pc := 598) (j := 6) F dL_law_598 rfl ?_
      refine l_i2l (pc := 600) F dL_law_600 rfl ?_
      refine l_lcmp (pc := 601) F dL_law_601 ?_
      refine l_if_eq (pc := 602) (tgt := 607) F dL_law_602 (by decide) (fun _ => ?_) (fun q9 => absurd (by rw [hv]; exact lg_cmp_self _) q9)
      refine l_goto (pc := 607) (tgt := 2250) F dL_law_607 (by decide) ?_
      exact VL_sub [0, 1, 2, 3, 4] rfl kk
    · cases ite_f hs hv
theorem clw_L_blow : CLW 136 yL_blow cL_blow 6 [(0, 12, 15, 18)] 5 := ⟨tw_988, tw_0, tw_990, by decide, by decide +kernel, by decide +kernel, by decide +kernel, tw_989⟩
def s_blow (hc hm : ST) (a1 : Int32) (a2 : Int32) (a3 : Int32) : Option (ST × ST) :=
  bnd (fL_blow hc a1 a2 a3) fun r => bnd (fX11_blow hm a1 a2 a3) fun q => bnd (fX11_thrown q.2) fun t => if t = r.1 then (if r.1 = 0 then (if r.2 395 0 = q.1 then some (r.2, q.2) else none) else some (r.2, q.2)) else none
set_option maxRecDepth 100000 in
set_option maxHeartbeats 4000000 in
theorem ca_blow (hT : l.stackTraces = false) (F : FL p s m args meth c gc gm b L xs) {i : Nat} {y : ST × ST} (hi : i + 6 ≤ L) (hs : s_blow hc hm (xs (i + 1)) (xs (i + 2)) (xs (i + 3)) = some y) (hce : cells + 3 ≤ 601024 ∧ slots + 18 ≤ 7293034)
    (kk : VL p l e s m args below meth c Q gc gm (cells + 3) (slots + 18) y.1 y.2 2250 [(0, .ref b), (1, .ref (gA gc 0)), (2, .ref (gA gm 0)), (3, .ref (gA gc 395)), (4, .int (nI i))] []) : VL p l e s m args below meth c Q gc gm cells slots hc hm 610 [(0, .ref b), (1, .ref (gA gc 0)), (2, .ref (gA gm 0)), (3, .ref (gA gc 395)), (4, .int (nI i))] [] := by
  unfold s_blow at hs
  obtain ⟨r, e1, hs⟩ := bnd_some hs
  obtain ⟨q, e2, hs⟩ := bnd_some hs
  obtain ⟨t, e3, hs⟩ := bnd_some hs
  by_cases hq : t = r.1
  rotate_left
  · cases ite_f hs hq
  have hs := ite_t hs hq
  refine l_aload_n (pc := 610) (j := 1) F dL_law_610 rfl rfl ?_
  refine l_arg (pc := 611) (i := i) (k := 1) (j4 := 4) F rfl rfl (by omega) rfl rfl ic_1 dL_law_611 dL_law_612 dL_law_614 dL_law_615 dL_law_616 ?_
  refine l_arg (pc := 617) (i := i) (k := 2) (j4 := 4) F rfl rfl (by omega) rfl rfl ic_2 dL_law_617 dL_law_618 dL_law_620 dL_law_621 dL_law_622 ?_
  refine l_arg (pc := 623) (i := i) (k := 3) (j4 := 4) F rfl rfl (by omega) rfl rfl ic_3 dL_law_623 dL_law_624 dL_law_626 dL_law_627 dL_law_628 ?_
  refine l_aload_n (pc := 629) (j := 3) F dL_law_629 rfl rfl ?_
  refine l_callW (pc := 630) (As := [.ref (gA gc 0), .int (xs (i + 1)), .int (xs (i + 2)), .int (xs (i + 3)), .ref (gA gc 395)]) F clw_L_blow dL_law_630 (kL_blow hT e1) rfl rfl (Nat.le_of_ble_eq_true rfl) (by decide) (by decide) hce ?_
  refine l_istore (pc := 633) (lv' := [(0, .ref b), (1, .ref (gA gc 0)), (2, .ref (gA gm 0)), (3, .ref (gA gc 395)), (4, .int (nI i)), (5, .int r.1)]) F dL_law_633 (by decide) rfl ?_
  refine l_aload_n (pc := 635) (j := 2) F dL_law_635 rfl rfl ?_
  refine l_arg (pc := 636) (i := i) (k := 1) (j4 := 4) F rfl rfl (by omega) rfl rfl ic_1 dL_law_636 dL_law_637 dL_law_639 dL_law_640 dL_law_641 ?_
  refine l_arg (pc := 642) (i := i) (k := 2) (j4 := 4) F rfl rfl (by omega) rfl rfl ic_2 dL_law_642 dL_law_643 dL_law_645 dL_law_646 dL_law_647 ?_
  refine l_arg (pc := 648) (i := i) (k := 3) (j4 := 4) F rfl rfl (by omega) rfl rfl ic_3 dL_law_648 dL_law_649 dL_law_651 dL_law_652 dL_law_653 ?_
  refine l_callM (pc := 654) (As := [.int (xs (i + 1)), .int (xs (i + 2)), .int (xs (i + 3))]) F cl_L_139 dL_law_654 (kX11_blow e2) rfl rfl rfl (Nat.le_of_ble_eq_true rfl) (by decide) ⟨by omega, by omega⟩ ?_
  refine l_istore (pc := 657) (lv' := [(0, .ref b), (1, .ref (gA gc 0)), (2, .ref (gA gm 0)), (3, .ref (gA gc 395)), (4, .int (nI i)), (5, .int r.1), (6, .int q.1)]) F dL_law_657 (by decide) rfl ?_
  refine l_aload_n (pc := 659) (j := 2) F dL_law_659 rfl rfl ?_
  refine l_callM (pc := 660) (As := []) F cl_L_115 dL_law_660 (kX11_thrown e3) rfl rfl rfl (Nat.le_of_ble_eq_true rfl) (by decide) ⟨by omega, by omega⟩ ?_
  refine l_iload (pc := 663) (j := 5) F dL_law_663 rfl ?_
  refine l_icmp_eq (pc := 665) (tgt := 670) F dL_law_665 (by decide) (fun _ => ?_) (fun q9 => absurd hq q9)
  refine l_iload (pc := 670) (j := 5) F dL_law_670 rfl ?_
  refine l_if_ne (pc := 672) (tgt := 687) F dL_law_672 (by decide) (fun hz => ?_) (fun hz => ?_)
  · have hs := Option.some.inj (ite_f hs hz)
    subst hs
    refine l_goto (pc := 687) (tgt := 2250) F dL_law_687 (by decide) ?_
    exact VL_sub [0, 1, 2, 3, 4] rfl kk
  · have hs := ite_t hs hz
    by_cases hv : r.2 395 0 = q.1
    · have hs := Option.some.inj (ite_t hs hv)
      subst hs
      refine l_aload_n (pc := 675) (j := 3) F dL_law_675 rfl rfl ?_
      refine l_iconst (pc := 676) (v := 0) F dL_law_676 ic_0 ?_
      refine l_lald (pc := 677) F dL_law_677 ?_
      refine l_iload (pc := 678) (j := 6) F dL_law_678 rfl ?_
      refine l_i2l (pc := 680) F dL_law_680 rfl ?_
      refine l_lcmp (pc := 681) F dL_law_681 ?_
      refine l_if_eq (pc := 682) (tgt := 687) F dL_law_682 (by decide) (fun _ => ?_) (fun q9 => absurd (by rw [hv]; exact lg_cmp_self _) q9)
      refine l_goto (pc := 687) (tgt := 2250) F dL_law_687 (by decide) ?_
      exact VL_sub [0, 1, 2, 3, 4] rfl kk
    · cases ite_f hs hv
theorem clw_L_wind : CLW 140 yL_wind cL_wind 4 [(0, 9, 12, 13)] 3 := ⟨tw_995, tw_0, tw_997, by decide, by decide +kernel, by decide +kernel, by decide +kernel, tw_996⟩
def s_wind (hc hm : ST) (a1 : Int32) : Option (ST × ST) :=
  bnd (fL_wind hc a1) fun r => bnd (fX11_wind hm a1) fun q => bnd (fX11_thrown q.2) fun t => if t = r.1 then (if r.1 = 0 then (if r.2 395 0 = q.1 then some (r.2, q.2) else none) else some (r.2, q.2)) else none
set_option maxRecDepth 100000 in
set_option maxHeartbeats 4000000 in
theorem ca_wind (hT : l.stackTraces = false) (F : FL p s m args meth c gc gm b L xs) {i : Nat} {y : ST × ST} (hi : i + 6 ≤ L) (hs : s_wind hc hm (xs (i + 1)) = some y) (hce : cells + 3 ≤ 601024 ∧ slots + 18 ≤ 7293034)
    (kk : VL p l e s m args below meth c Q gc gm (cells + 3) (slots + 18) y.1 y.2 2250 [(0, .ref b), (1, .ref (gA gc 0)), (2, .ref (gA gm 0)), (3, .ref (gA gc 395)), (4, .int (nI i))] []) : VL p l e s m args below meth c Q gc gm cells slots hc hm 690 [(0, .ref b), (1, .ref (gA gc 0)), (2, .ref (gA gm 0)), (3, .ref (gA gc 395)), (4, .int (nI i))] [] := by
  unfold s_wind at hs
  obtain ⟨r, e1, hs⟩ := bnd_some hs
  obtain ⟨q, e2, hs⟩ := bnd_some hs
  obtain ⟨t, e3, hs⟩ := bnd_some hs
  by_cases hq : t = r.1
  rotate_left
  · cases ite_f hs hq
  have hs := ite_t hs hq
  refine l_aload_n (pc := 690) (j := 1) F dL_law_690 rfl rfl ?_
  refine l_arg (pc := 691) (i := i) (k := 1) (j4 := 4) F rfl rfl (by omega) rfl rfl ic_1 dL_law_691 dL_law_692 dL_law_694 dL_law_695 dL_law_696 ?_
  refine l_aload_n (pc := 697) (j := 3) F dL_law_697 rfl rfl ?_
  refine l_callW (pc := 698) (As := [.ref (gA gc 0), .int (xs (i + 1)), .ref (gA gc 395)]) F clw_L_wind dL_law_698 (kL_wind hT e1) rfl rfl (Nat.le_of_ble_eq_true rfl) (by decide) (by decide) hce ?_
  refine l_istore (pc := 701) (lv' := [(0, .ref b), (1, .ref (gA gc 0)), (2, .ref (gA gm 0)), (3, .ref (gA gc 395)), (4, .int (nI i)), (5, .int r.1)]) F dL_law_701 (by decide) rfl ?_
  refine l_aload_n (pc := 703) (j := 2) F dL_law_703 rfl rfl ?_
  refine l_arg (pc := 704) (i := i) (k := 1) (j4 := 4) F rfl rfl (by omega) rfl rfl ic_1 dL_law_704 dL_law_705 dL_law_707 dL_law_708 dL_law_709 ?_
  refine l_callM (pc := 710) (As := [.int (xs (i + 1))]) F cl_L_142 dL_law_710 (kX11_wind e2) rfl rfl rfl (Nat.le_of_ble_eq_true rfl) (by decide) ⟨by omega, by omega⟩ ?_
  refine l_istore (pc := 713) (lv' := [(0, .ref b), (1, .ref (gA gc 0)), (2, .ref (gA gm 0)), (3, .ref (gA gc 395)), (4, .int (nI i)), (5, .int r.1), (6, .int q.1)]) F dL_law_713 (by decide) rfl ?_
  refine l_aload_n (pc := 715) (j := 2) F dL_law_715 rfl rfl ?_
  refine l_callM (pc := 716) (As := []) F cl_L_115 dL_law_716 (kX11_thrown e3) rfl rfl rfl (Nat.le_of_ble_eq_true rfl) (by decide) ⟨by omega, by omega⟩ ?_
  refine l_iload (pc := 719) (j := 5) F dL_law_719 rfl ?_
  refine l_icmp_eq (pc := 721) (tgt := 726) F dL_law_721 (by decide) (fun _ => ?_) (fun q9 => absurd hq q9)
  refine l_iload (pc := 726) (j := 5) F dL_law_726 rfl ?_
  refine l_if_ne (pc := 728) (tgt := 743) F dL_law_728 (by decide) (fun hz => ?_) (fun hz => ?_)
  · have hs := Option.some.inj (ite_f hs hz)
    subst hs
    refine l_goto (pc := 743) (tgt := 2250) F dL_law_743 (by decide) ?_
    exact VL_sub [0, 1, 2, 3, 4] rfl kk
  · have hs := ite_t hs hz
    by_cases hv : r.2 395 0 = q.1
    · have hs := Option.some.inj (ite_t hs hv)
      subst hs
      refine l_aload_n (pc := 731) (j := 3) F dL_law_731 rfl rfl ?_
      refine l_iconst (pc := 732) (v := 0) F dL_law_732 ic_0 ?_
      refine l_lald (pc := 733) F dL_law_733 ?_
      refine l_iload (pc := 734) (j := 6) F dL_law_734 rfl ?_
      refine l_i2l (pc := 736) F dL_law_736 rfl ?_
      refine l_lcmp (pc := 737) F dL_law_737 ?_
      refine l_if_eq (pc := 738) (tgt := 743) F dL_law_738 (by decide) (fun _ => ?_) (fun q9 => absurd (by rw [hv]; exact lg_cmp_self _) q9)
      refine l_goto (pc := 743) (tgt := 2250) F dL_law_743 (by decide) ?_
      exact VL_sub [0, 1, 2, 3, 4] rfl kk
    · cases ite_f hs hv
def s_days (hc hm : ST) (a1 : Int32) : Option (ST × ST) :=
  bnd (fX10_days hc a1) fun r => bnd (fX11_days hm a1) fun q => if r.1 = q.1 then some (mg hc r.2, q.2) else none
set_option maxRecDepth 100000 in
set_option maxHeartbeats 4000000 in
theorem ca_days (hT : l.stackTraces = false) (F : FL p s m args meth c gc gm b L xs) {i : Nat} {y : ST × ST} (hi : i + 6 ≤ L) (hs : s_days hc hm (xs (i + 1)) = some y) (hce : cells + 3 ≤ 601024 ∧ slots + 18 ≤ 7293034)
    (kk : VL p l e s m args below meth c Q gc gm (cells + 3) (slots + 18) y.1 y.2 2250 [(0, .ref b), (1, .ref (gA gc 0)), (2, .ref (gA gm 0)), (3, .ref (gA gc 395)), (4, .int (nI i))] []) : VL p l e s m args below meth c Q gc gm cells slots hc hm 746 [(0, .ref b), (1, .ref (gA gc 0)), (2, .ref (gA gm 0)), (3, .ref (gA gc 395)), (4, .int (nI i))] [] := by
  unfold s_days at hs
  obtain ⟨r, e1, hs⟩ := bnd_some hs
  obtain ⟨q, e2, hs⟩ := bnd_some hs
  by_cases hq : r.1 = q.1
  rotate_left
  · cases ite_f hs hq
  have hs := Option.some.inj (ite_t hs hq)
  subst hs
  refine VL_widen (c' := cells + 3) (s' := slots + 18) (by omega) (by omega) ?_
  refine l_aload_n (pc := 746) (j := 1) F dL_law_746 rfl rfl ?_
  refine l_arg (pc := 747) (i := i) (k := 1) (j4 := 4) F rfl rfl (by omega) rfl rfl ic_1 dL_law_747 dL_law_748 dL_law_750 dL_law_751 dL_law_752 ?_
  refine l_callC (pc := 753) (As := [.int (xs (i + 1))]) F cl_L_143 dL_law_753 (kX10_days e1) rfl rfl rfl (Nat.le_of_ble_eq_true rfl) (by decide) hce ?_
  refine l_aload_n (pc := 756) (j := 2) F dL_law_756 rfl rfl ?_
  refine l_arg (pc := 757) (i := i) (k := 1) (j4 := 4) F rfl rfl (by omega) rfl rfl ic_1 dL_law_757 dL_law_758 dL_law_760 dL_law_761 dL_law_762 ?_
  refine l_callM (pc := 763) (As := [.int (xs (i + 1))]) F cl_L_146 dL_law_763 (kX11_days e2) rfl rfl rfl (Nat.le_of_ble_eq_true rfl) (by decide) hce ?_
  exact l_icmp_eq (pc := 766) (tgt := 2250) F dL_law_766 (by decide) (fun _ => kk) (fun q9 => absurd hq q9)
theorem clw_L_sweep : CLW 147 yL_sweep cL_sweep 6 [(0, 12, 15, 18)] 5 := ⟨tw_1003, tw_0, tw_1005, by decide, by decide +kernel, by decide +kernel, by decide +kernel, tw_1004⟩
def s_sweep (hc hm : ST) (a1 : Int32) (a2 : Int32) (a3 : Int32) : Option (ST × ST) :=
  bnd (fL_sweep hc a1 a2 a3) fun r => bnd (fX11_sweep hm a1 a2 a3) fun q => bnd (fX11_thrown q.2) fun t => if t = r.1 then (if r.1 = 0 then (if r.2 395 0 = q.1 then some (r.2, q.2) else none) else some (r.2, q.2)) else none
set_option maxRecDepth 100000 in
set_option maxHeartbeats 4000000 in
theorem ca_sweep (hT : l.stackTraces = false) (F : FL p s m args meth c gc gm b L xs) {i : Nat} {y : ST × ST} (hi : i + 6 ≤ L) (hs : s_sweep hc hm (xs (i + 1)) (xs (i + 2)) (xs (i + 3)) = some y) (hce : cells + 3 ≤ 601024 ∧ slots + 18 ≤ 7293034)
    (kk : VL p l e s m args below meth c Q gc gm (cells + 3) (slots + 18) y.1 y.2 2250 [(0, .ref b), (1, .ref (gA gc 0)), (2, .ref (gA gm 0)), (3, .ref (gA gc 395)), (4, .int (nI i))] []) : VL p l e s m args below meth c Q gc gm cells slots hc hm 771 [(0, .ref b), (1, .ref (gA gc 0)), (2, .ref (gA gm 0)), (3, .ref (gA gc 395)), (4, .int (nI i))] [] := by
  unfold s_sweep at hs
  obtain ⟨r, e1, hs⟩ := bnd_some hs
  obtain ⟨q, e2, hs⟩ := bnd_some hs
  obtain ⟨t, e3, hs⟩ := bnd_some hs
  by_cases hq : t = r.1
  rotate_left
  · cases ite_f hs hq
  have hs := ite_t hs hq
  refine l_aload_n (pc := 771) (j := 1) F dL_law_771 rfl rfl ?_
  refine l_arg (pc := 772) (i := i) (k := 1) (j4 := 4) F rfl rfl (by omega) rfl rfl ic_1 dL_law_772 dL_law_773 dL_law_775 dL_law_776 dL_law_777 ?_
  refine l_arg (pc := 778) (i := i) (k := 2) (j4 := 4) F rfl rfl (by omega) rfl rfl ic_2 dL_law_778 dL_law_779 dL_law_781 dL_law_782 dL_law_783 ?_
  refine l_arg (pc := 784) (i := i) (k := 3) (j4 := 4) F rfl rfl (by omega) rfl rfl ic_3 dL_law_784 dL_law_785 dL_law_787 dL_law_788 dL_law_789 ?_
  refine l_aload_n (pc := 790) (j := 3) F dL_law_790 rfl rfl ?_
  refine l_callW (pc := 791) (As := [.ref (gA gc 0), .int (xs (i + 1)), .int (xs (i + 2)), .int (xs (i + 3)), .ref (gA gc 395)]) F clw_L_sweep dL_law_791 (kL_sweep hT e1) rfl rfl (Nat.le_of_ble_eq_true rfl) (by decide) (by decide) hce ?_
  refine l_istore (pc := 794) (lv' := [(0, .ref b), (1, .ref (gA gc 0)), (2, .ref (gA gm 0)), (3, .ref (gA gc 395)), (4, .int (nI i)), (5, .int r.1)]) F dL_law_794 (by decide) rfl ?_
  refine l_aload_n (pc := 796) (j := 2) F dL_law_796 rfl rfl ?_
  refine l_arg (pc := 797) (i := i) (k := 1) (j4 := 4) F rfl rfl (by omega) rfl rfl ic_1 dL_law_797 dL_law_798 dL_law_800 dL_law_801 dL_law_802 ?_
  refine l_arg (pc := 803) (i := i) (k := 2) (j4 := 4) F rfl rfl (by omega) rfl rfl ic_2 dL_law_803 dL_law_804 dL_law_806 dL_law_807 dL_law_808 ?_
  refine l_arg (pc := 809) (i := i) (k := 3) (j4 := 4) F rfl rfl (by omega) rfl rfl ic_3 dL_law_809 dL_law_810 dL_law_812 dL_law_813 dL_law_814 ?_
  refine l_callM (pc := 815) (As := [.int (xs (i + 1)), .int (xs (i + 2)), .int (xs (i + 3))]) F cl_L_149 dL_law_815 (kX11_sweep e2) rfl rfl rfl (Nat.le_of_ble_eq_true rfl) (by decide) ⟨by omega, by omega⟩ ?_
  refine l_istore (pc := 818) (lv' := [(0, .ref b), (1, .ref (gA gc 0)), (2, .ref (gA gm 0)), (3, .ref (gA gc 395)), (4, .int (nI i)), (5, .int r.1), (6, .int q.1)]) F dL_law_818 (by decide) rfl ?_
  refine l_aload_n (pc := 820) (j := 2) F dL_law_820 rfl rfl ?_
  refine l_callM (pc := 821) (As := []) F cl_L_115 dL_law_821 (kX11_thrown e3) rfl rfl rfl (Nat.le_of_ble_eq_true rfl) (by decide) ⟨by omega, by omega⟩ ?_
  refine l_iload (pc := 824) (j := 5) F dL_law_824 rfl ?_
  refine l_icmp_eq (pc := 826) (tgt := 831) F dL_law_826 (by decide) (fun _ => ?_) (fun q9 => absurd hq q9)
  refine l_iload (pc := 831) (j := 5) F dL_law_831 rfl ?_
  refine l_if_ne (pc := 833) (tgt := 848) F dL_law_833 (by decide) (fun hz => ?_) (fun hz => ?_)
  · have hs := Option.some.inj (ite_f hs hz)
    subst hs
    refine l_goto (pc := 848) (tgt := 2250) F dL_law_848 (by decide) ?_
    exact VL_sub [0, 1, 2, 3, 4] rfl kk
  · have hs := ite_t hs hz
    by_cases hv : r.2 395 0 = q.1
    · have hs := Option.some.inj (ite_t hs hv)
      subst hs
      refine l_aload_n (pc := 836) (j := 3) F dL_law_836 rfl rfl ?_
      refine l_iconst (pc := 837) (v := 0) F dL_law_837 ic_0 ?_
      refine l_lald (pc := 838) F dL_law_838 ?_
      refine l_iload (pc := 839) (j := 6) F dL_law_839 rfl ?_
      refine l_i2l (pc := 841) F dL_law_841 rfl ?_
      refine l_lcmp (pc := 842) F dL_law_842 ?_
      refine l_if_eq (pc := 843) (tgt := 848) F dL_law_843 (by decide) (fun _ => ?_) (fun q9 => absurd (by rw [hv]; exact lg_cmp_self _) q9)
      refine l_goto (pc := 848) (tgt := 2250) F dL_law_848 (by decide) ?_
      exact VL_sub [0, 1, 2, 3, 4] rfl kk
    · cases ite_f hs hv
theorem clw_L_shake : CLW 150 yL_shake cL_shake 5 [(0, 10, 13, 18)] 4 := ⟨tw_1016, tw_0, tw_1018, by decide, by decide +kernel, by decide +kernel, by decide +kernel, tw_1017⟩
def s_shake (hc hm : ST) (a1 : Int32) (a2 : Int32) : Option (ST × ST) :=
  bnd (fL_shake hc a1 a2) fun r => bnd (fX11_shake hm a1 a2) fun q => bnd (fX11_thrown q.2) fun t => if t = r.1 then (if r.1 = 0 then (if r.2 395 0 = q.1 then some (r.2, q.2) else none) else some (r.2, q.2)) else none
set_option maxRecDepth 100000 in
set_option maxHeartbeats 4000000 in
theorem ca_shake (hT : l.stackTraces = false) (F : FL p s m args meth c gc gm b L xs) {i : Nat} {y : ST × ST} (hi : i + 6 ≤ L) (hs : s_shake hc hm (xs (i + 1)) (xs (i + 2)) = some y) (hce : cells + 3 ≤ 601024 ∧ slots + 18 ≤ 7293034)
    (kk : VL p l e s m args below meth c Q gc gm (cells + 3) (slots + 18) y.1 y.2 2250 [(0, .ref b), (1, .ref (gA gc 0)), (2, .ref (gA gm 0)), (3, .ref (gA gc 395)), (4, .int (nI i))] []) : VL p l e s m args below meth c Q gc gm cells slots hc hm 851 [(0, .ref b), (1, .ref (gA gc 0)), (2, .ref (gA gm 0)), (3, .ref (gA gc 395)), (4, .int (nI i))] [] := by
  unfold s_shake at hs
  obtain ⟨r, e1, hs⟩ := bnd_some hs
  obtain ⟨q, e2, hs⟩ := bnd_some hs
  obtain ⟨t, e3, hs⟩ := bnd_some hs
  by_cases hq : t = r.1
  rotate_left
  · cases ite_f hs hq
  have hs := ite_t hs hq
  refine l_aload_n (pc := 851) (j := 1) F dL_law_851 rfl rfl ?_
  refine l_arg (pc := 852) (i := i) (k := 1) (j4 := 4) F rfl rfl (by omega) rfl rfl ic_1 dL_law_852 dL_law_853 dL_law_855 dL_law_856 dL_law_857 ?_
  refine l_arg (pc := 858) (i := i) (k := 2) (j4 := 4) F rfl rfl (by omega) rfl rfl ic_2 dL_law_858 dL_law_859 dL_law_861 dL_law_862 dL_law_863 ?_
  refine l_aload_n (pc := 864) (j := 3) F dL_law_864 rfl rfl ?_
  refine l_callW (pc := 865) (As := [.ref (gA gc 0), .int (xs (i + 1)), .int (xs (i + 2)), .ref (gA gc 395)]) F clw_L_shake dL_law_865 (kL_shake hT e1) rfl rfl (Nat.le_of_ble_eq_true rfl) (by decide) (by decide) hce ?_
  refine l_istore (pc := 868) (lv' := [(0, .ref b), (1, .ref (gA gc 0)), (2, .ref (gA gm 0)), (3, .ref (gA gc 395)), (4, .int (nI i)), (5, .int r.1)]) F dL_law_868 (by decide) rfl ?_
  refine l_aload_n (pc := 870) (j := 2) F dL_law_870 rfl rfl ?_
  refine l_arg (pc := 871) (i := i) (k := 1) (j4 := 4) F rfl rfl (by omega) rfl rfl ic_1 dL_law_871 dL_law_872 dL_law_874 dL_law_875 dL_law_876 ?_
  refine l_arg (pc := 877) (i := i) (k := 2) (j4 := 4) F rfl rfl (by omega) rfl rfl ic_2 dL_law_877 dL_law_878 dL_law_880 dL_law_881 dL_law_882 ?_
  refine l_callM (pc := 883) (As := [.int (xs (i + 1)), .int (xs (i + 2))]) F cl_L_152 dL_law_883 (kX11_shake e2) rfl rfl rfl (Nat.le_of_ble_eq_true rfl) (by decide) ⟨by omega, by omega⟩ ?_
  refine l_istore (pc := 886) (lv' := [(0, .ref b), (1, .ref (gA gc 0)), (2, .ref (gA gm 0)), (3, .ref (gA gc 395)), (4, .int (nI i)), (5, .int r.1), (6, .int q.1)]) F dL_law_886 (by decide) rfl ?_
  refine l_aload_n (pc := 888) (j := 2) F dL_law_888 rfl rfl ?_
  refine l_callM (pc := 889) (As := []) F cl_L_115 dL_law_889 (kX11_thrown e3) rfl rfl rfl (Nat.le_of_ble_eq_true rfl) (by decide) ⟨by omega, by omega⟩ ?_
  refine l_iload (pc := 892) (j := 5) F dL_law_892 rfl ?_
  refine l_icmp_eq (pc := 894) (tgt := 899) F dL_law_894 (by decide) (fun _ => ?_) (fun q9 => absurd hq q9)
  refine l_iload (pc := 899) (j := 5) F dL_law_899 rfl ?_
  refine l_if_ne (pc := 901) (tgt := 916) F dL_law_901 (by decide) (fun hz => ?_) (fun hz => ?_)
  · have hs := Option.some.inj (ite_f hs hz)
    subst hs
    refine l_goto (pc := 916) (tgt := 2250) F dL_law_916 (by decide) ?_
    exact VL_sub [0, 1, 2, 3, 4] rfl kk
  · have hs := ite_t hs hz
    by_cases hv : r.2 395 0 = q.1
    · have hs := Option.some.inj (ite_t hs hv)
      subst hs
      refine l_aload_n (pc := 904) (j := 3) F dL_law_904 rfl rfl ?_
      refine l_iconst (pc := 905) (v := 0) F dL_law_905 ic_0 ?_
      refine l_lald (pc := 906) F dL_law_906 ?_
      refine l_iload (pc := 907) (j := 6) F dL_law_907 rfl ?_
      refine l_i2l (pc := 909) F dL_law_909 rfl ?_
      refine l_lcmp (pc := 910) F dL_law_910 ?_
      refine l_if_eq (pc := 911) (tgt := 916) F dL_law_911 (by decide) (fun _ => ?_) (fun q9 => absurd (by rw [hv]; exact lg_cmp_self _) q9)
      refine l_goto (pc := 916) (tgt := 2250) F dL_law_916 (by decide) ?_
      exact VL_sub [0, 1, 2, 3, 4] rfl kk
    · cases ite_f hs hv
theorem clw_L_sneeze : CLW 153 yL_sneeze cL_sneeze 5 [(0, 10, 13, 18)] 4 := ⟨tw_1023, tw_0, tw_1025, by decide, by decide +kernel, by decide +kernel, by decide +kernel, tw_1024⟩
def s_sneeze (hc hm : ST) (a1 : Int32) (a2 : Int32) : Option (ST × ST) :=
  bnd (fL_sneeze hc a1 a2) fun r => bnd (fX11_sneeze hm a1 a2) fun q => bnd (fX11_thrown q.2) fun t => if t = r.1 then (if r.1 = 0 then (if r.2 395 0 = q.1 then some (r.2, q.2) else none) else some (r.2, q.2)) else none
set_option maxRecDepth 100000 in
set_option maxHeartbeats 4000000 in
theorem ca_sneeze (hT : l.stackTraces = false) (F : FL p s m args meth c gc gm b L xs) {i : Nat} {y : ST × ST} (hi : i + 6 ≤ L) (hs : s_sneeze hc hm (xs (i + 1)) (xs (i + 2)) = some y) (hce : cells + 3 ≤ 601024 ∧ slots + 18 ≤ 7293034)
    (kk : VL p l e s m args below meth c Q gc gm (cells + 3) (slots + 18) y.1 y.2 2250 [(0, .ref b), (1, .ref (gA gc 0)), (2, .ref (gA gm 0)), (3, .ref (gA gc 395)), (4, .int (nI i))] []) : VL p l e s m args below meth c Q gc gm cells slots hc hm 919 [(0, .ref b), (1, .ref (gA gc 0)), (2, .ref (gA gm 0)), (3, .ref (gA gc 395)), (4, .int (nI i))] [] := by
  unfold s_sneeze at hs
  obtain ⟨r, e1, hs⟩ := bnd_some hs
  obtain ⟨q, e2, hs⟩ := bnd_some hs
  obtain ⟨t, e3, hs⟩ := bnd_some hs
  by_cases hq : t = r.1
  rotate_left
  · cases ite_f hs hq
  have hs := ite_t hs hq
  refine l_aload_n (pc := 919) (j := 1) F dL_law_919 rfl rfl ?_
  refine l_arg (pc := 920) (i := i) (k := 1) (j4 := 4) F rfl rfl (by omega) rfl rfl ic_1 dL_law_920 dL_law_921 dL_law_923 dL_law_924 dL_law_925 ?_
  refine l_arg (pc := 926) (i := i) (k := 2) (j4 := 4) F rfl rfl (by omega) rfl rfl ic_2 dL_law_926 dL_law_927 dL_law_929 dL_law_930 dL_law_931 ?_
  refine l_aload_n (pc := 932) (j := 3) F dL_law_932 rfl rfl ?_
  refine l_callW (pc := 933) (As := [.ref (gA gc 0), .int (xs (i + 1)), .int (xs (i + 2)), .ref (gA gc 395)]) F clw_L_sneeze dL_law_933 (kL_sneeze hT e1) rfl rfl (Nat.le_of_ble_eq_true rfl) (by decide) (by decide) hce ?_
  refine l_istore (pc := 936) (lv' := [(0, .ref b), (1, .ref (gA gc 0)), (2, .ref (gA gm 0)), (3, .ref (gA gc 395)), (4, .int (nI i)), (5, .int r.1)]) F dL_law_936 (by decide) rfl ?_
  refine l_aload_n (pc := 938) (j := 2) F dL_law_938 rfl rfl ?_
  refine l_arg (pc := 939) (i := i) (k := 1) (j4 := 4) F rfl rfl (by omega) rfl rfl ic_1 dL_law_939 dL_law_940 dL_law_942 dL_law_943 dL_law_944 ?_
  refine l_arg (pc := 945) (i := i) (k := 2) (j4 := 4) F rfl rfl (by omega) rfl rfl ic_2 dL_law_945 dL_law_946 dL_law_948 dL_law_949 dL_law_950 ?_
  refine l_callM (pc := 951) (As := [.int (xs (i + 1)), .int (xs (i + 2))]) F cl_L_155 dL_law_951 (kX11_sneeze e2) rfl rfl rfl (Nat.le_of_ble_eq_true rfl) (by decide) ⟨by omega, by omega⟩ ?_
  refine l_istore (pc := 954) (lv' := [(0, .ref b), (1, .ref (gA gc 0)), (2, .ref (gA gm 0)), (3, .ref (gA gc 395)), (4, .int (nI i)), (5, .int r.1), (6, .int q.1)]) F dL_law_954 (by decide) rfl ?_
  refine l_aload_n (pc := 956) (j := 2) F dL_law_956 rfl rfl ?_
  refine l_callM (pc := 957) (As := []) F cl_L_115 dL_law_957 (kX11_thrown e3) rfl rfl rfl (Nat.le_of_ble_eq_true rfl) (by decide) ⟨by omega, by omega⟩ ?_
  refine l_iload (pc := 960) (j := 5) F dL_law_960 rfl ?_
  refine l_icmp_eq (pc := 962) (tgt := 967) F dL_law_962 (by decide) (fun _ => ?_) (fun q9 => absurd hq q9)
  refine l_iload (pc := 967) (j := 5) F dL_law_967 rfl ?_
  refine l_if_ne (pc := 969) (tgt := 984) F dL_law_969 (by decide) (fun hz => ?_) (fun hz => ?_)
  · have hs := Option.some.inj (ite_f hs hz)
    subst hs
    refine l_goto (pc := 984) (tgt := 2250) F dL_law_984 (by decide) ?_
    exact VL_sub [0, 1, 2, 3, 4] rfl kk
  · have hs := ite_t hs hz
    by_cases hv : r.2 395 0 = q.1
    · have hs := Option.some.inj (ite_t hs hv)
      subst hs
      refine l_aload_n (pc := 972) (j := 3) F dL_law_972 rfl rfl ?_
      refine l_iconst (pc := 973) (v := 0) F dL_law_973 ic_0 ?_
      refine l_lald (pc := 974) F dL_law_974 ?_
      refine l_iload (pc := 975) (j := 6) F dL_law_975 rfl ?_
      refine l_i2l (pc := 977) F dL_law_977 rfl ?_
      refine l_lcmp (pc := 978) F dL_law_978 ?_
      refine l_if_eq (pc := 979) (tgt := 984) F dL_law_979 (by decide) (fun _ => ?_) (fun q9 => absurd (by rw [hv]; exact lg_cmp_self _) q9)
      refine l_goto (pc := 984) (tgt := 2250) F dL_law_984 (by decide) ?_
      exact VL_sub [0, 1, 2, 3, 4] rfl kk
    · cases ite_f hs hv
def s_plan (hc hm : ST) (a1 : Int32) (a2 : Int32) : Option (ST × ST) :=
  bnd (fX10_plan hc a1 a2) fun r => bnd (fX11_plan hm a1 a2) fun q => if r.1 = q.1 then some (mg hc r.2, q.2) else none
set_option maxRecDepth 100000 in
set_option maxHeartbeats 4000000 in
theorem ca_plan (hT : l.stackTraces = false) (F : FL p s m args meth c gc gm b L xs) {i : Nat} {y : ST × ST} (hi : i + 6 ≤ L) (hs : s_plan hc hm (xs (i + 1)) (xs (i + 2)) = some y) (hce : cells + 3 ≤ 601024 ∧ slots + 18 ≤ 7293034)
    (kk : VL p l e s m args below meth c Q gc gm (cells + 3) (slots + 18) y.1 y.2 2250 [(0, .ref b), (1, .ref (gA gc 0)), (2, .ref (gA gm 0)), (3, .ref (gA gc 395)), (4, .int (nI i))] []) : VL p l e s m args below meth c Q gc gm cells slots hc hm 987 [(0, .ref b), (1, .ref (gA gc 0)), (2, .ref (gA gm 0)), (3, .ref (gA gc 395)), (4, .int (nI i))] [] := by
  unfold s_plan at hs
  obtain ⟨r, e1, hs⟩ := bnd_some hs
  obtain ⟨q, e2, hs⟩ := bnd_some hs
  by_cases hq : r.1 = q.1
  rotate_left
  · cases ite_f hs hq
  have hs := Option.some.inj (ite_t hs hq)
  subst hs
  refine VL_widen (c' := cells + 3) (s' := slots + 18) (by omega) (by omega) ?_
  refine l_aload_n (pc := 987) (j := 1) F dL_law_987 rfl rfl ?_
  refine l_arg (pc := 988) (i := i) (k := 1) (j4 := 4) F rfl rfl (by omega) rfl rfl ic_1 dL_law_988 dL_law_989 dL_law_991 dL_law_992 dL_law_993 ?_
  refine l_arg (pc := 994) (i := i) (k := 2) (j4 := 4) F rfl rfl (by omega) rfl rfl ic_2 dL_law_994 dL_law_995 dL_law_997 dL_law_998 dL_law_999 ?_
  refine l_callC (pc := 1000) (As := [.int (xs (i + 1)), .int (xs (i + 2))]) F cl_L_156 dL_law_1000 (kX10_plan e1) rfl rfl rfl (Nat.le_of_ble_eq_true rfl) (by decide) hce ?_
  refine l_aload_n (pc := 1003) (j := 2) F dL_law_1003 rfl rfl ?_
  refine l_arg (pc := 1004) (i := i) (k := 1) (j4 := 4) F rfl rfl (by omega) rfl rfl ic_1 dL_law_1004 dL_law_1005 dL_law_1007 dL_law_1008 dL_law_1009 ?_
  refine l_arg (pc := 1010) (i := i) (k := 2) (j4 := 4) F rfl rfl (by omega) rfl rfl ic_2 dL_law_1010 dL_law_1011 dL_law_1013 dL_law_1014 dL_law_1015 ?_
  refine l_callM (pc := 1016) (As := [.int (xs (i + 1)), .int (xs (i + 2))]) F cl_L_159 dL_law_1016 (kX11_plan e2) rfl rfl rfl (Nat.le_of_ble_eq_true rfl) (by decide) hce ?_
  exact l_icmp_eq (pc := 1019) (tgt := 2250) F dL_law_1019 (by decide) (fun _ => kk) (fun q9 => absurd hq q9)
def s_undo (hc hm : ST) : Option (ST × ST) :=
  bnd (fX10_undo hc) fun r => bnd (fX11_undo hm) fun q => if r.1 = q.1 then some (mg hc r.2, q.2) else none
set_option maxRecDepth 100000 in
set_option maxHeartbeats 4000000 in
theorem ca_undo (hT : l.stackTraces = false) (F : FL p s m args meth c gc gm b L xs) {i : Nat} {y : ST × ST} (hi : i + 6 ≤ L) (hs : s_undo hc hm = some y) (hce : cells + 3 ≤ 601024 ∧ slots + 18 ≤ 7293034)
    (kk : VL p l e s m args below meth c Q gc gm (cells + 3) (slots + 18) y.1 y.2 2250 [(0, .ref b), (1, .ref (gA gc 0)), (2, .ref (gA gm 0)), (3, .ref (gA gc 395)), (4, .int (nI i))] []) : VL p l e s m args below meth c Q gc gm cells slots hc hm 1024 [(0, .ref b), (1, .ref (gA gc 0)), (2, .ref (gA gm 0)), (3, .ref (gA gc 395)), (4, .int (nI i))] [] := by
  unfold s_undo at hs
  obtain ⟨r, e1, hs⟩ := bnd_some hs
  obtain ⟨q, e2, hs⟩ := bnd_some hs
  by_cases hq : r.1 = q.1
  rotate_left
  · cases ite_f hs hq
  have hs := Option.some.inj (ite_t hs hq)
  subst hs
  refine VL_widen (c' := cells + 3) (s' := slots + 18) (by omega) (by omega) ?_
  refine l_aload_n (pc := 1024) (j := 1) F dL_law_1024 rfl rfl ?_
  refine l_callC (pc := 1025) (As := []) F cl_L_160 dL_law_1025 (kX10_undo e1) rfl rfl rfl (Nat.le_of_ble_eq_true rfl) (by decide) hce ?_
  refine l_aload_n (pc := 1028) (j := 2) F dL_law_1028 rfl rfl ?_
  refine l_callM (pc := 1029) (As := []) F cl_L_163 dL_law_1029 (kX11_undo e2) rfl rfl rfl (Nat.le_of_ble_eq_true rfl) (by decide) hce ?_
  exact l_icmp_eq (pc := 1032) (tgt := 2250) F dL_law_1032 (by decide) (fun _ => kk) (fun q9 => absurd hq q9)
theorem clw_L_then : CLW 164 yL_then cL_then 5 [(0, 10, 13, 18), (0, 10, 17, 13)] 4 := ⟨tw_1034, tw_0, tw_1036, by decide, by decide +kernel, by decide +kernel, by decide +kernel, tw_1035⟩
def s_then (hc hm : ST) (a1 : Int32) (a2 : Int32) : Option (ST × ST) :=
  bnd (fL_then hc a1 a2) fun r => bnd (fX11_then hm a1 a2) fun q => bnd (fX11_thrown q.2) fun t => if t = r.1 then (if r.1 = 0 then (if r.2 395 0 = q.1 then some (r.2, q.2) else none) else some (r.2, q.2)) else none
set_option maxRecDepth 100000 in
set_option maxHeartbeats 4000000 in
theorem ca_then (hT : l.stackTraces = false) (F : FL p s m args meth c gc gm b L xs) {i : Nat} {y : ST × ST} (hi : i + 6 ≤ L) (hs : s_then hc hm (xs (i + 1)) (xs (i + 2)) = some y) (hce : cells + 3 ≤ 601024 ∧ slots + 18 ≤ 7293034)
    (kk : VL p l e s m args below meth c Q gc gm (cells + 3) (slots + 18) y.1 y.2 2250 [(0, .ref b), (1, .ref (gA gc 0)), (2, .ref (gA gm 0)), (3, .ref (gA gc 395)), (4, .int (nI i))] []) : VL p l e s m args below meth c Q gc gm cells slots hc hm 1037 [(0, .ref b), (1, .ref (gA gc 0)), (2, .ref (gA gm 0)), (3, .ref (gA gc 395)), (4, .int (nI i))] [] := by
  unfold s_then at hs
  obtain ⟨r, e1, hs⟩ := bnd_some hs
  obtain ⟨q, e2, hs⟩ := bnd_some hs
  obtain ⟨t, e3, hs⟩ := bnd_some hs
  by_cases hq : t = r.1
  rotate_left
  · cases ite_f hs hq
  have hs := ite_t hs hq
  refine l_aload_n (pc := 1037) (j := 1) F dL_law_1037 rfl rfl ?_
  refine l_arg (pc := 1038) (i := i) (k := 1) (j4 := 4) F rfl rfl (by omega) rfl rfl ic_1 dL_law_1038 dL_law_1039 dL_law_1041 dL_law_1042 dL_law_1043 ?_
  refine l_arg (pc := 1044) (i := i) (k := 2) (j4 := 4) F rfl rfl (by omega) rfl rfl ic_2 dL_law_1044 dL_law_1045 dL_law_1047 dL_law_1048 dL_law_1049 ?_
  refine l_aload_n (pc := 1050) (j := 3) F dL_law_1050 rfl rfl ?_
  refine l_callW (pc := 1051) (As := [.ref (gA gc 0), .int (xs (i + 1)), .int (xs (i + 2)), .ref (gA gc 395)]) F clw_L_then dL_law_1051 (kL_then hT e1) rfl rfl (Nat.le_of_ble_eq_true rfl) (by decide) (by decide) hce ?_
  refine l_istore (pc := 1054) (lv' := [(0, .ref b), (1, .ref (gA gc 0)), (2, .ref (gA gm 0)), (3, .ref (gA gc 395)), (4, .int (nI i)), (5, .int r.1)]) F dL_law_1054 (by decide) rfl ?_
  refine l_aload_n (pc := 1056) (j := 2) F dL_law_1056 rfl rfl ?_
  refine l_arg (pc := 1057) (i := i) (k := 1) (j4 := 4) F rfl rfl (by omega) rfl rfl ic_1 dL_law_1057 dL_law_1058 dL_law_1060 dL_law_1061 dL_law_1062 ?_
  refine l_arg (pc := 1063) (i := i) (k := 2) (j4 := 4) F rfl rfl (by omega) rfl rfl ic_2 dL_law_1063 dL_law_1064 dL_law_1066 dL_law_1067 dL_law_1068 ?_
  refine l_callM (pc := 1069) (As := [.int (xs (i + 1)), .int (xs (i + 2))]) F cl_L_166 dL_law_1069 (kX11_then e2) rfl rfl rfl (Nat.le_of_ble_eq_true rfl) (by decide) ⟨by omega, by omega⟩ ?_
  refine l_istore (pc := 1072) (lv' := [(0, .ref b), (1, .ref (gA gc 0)), (2, .ref (gA gm 0)), (3, .ref (gA gc 395)), (4, .int (nI i)), (5, .int r.1), (6, .int q.1)]) F dL_law_1072 (by decide) rfl ?_
  refine l_aload_n (pc := 1074) (j := 2) F dL_law_1074 rfl rfl ?_
  refine l_callM (pc := 1075) (As := []) F cl_L_115 dL_law_1075 (kX11_thrown e3) rfl rfl rfl (Nat.le_of_ble_eq_true rfl) (by decide) ⟨by omega, by omega⟩ ?_
  refine l_iload (pc := 1078) (j := 5) F dL_law_1078 rfl ?_
  refine l_icmp_eq (pc := 1080) (tgt := 1085) F dL_law_1080 (by decide) (fun _ => ?_) (fun q9 => absurd hq q9)
  refine l_iload (pc := 1085) (j := 5) F dL_law_1085 rfl ?_
  refine l_if_ne (pc := 1087) (tgt := 1102) F dL_law_1087 (by decide) (fun hz => ?_) (fun hz => ?_)
  · have hs := Option.some.inj (ite_f hs hz)
    subst hs
    refine l_goto (pc := 1102) (tgt := 2250) F dL_law_1102 (by decide) ?_
    exact VL_sub [0, 1, 2, 3, 4] rfl kk
  · have hs := ite_t hs hz
    by_cases hv : r.2 395 0 = q.1
    · have hs := Option.some.inj (ite_t hs hv)
      subst hs
      refine l_aload_n (pc := 1090) (j := 3) F dL_law_1090 rfl rfl ?_
      refine l_iconst (pc := 1091) (v := 0) F dL_law_1091 ic_0 ?_
      refine l_lald (pc := 1092) F dL_law_1092 ?_
      refine l_iload (pc := 1093) (j := 6) F dL_law_1093 rfl ?_
      refine l_i2l (pc := 1095) F dL_law_1095 rfl ?_
      refine l_lcmp (pc := 1096) F dL_law_1096 ?_
      refine l_if_eq (pc := 1097) (tgt := 1102) F dL_law_1097 (by decide) (fun _ => ?_) (fun q9 => absurd (by rw [hv]; exact lg_cmp_self _) q9)
      refine l_goto (pc := 1102) (tgt := 2250) F dL_law_1102 (by decide) ?_
      exact VL_sub [0, 1, 2, 3, 4] rfl kk
    · cases ite_f hs hv
theorem clw_L_taken : CLW 167 yL_taken cL_taken 4 [(0, 9, 12, 13)] 3 := ⟨tw_1048, tw_0, tw_1050, by decide, by decide +kernel, by decide +kernel, by decide +kernel, tw_1049⟩
def s_taken (hc hm : ST) (a1 : Int32) : Option (ST × ST) :=
  bnd (fL_taken hc a1) fun r => bnd (fX11_taken hm a1) fun q => bnd (fX11_thrown q.2) fun t => if t = r.1 then (if r.1 = 0 then (if r.2 395 0 = q.1 then some (r.2, q.2) else none) else some (r.2, q.2)) else none
set_option maxRecDepth 100000 in
set_option maxHeartbeats 4000000 in
theorem ca_taken (hT : l.stackTraces = false) (F : FL p s m args meth c gc gm b L xs) {i : Nat} {y : ST × ST} (hi : i + 6 ≤ L) (hs : s_taken hc hm (xs (i + 1)) = some y) (hce : cells + 3 ≤ 601024 ∧ slots + 18 ≤ 7293034)
    (kk : VL p l e s m args below meth c Q gc gm (cells + 3) (slots + 18) y.1 y.2 2250 [(0, .ref b), (1, .ref (gA gc 0)), (2, .ref (gA gm 0)), (3, .ref (gA gc 395)), (4, .int (nI i))] []) : VL p l e s m args below meth c Q gc gm cells slots hc hm 1105 [(0, .ref b), (1, .ref (gA gc 0)), (2, .ref (gA gm 0)), (3, .ref (gA gc 395)), (4, .int (nI i))] [] := by
  unfold s_taken at hs
  obtain ⟨r, e1, hs⟩ := bnd_some hs
  obtain ⟨q, e2, hs⟩ := bnd_some hs
  obtain ⟨t, e3, hs⟩ := bnd_some hs
  by_cases hq : t = r.1
  rotate_left
  · cases ite_f hs hq
  have hs := ite_t hs hq
  refine l_aload_n (pc := 1105) (j := 1) F dL_law_1105 rfl rfl ?_
  refine l_arg (pc := 1106) (i := i) (k := 1) (j4 := 4) F rfl rfl (by omega) rfl rfl ic_1 dL_law_1106 dL_law_1107 dL_law_1109 dL_law_1110 dL_law_1111 ?_
  refine l_aload_n (pc := 1112) (j := 3) F dL_law_1112 rfl rfl ?_
  refine l_callW (pc := 1113) (As := [.ref (gA gc 0), .int (xs (i + 1)), .ref (gA gc 395)]) F clw_L_taken dL_law_1113 (kL_taken hT e1) rfl rfl (Nat.le_of_ble_eq_true rfl) (by decide) (by decide) hce ?_
  refine l_istore (pc := 1116) (lv' := [(0, .ref b), (1, .ref (gA gc 0)), (2, .ref (gA gm 0)), (3, .ref (gA gc 395)), (4, .int (nI i)), (5, .int r.1)]) F dL_law_1116 (by decide) rfl ?_
  refine l_aload_n (pc := 1118) (j := 2) F dL_law_1118 rfl rfl ?_
  refine l_arg (pc := 1119) (i := i) (k := 1) (j4 := 4) F rfl rfl (by omega) rfl rfl ic_1 dL_law_1119 dL_law_1120 dL_law_1122 dL_law_1123 dL_law_1124 ?_
  refine l_callM (pc := 1125) (As := [.int (xs (i + 1))]) F cl_L_169 dL_law_1125 (kX11_taken e2) rfl rfl rfl (Nat.le_of_ble_eq_true rfl) (by decide) ⟨by omega, by omega⟩ ?_
  refine l_istore (pc := 1128) (lv' := [(0, .ref b), (1, .ref (gA gc 0)), (2, .ref (gA gm 0)), (3, .ref (gA gc 395)), (4, .int (nI i)), (5, .int r.1), (6, .int q.1)]) F dL_law_1128 (by decide) rfl ?_
  refine l_aload_n (pc := 1130) (j := 2) F dL_law_1130 rfl rfl ?_
  refine l_callM (pc := 1131) (As := []) F cl_L_115 dL_law_1131 (kX11_thrown e3) rfl rfl rfl (Nat.le_of_ble_eq_true rfl) (by decide) ⟨by omega, by omega⟩ ?_
  refine l_iload (pc := 1134) (j := 5) F dL_law_1134 rfl ?_
  refine l_icmp_eq (pc := 1136) (tgt := 1141) F dL_law_1136 (by decide) (fun _ => ?_) (fun q9 => absurd hq q9)
  refine l_iload (pc := 1141) (j := 5) F dL_law_1141 rfl ?_
  refine l_if_ne (pc := 1143) (tgt := 1158) F dL_law_1143 (by decide) (fun hz => ?_) (fun hz => ?_)
  · have hs := Option.some.inj (ite_f hs hz)
    subst hs
    refine l_goto (pc := 1158) (tgt := 2250) F dL_law_1158 (by decide) ?_
    exact VL_sub [0, 1, 2, 3, 4] rfl kk
  · have hs := ite_t hs hz
    by_cases hv : r.2 395 0 = q.1
    · have hs := Option.some.inj (ite_t hs hv)
      subst hs
      refine l_aload_n (pc := 1146) (j := 3) F dL_law_1146 rfl rfl ?_
      refine l_iconst (pc := 1147) (v := 0) F dL_law_1147 ic_0 ?_
      refine l_lald (pc := 1148) F dL_law_1148 ?_
      refine l_iload (pc := 1149) (j := 6) F dL_law_1149 rfl ?_
      refine l_i2l (pc := 1151) F dL_law_1151 rfl ?_
      refine l_lcmp (pc := 1152) F dL_law_1152 ?_
      refine l_if_eq (pc := 1153) (tgt := 1158) F dL_law_1153 (by decide) (fun _ => ?_) (fun q9 => absurd (by rw [hv]; exact lg_cmp_self _) q9)
      refine l_goto (pc := 1158) (tgt := 2250) F dL_law_1158 (by decide) ?_
      exact VL_sub [0, 1, 2, 3, 4] rfl kk
    · cases ite_f hs hv
theorem clw_L_thick : CLW 170 yL_thick cL_thick 5 [(0, 10, 13, 18), (0, 10, 17, 13)] 4 := ⟨tw_1055, tw_0, tw_1057, by decide, by decide +kernel, by decide +kernel, by decide +kernel, tw_1056⟩
def s_thick (hc hm : ST) (a1 : Int32) (a2 : Int32) : Option (ST × ST) :=
  bnd (fL_thick hc a1 a2) fun r => bnd (fX11_thick hm a1 a2) fun q => bnd (fX11_thrown q.2) fun t => if t = r.1 then (if r.1 = 0 then (if r.2 395 0 = q.1 then some (r.2, q.2) else none) else some (r.2, q.2)) else none
set_option maxRecDepth 100000 in
set_option maxHeartbeats 4000000 in
theorem ca_thick (hT : l.stackTraces = false) (F : FL p s m args meth c gc gm b L xs) {i : Nat} {y : ST × ST} (hi : i + 6 ≤ L) (hs : s_thick hc hm (xs (i + 1)) (xs (i + 2)) = some y) (hce : cells + 3 ≤ 601024 ∧ slots + 18 ≤ 7293034)
    (kk : VL p l e s m args below meth c Q gc gm (cells + 3) (slots + 18) y.1 y.2 2250 [(0, .ref b), (1, .ref (gA gc 0)), (2, .ref (gA gm 0)), (3, .ref (gA gc 395)), (4, .int (nI i))] []) : VL p l e s m args below meth c Q gc gm cells slots hc hm 1161 [(0, .ref b), (1, .ref (gA gc 0)), (2, .ref (gA gm 0)), (3, .ref (gA gc 395)), (4, .int (nI i))] [] := by
  unfold s_thick at hs
  obtain ⟨r, e1, hs⟩ := bnd_some hs
  obtain ⟨q, e2, hs⟩ := bnd_some hs
  obtain ⟨t, e3, hs⟩ := bnd_some hs
  by_cases hq : t = r.1
  rotate_left
  · cases ite_f hs hq
  have hs := ite_t hs hq
  refine l_aload_n (pc := 1161) (j := 1) F dL_law_1161 rfl rfl ?_
  refine l_arg (pc := 1162) (i := i) (k := 1) (j4 := 4) F rfl rfl (by omega) rfl rfl ic_1 dL_law_1162 dL_law_1163 dL_law_1165 dL_law_1166 dL_law_1167 ?_
  refine l_arg (pc := 1168) (i := i) (k := 2) (j4 := 4) F rfl rfl (by omega) rfl rfl ic_2 dL_law_1168 dL_law_1169 dL_law_1171 dL_law_1172 dL_law_1173 ?_
  refine l_aload_n (pc := 1174) (j := 3) F dL_law_1174 rfl rfl ?_
  refine l_callW (pc := 1175) (As := [.ref (gA gc 0), .int (xs (i + 1)), .int (xs (i + 2)), .ref (gA gc 395)]) F clw_L_thick dL_law_1175 (kL_thick hT e1) rfl rfl (Nat.le_of_ble_eq_true rfl) (by decide) (by decide) hce ?_
  refine l_istore (pc := 1178) (lv' := [(0, .ref b), (1, .ref (gA gc 0)), (2, .ref (gA gm 0)), (3, .ref (gA gc 395)), (4, .int (nI i)), (5, .int r.1)]) F dL_law_1178 (by decide) rfl ?_
  refine l_aload_n (pc := 1180) (j := 2) F dL_law_1180 rfl rfl ?_
  refine l_arg (pc := 1181) (i := i) (k := 1) (j4 := 4) F rfl rfl (by omega) rfl rfl ic_1 dL_law_1181 dL_law_1182 dL_law_1184 dL_law_1185 dL_law_1186 ?_
  refine l_arg (pc := 1187) (i := i) (k := 2) (j4 := 4) F rfl rfl (by omega) rfl rfl ic_2 dL_law_1187 dL_law_1188 dL_law_1190 dL_law_1191 dL_law_1192 ?_
  refine l_callM (pc := 1193) (As := [.int (xs (i + 1)), .int (xs (i + 2))]) F cl_L_172 dL_law_1193 (kX11_thick e2) rfl rfl rfl (Nat.le_of_ble_eq_true rfl) (by decide) ⟨by omega, by omega⟩ ?_
  refine l_istore (pc := 1196) (lv' := [(0, .ref b), (1, .ref (gA gc 0)), (2, .ref (gA gm 0)), (3, .ref (gA gc 395)), (4, .int (nI i)), (5, .int r.1), (6, .int q.1)]) F dL_law_1196 (by decide) rfl ?_
  refine l_aload_n (pc := 1198) (j := 2) F dL_law_1198 rfl rfl ?_
  refine l_callM (pc := 1199) (As := []) F cl_L_115 dL_law_1199 (kX11_thrown e3) rfl rfl rfl (Nat.le_of_ble_eq_true rfl) (by decide) ⟨by omega, by omega⟩ ?_
  refine l_iload (pc := 1202) (j := 5) F dL_law_1202 rfl ?_
  refine l_icmp_eq (pc := 1204) (tgt := 1209) F dL_law_1204 (by decide) (fun _ => ?_) (fun q9 => absurd hq q9)
  refine l_iload (pc := 1209) (j := 5) F dL_law_1209 rfl ?_
  refine l_if_ne (pc := 1211) (tgt := 1226) F dL_law_1211 (by decide) (fun hz => ?_) (fun hz => ?_)
  · have hs := Option.some.inj (ite_f hs hz)
    subst hs
    refine l_goto (pc := 1226) (tgt := 2250) F dL_law_1226 (by decide) ?_
    exact VL_sub [0, 1, 2, 3, 4] rfl kk
  · have hs := ite_t hs hz
    by_cases hv : r.2 395 0 = q.1
    · have hs := Option.some.inj (ite_t hs hv)
      subst hs
      refine l_aload_n (pc := 1214) (j := 3) F dL_law_1214 rfl rfl ?_
      refine l_iconst (pc := 1215) (v := 0) F dL_law_1215 ic_0 ?_
      refine l_lald (pc := 1216) F dL_law_1216 ?_
      refine l_iload (pc := 1217) (j := 6) F dL_law_1217 rfl ?_
      refine l_i2l (pc := 1219) F dL_law_1219 rfl ?_
      refine l_lcmp (pc := 1220) F dL_law_1220 ?_
      refine l_if_eq (pc := 1221) (tgt := 1226) F dL_law_1221 (by decide) (fun _ => ?_) (fun q9 => absurd (by rw [hv]; exact lg_cmp_self _) q9)
      refine l_goto (pc := 1226) (tgt := 2250) F dL_law_1226 (by decide) ?_
      exact VL_sub [0, 1, 2, 3, 4] rfl kk
    · cases ite_f hs hv
def s_heresy (hc hm : ST) : Option (ST × ST) :=
  bnd (fX10_heresy hc) fun r => bnd (fX11_heresy hm) fun q => if r.1 = q.1 then some (mg hc r.2, q.2) else none
set_option maxRecDepth 100000 in
set_option maxHeartbeats 4000000 in
theorem ca_heresy (hT : l.stackTraces = false) (F : FL p s m args meth c gc gm b L xs) {i : Nat} {y : ST × ST} (hi : i + 6 ≤ L) (hs : s_heresy hc hm = some y) (hce : cells + 3 ≤ 601024 ∧ slots + 18 ≤ 7293034)
    (kk : VL p l e s m args below meth c Q gc gm (cells + 3) (slots + 18) y.1 y.2 2250 [(0, .ref b), (1, .ref (gA gc 0)), (2, .ref (gA gm 0)), (3, .ref (gA gc 395)), (4, .int (nI i))] []) : VL p l e s m args below meth c Q gc gm cells slots hc hm 1229 [(0, .ref b), (1, .ref (gA gc 0)), (2, .ref (gA gm 0)), (3, .ref (gA gc 395)), (4, .int (nI i))] [] := by
  unfold s_heresy at hs
  obtain ⟨r, e1, hs⟩ := bnd_some hs
  obtain ⟨q, e2, hs⟩ := bnd_some hs
  by_cases hq : r.1 = q.1
  rotate_left
  · cases ite_f hs hq
  have hs := Option.some.inj (ite_t hs hq)
  subst hs
  refine VL_widen (c' := cells + 3) (s' := slots + 18) (by omega) (by omega) ?_
  refine l_aload_n (pc := 1229) (j := 1) F dL_law_1229 rfl rfl ?_
  refine l_callC (pc := 1230) (As := []) F cl_L_173 dL_law_1230 (kX10_heresy e1) rfl rfl rfl (Nat.le_of_ble_eq_true rfl) (by decide) hce ?_
  refine l_aload_n (pc := 1233) (j := 2) F dL_law_1233 rfl rfl ?_
  refine l_callM (pc := 1234) (As := []) F cl_L_176 dL_law_1234 (kX11_heresy e2) rfl rfl rfl (Nat.le_of_ble_eq_true rfl) (by decide) hce ?_
  exact l_icmp_eq (pc := 1237) (tgt := 2250) F dL_law_1237 (by decide) (fun _ => kk) (fun q9 => absurd hq q9)
theorem clw_L_order : CLW 177 yL_order cL_order 5 [(0, 10, 13, 18)] 4 := ⟨tw_1062, tw_0, tw_1064, by decide, by decide +kernel, by decide +kernel, by decide +kernel, tw_1063⟩
def s_order (hc hm : ST) (a1 : Int32) (a2 : Int32) : Option (ST × ST) :=
  bnd (fL_order hc a1 a2) fun r => bnd (fX11_order hm a1 a2) fun q => bnd (fX11_thrown q.2) fun t => if t = r.1 then (if r.1 = 0 then (if r.2 395 0 = q.1 then some (r.2, q.2) else none) else some (r.2, q.2)) else none
set_option maxRecDepth 100000 in
set_option maxHeartbeats 4000000 in
theorem ca_order (hT : l.stackTraces = false) (F : FL p s m args meth c gc gm b L xs) {i : Nat} {y : ST × ST} (hi : i + 6 ≤ L) (hs : s_order hc hm (xs (i + 1)) (xs (i + 2)) = some y) (hce : cells + 3 ≤ 601024 ∧ slots + 18 ≤ 7293034)
    (kk : VL p l e s m args below meth c Q gc gm (cells + 3) (slots + 18) y.1 y.2 2250 [(0, .ref b), (1, .ref (gA gc 0)), (2, .ref (gA gm 0)), (3, .ref (gA gc 395)), (4, .int (nI i))] []) : VL p l e s m args below meth c Q gc gm cells slots hc hm 1242 [(0, .ref b), (1, .ref (gA gc 0)), (2, .ref (gA gm 0)), (3, .ref (gA gc 395)), (4, .int (nI i))] [] := by
  unfold s_order at hs
  obtain ⟨r, e1, hs⟩ := bnd_some hs
  obtain ⟨q, e2, hs⟩ := bnd_some hs
  obtain ⟨t, e3, hs⟩ := bnd_some hs
  by_cases hq : t = r.1
  rotate_left
  · cases ite_f hs hq
  have hs := ite_t hs hq
  refine l_aload_n (pc := 1242) (j := 1) F dL_law_1242 rfl rfl ?_
  refine l_arg (pc := 1243) (i := i) (k := 1) (j4 := 4) F rfl rfl (by omega) rfl rfl ic_1 dL_law_1243 dL_law_1244 dL_law_1246 dL_law_1247 dL_law_1248 ?_
  refine l_arg (pc := 1249) (i := i) (k := 2) (j4 := 4) F rfl rfl (by omega) rfl rfl ic_2 dL_law_1249 dL_law_1250 dL_law_1252 dL_law_1253 dL_law_1254 ?_
  refine l_aload_n (pc := 1255) (j := 3) F dL_law_1255 rfl rfl ?_
  refine l_callW (pc := 1256) (As := [.ref (gA gc 0), .int (xs (i + 1)), .int (xs (i + 2)), .ref (gA gc 395)]) F clw_L_order dL_law_1256 (kL_order hT e1) rfl rfl (Nat.le_of_ble_eq_true rfl) (by decide) (by decide) hce ?_
  refine l_istore (pc := 1259) (lv' := [(0, .ref b), (1, .ref (gA gc 0)), (2, .ref (gA gm 0)), (3, .ref (gA gc 395)), (4, .int (nI i)), (5, .int r.1)]) F dL_law_1259 (by decide) rfl ?_
  refine l_aload_n (pc := 1261) (j := 2) F dL_law_1261 rfl rfl ?_
  refine l_arg (pc := 1262) (i := i) (k := 1) (j4 := 4) F rfl rfl (by omega) rfl rfl ic_1 dL_law_1262 dL_law_1263 dL_law_1265 dL_law_1266 dL_law_1267 ?_
  refine l_arg (pc := 1268) (i := i) (k := 2) (j4 := 4) F rfl rfl (by omega) rfl rfl ic_2 dL_law_1268 dL_law_1269 dL_law_1271 dL_law_1272 dL_law_1273 ?_
  refine l_callM (pc := 1274) (As := [.int (xs (i + 1)), .int (xs (i + 2))]) F cl_L_179 dL_law_1274 (kX11_order e2) rfl rfl rfl (Nat.le_of_ble_eq_true rfl) (by decide) ⟨by omega, by omega⟩ ?_
  refine l_istore (pc := 1277) (lv' := [(0, .ref b), (1, .ref (gA gc 0)), (2, .ref (gA gm 0)), (3, .ref (gA gc 395)), (4, .int (nI i)), (5, .int r.1), (6, .int q.1)]) F dL_law_1277 (by decide) rfl ?_
  refine l_aload_n (pc := 1279) (j := 2) F dL_law_1279 rfl rfl ?_
  refine l_callM (pc := 1280) (As := []) F cl_L_115 dL_law_1280 (kX11_thrown e3) rfl rfl rfl (Nat.le_of_ble_eq_true rfl) (by decide) ⟨by omega, by omega⟩ ?_
  refine l_iload (pc := 1283) (j := 5) F dL_law_1283 rfl ?_
  refine l_icmp_eq (pc := 1285) (tgt := 1290) F dL_law_1285 (by decide) (fun _ => ?_) (fun q9 => absurd hq q9)
  refine l_iload (pc := 1290) (j := 5) F dL_law_1290 rfl ?_
  refine l_if_ne (pc := 1292) (tgt := 1307) F dL_law_1292 (by decide) (fun hz => ?_) (fun hz => ?_)
  · have hs := Option.some.inj (ite_f hs hz)
    subst hs
    refine l_goto (pc := 1307) (tgt := 2250) F dL_law_1307 (by decide) ?_
    exact VL_sub [0, 1, 2, 3, 4] rfl kk
  · have hs := ite_t hs hz
    by_cases hv : r.2 395 0 = q.1
    · have hs := Option.some.inj (ite_t hs hv)
      subst hs
      refine l_aload_n (pc := 1295) (j := 3) F dL_law_1295 rfl rfl ?_
      refine l_iconst (pc := 1296) (v := 0) F dL_law_1296 ic_0 ?_
      refine l_lald (pc := 1297) F dL_law_1297 ?_
      refine l_iload (pc := 1298) (j := 6) F dL_law_1298 rfl ?_
      refine l_i2l (pc := 1300) F dL_law_1300 rfl ?_
      refine l_lcmp (pc := 1301) F dL_law_1301 ?_
      refine l_if_eq (pc := 1302) (tgt := 1307) F dL_law_1302 (by decide) (fun _ => ?_) (fun q9 => absurd (by rw [hv]; exact lg_cmp_self _) q9)
      refine l_goto (pc := 1307) (tgt := 2250) F dL_law_1307 (by decide) ?_
      exact VL_sub [0, 1, 2, 3, 4] rfl kk
    · cases ite_f hs hv
def s_alms (hc hm : ST) : Option (ST × ST) :=
  bnd (fX10_alms hc) fun r => bnd (fX11_alms hm) fun q => if r = q.1 then some (mg hc hc, q.2) else none
set_option maxRecDepth 100000 in
set_option maxHeartbeats 4000000 in
theorem ca_alms (hT : l.stackTraces = false) (F : FL p s m args meth c gc gm b L xs) {i : Nat} {y : ST × ST} (hi : i + 6 ≤ L) (hs : s_alms hc hm = some y) (hce : cells + 3 ≤ 601024 ∧ slots + 18 ≤ 7293034)
    (kk : VL p l e s m args below meth c Q gc gm (cells + 3) (slots + 18) y.1 y.2 2250 [(0, .ref b), (1, .ref (gA gc 0)), (2, .ref (gA gm 0)), (3, .ref (gA gc 395)), (4, .int (nI i))] []) : VL p l e s m args below meth c Q gc gm cells slots hc hm 1310 [(0, .ref b), (1, .ref (gA gc 0)), (2, .ref (gA gm 0)), (3, .ref (gA gc 395)), (4, .int (nI i))] [] := by
  unfold s_alms at hs
  obtain ⟨r, e1, hs⟩ := bnd_some hs
  obtain ⟨q, e2, hs⟩ := bnd_some hs
  by_cases hq : r = q.1
  rotate_left
  · cases ite_f hs hq
  have hs := Option.some.inj (ite_t hs hq)
  subst hs
  refine VL_widen (c' := cells + 3) (s' := slots + 18) (by omega) (by omega) ?_
  refine l_aload_n (pc := 1310) (j := 1) F dL_law_1310 rfl rfl ?_
  refine l_callC (pc := 1311) (As := []) F cl_L_180 dL_law_1311 (kX10_alms e1) rfl rfl rfl (Nat.le_of_ble_eq_true rfl) (by decide) hce ?_
  refine l_aload_n (pc := 1314) (j := 2) F dL_law_1314 rfl rfl ?_
  refine l_callM (pc := 1315) (As := []) F cl_L_183 dL_law_1315 (kX11_alms e2) rfl rfl rfl (Nat.le_of_ble_eq_true rfl) (by decide) hce ?_
  exact l_icmp_eq (pc := 1318) (tgt := 2250) F dL_law_1318 (by decide) (fun _ => kk) (fun q9 => absurd hq q9)
theorem clw_L_round : CLW 184 yL_round cL_round 5 [(0, 10, 13, 18), (0, 10, 17, 13)] 4 := ⟨tw_1081, tw_0, tw_1083, by decide, by decide +kernel, by decide +kernel, by decide +kernel, tw_1082⟩
def s_round (hc hm : ST) (a1 : Int32) (a2 : Int32) : Option (ST × ST) :=
  bnd (fL_round hc a1 a2) fun r => bnd (fX11_round hm a1 a2) fun q => bnd (fX11_thrown q.2) fun t => if t = r.1 then (if r.1 = 0 then (if r.2 395 0 = q.1 then some (r.2, q.2) else none) else some (r.2, q.2)) else none
set_option maxRecDepth 100000 in
set_option maxHeartbeats 4000000 in
theorem ca_round (hT : l.stackTraces = false) (F : FL p s m args meth c gc gm b L xs) {i : Nat} {y : ST × ST} (hi : i + 6 ≤ L) (hs : s_round hc hm (xs (i + 1)) (xs (i + 2)) = some y) (hce : cells + 3 ≤ 601024 ∧ slots + 18 ≤ 7293034)
    (kk : VL p l e s m args below meth c Q gc gm (cells + 3) (slots + 18) y.1 y.2 2250 [(0, .ref b), (1, .ref (gA gc 0)), (2, .ref (gA gm 0)), (3, .ref (gA gc 395)), (4, .int (nI i))] []) : VL p l e s m args below meth c Q gc gm cells slots hc hm 1323 [(0, .ref b), (1, .ref (gA gc 0)), (2, .ref (gA gm 0)), (3, .ref (gA gc 395)), (4, .int (nI i))] [] := by
  unfold s_round at hs
  obtain ⟨r, e1, hs⟩ := bnd_some hs
  obtain ⟨q, e2, hs⟩ := bnd_some hs
  obtain ⟨t, e3, hs⟩ := bnd_some hs
  by_cases hq : t = r.1
  rotate_left
  · cases ite_f hs hq
  have hs := ite_t hs hq
  refine l_aload_n (pc := 1323) (j := 1) F dL_law_1323 rfl rfl ?_
  refine l_arg (pc := 1324) (i := i) (k := 1) (j4 := 4) F rfl rfl (by omega) rfl rfl ic_1 dL_law_1324 dL_law_1325 dL_law_1327 dL_law_1328 dL_law_1329 ?_
  refine l_arg (pc := 1330) (i := i) (k := 2) (j4 := 4) F rfl rfl (by omega) rfl rfl ic_2 dL_law_1330 dL_law_1331 dL_law_1333 dL_law_1334 dL_law_1335 ?_
  refine l_aload_n (pc := 1336) (j := 3) F dL_law_1336 rfl rfl ?_
  refine l_callW (pc := 1337) (As := [.ref (gA gc 0), .int (xs (i + 1)), .int (xs (i + 2)), .ref (gA gc 395)]) F clw_L_round dL_law_1337 (kL_round hT e1) rfl rfl (Nat.le_of_ble_eq_true rfl) (by decide) (by decide) hce ?_
  refine l_istore (pc := 1340) (lv' := [(0, .ref b), (1, .ref (gA gc 0)), (2, .ref (gA gm 0)), (3, .ref (gA gc 395)), (4, .int (nI i)), (5, .int r.1)]) F dL_law_1340 (by decide) rfl ?_
  refine l_aload_n (pc := 1342) (j := 2) F dL_law_1342 rfl rfl ?_
  refine l_arg (pc := 1343) (i := i) (k := 1) (j4 := 4) F rfl rfl (by omega) rfl rfl ic_1 dL_law_1343 dL_law_1344 dL_law_1346 dL_law_1347 dL_law_1348 ?_
  refine l_arg (pc := 1349) (i := i) (k := 2) (j4 := 4) F rfl rfl (by omega) rfl rfl ic_2 dL_law_1349 dL_law_1350 dL_law_1352 dL_law_1353 dL_law_1354 ?_
  refine l_callM (pc := 1355) (As := [.int (xs (i + 1)), .int (xs (i + 2))]) F cl_L_186 dL_law_1355 (kX11_round e2) rfl rfl rfl (Nat.le_of_ble_eq_true rfl) (by decide) ⟨by omega, by omega⟩ ?_
  refine l_istore (pc := 1358) (lv' := [(0, .ref b), (1, .ref (gA gc 0)), (2, .ref (gA gm 0)), (3, .ref (gA gc 395)), (4, .int (nI i)), (5, .int r.1), (6, .int q.1)]) F dL_law_1358 (by decide) rfl ?_
  refine l_aload_n (pc := 1360) (j := 2) F dL_law_1360 rfl rfl ?_
  refine l_callM (pc := 1361) (As := []) F cl_L_115 dL_law_1361 (kX11_thrown e3) rfl rfl rfl (Nat.le_of_ble_eq_true rfl) (by decide) ⟨by omega, by omega⟩ ?_
  refine l_iload (pc := 1364) (j := 5) F dL_law_1364 rfl ?_
  refine l_icmp_eq (pc := 1366) (tgt := 1371) F dL_law_1366 (by decide) (fun _ => ?_) (fun q9 => absurd hq q9)
  refine l_iload (pc := 1371) (j := 5) F dL_law_1371 rfl ?_
  refine l_if_ne (pc := 1373) (tgt := 1388) F dL_law_1373 (by decide) (fun hz => ?_) (fun hz => ?_)
  · have hs := Option.some.inj (ite_f hs hz)
    subst hs
    refine l_goto (pc := 1388) (tgt := 2250) F dL_law_1388 (by decide) ?_
    exact VL_sub [0, 1, 2, 3, 4] rfl kk
  · have hs := ite_t hs hz
    by_cases hv : r.2 395 0 = q.1
    · have hs := Option.some.inj (ite_t hs hv)
      subst hs
      refine l_aload_n (pc := 1376) (j := 3) F dL_law_1376 rfl rfl ?_
      refine l_iconst (pc := 1377) (v := 0) F dL_law_1377 ic_0 ?_
      refine l_lald (pc := 1378) F dL_law_1378 ?_
      refine l_iload (pc := 1379) (j := 6) F dL_law_1379 rfl ?_
      refine l_i2l (pc := 1381) F dL_law_1381 rfl ?_
      refine l_lcmp (pc := 1382) F dL_law_1382 ?_
      refine l_if_eq (pc := 1383) (tgt := 1388) F dL_law_1383 (by decide) (fun _ => ?_) (fun q9 => absurd (by rw [hv]; exact lg_cmp_self _) q9)
      refine l_goto (pc := 1388) (tgt := 2250) F dL_law_1388 (by decide) ?_
      exact VL_sub [0, 1, 2, 3, 4] rfl kk
    · cases ite_f hs hv
theorem clw_L_shares : CLW 187 yL_shares cL_shares 4 [(0, 9, 12, 13)] 3 := ⟨tw_1098, tw_0, tw_1100, by decide, by decide +kernel, by decide +kernel, by decide +kernel, tw_1099⟩
def s_shares (hc hm : ST) (a1 : Int32) : Option (ST × ST) :=
  bnd (fL_shares hc a1) fun r => bnd (fX11_shares hm a1) fun q => bnd (fX11_thrown q.2) fun t => if t = r.1 then (if r.1 = 0 then (if r.2 395 0 = q.1 then some (r.2, q.2) else none) else some (r.2, q.2)) else none
set_option maxRecDepth 100000 in
set_option maxHeartbeats 4000000 in
theorem ca_shares (hT : l.stackTraces = false) (F : FL p s m args meth c gc gm b L xs) {i : Nat} {y : ST × ST} (hi : i + 6 ≤ L) (hs : s_shares hc hm (xs (i + 1)) = some y) (hce : cells + 3 ≤ 601024 ∧ slots + 18 ≤ 7293034)
    (kk : VL p l e s m args below meth c Q gc gm (cells + 3) (slots + 18) y.1 y.2 2250 [(0, .ref b), (1, .ref (gA gc 0)), (2, .ref (gA gm 0)), (3, .ref (gA gc 395)), (4, .int (nI i))] []) : VL p l e s m args below meth c Q gc gm cells slots hc hm 1391 [(0, .ref b), (1, .ref (gA gc 0)), (2, .ref (gA gm 0)), (3, .ref (gA gc 395)), (4, .int (nI i))] [] := by
  unfold s_shares at hs
  obtain ⟨r, e1, hs⟩ := bnd_some hs
  obtain ⟨q, e2, hs⟩ := bnd_some hs
  obtain ⟨t, e3, hs⟩ := bnd_some hs
  by_cases hq : t = r.1
  rotate_left
  · cases ite_f hs hq
  have hs := ite_t hs hq
  refine l_aload_n (pc := 1391) (j := 1) F dL_law_1391 rfl rfl ?_
  refine l_arg (pc := 1392) (i := i) (k := 1) (j4 := 4) F rfl rfl (by omega) rfl rfl ic_1 dL_law_1392 dL_law_1393 dL_law_1395 dL_law_1396 dL_law_1397 ?_
  refine l_aload_n (pc := 1398) (j := 3) F dL_law_1398 rfl rfl ?_
  refine l_callW (pc := 1399) (As := [.ref (gA gc 0), .int (xs (i + 1)), .ref (gA gc 395)]) F clw_L_shares dL_law_1399 (kL_shares hT e1) rfl rfl (Nat.le_of_ble_eq_true rfl) (by decide) (by decide) hce ?_
  refine l_istore (pc := 1402) (lv' := [(0, .ref b), (1, .ref (gA gc 0)), (2, .ref (gA gm 0)), (3, .ref (gA gc 395)), (4, .int (nI i)), (5, .int r.1)]) F dL_law_1402 (by decide) rfl ?_
  refine l_aload_n (pc := 1404) (j := 2) F dL_law_1404 rfl rfl ?_
  refine l_arg (pc := 1405) (i := i) (k := 1) (j4 := 4) F rfl rfl (by omega) rfl rfl ic_1 dL_law_1405 dL_law_1406 dL_law_1408 dL_law_1409 dL_law_1410 ?_
  refine l_callM (pc := 1411) (As := [.int (xs (i + 1))]) F cl_L_189 dL_law_1411 (kX11_shares e2) rfl rfl rfl (Nat.le_of_ble_eq_true rfl) (by decide) ⟨by omega, by omega⟩ ?_
  refine l_istore (pc := 1414) (lv' := [(0, .ref b), (1, .ref (gA gc 0)), (2, .ref (gA gm 0)), (3, .ref (gA gc 395)), (4, .int (nI i)), (5, .int r.1), (6, .int q.1)]) F dL_law_1414 (by decide) rfl ?_
  refine l_aload_n (pc := 1416) (j := 2) F dL_law_1416 rfl rfl ?_
  refine l_callM (pc := 1417) (As := []) F cl_L_115 dL_law_1417 (kX11_thrown e3) rfl rfl rfl (Nat.le_of_ble_eq_true rfl) (by decide) ⟨by omega, by omega⟩ ?_
  refine l_iload (pc := 1420) (j := 5) F dL_law_1420 rfl ?_
  refine l_icmp_eq (pc := 1422) (tgt := 1427) F dL_law_1422 (by decide) (fun _ => ?_) (fun q9 => absurd hq q9)
  refine l_iload (pc := 1427) (j := 5) F dL_law_1427 rfl ?_
  refine l_if_ne (pc := 1429) (tgt := 1444) F dL_law_1429 (by decide) (fun hz => ?_) (fun hz => ?_)
  · have hs := Option.some.inj (ite_f hs hz)
    subst hs
    refine l_goto (pc := 1444) (tgt := 2250) F dL_law_1444 (by decide) ?_
    exact VL_sub [0, 1, 2, 3, 4] rfl kk
  · have hs := ite_t hs hz
    by_cases hv : r.2 395 0 = q.1
    · have hs := Option.some.inj (ite_t hs hv)
      subst hs
      refine l_aload_n (pc := 1432) (j := 3) F dL_law_1432 rfl rfl ?_
      refine l_iconst (pc := 1433) (v := 0) F dL_law_1433 ic_0 ?_
      refine l_lald (pc := 1434) F dL_law_1434 ?_
      refine l_iload (pc := 1435) (j := 6) F dL_law_1435 rfl ?_
      refine l_i2l (pc := 1437) F dL_law_1437 rfl ?_
      refine l_lcmp (pc := 1438) F dL_law_1438 ?_
      refine l_if_eq (pc := 1439) (tgt := 1444) F dL_law_1439 (by decide) (fun _ => ?_) (fun q9 => absurd (by rw [hv]; exact lg_cmp_self _) q9)
      refine l_goto (pc := 1444) (tgt := 2250) F dL_law_1444 (by decide) ?_
      exact VL_sub [0, 1, 2, 3, 4] rfl kk
    · cases ite_f hs hv
theorem clw_L_from : CLW 190 yL_from cL_from 6 [(0, 12, 15, 18), (0, 12, 19, 13)] 5 := ⟨tw_1110, tw_0, tw_1112, by decide, by decide +kernel, by decide +kernel, by decide +kernel, tw_1111⟩
def s_from (hc hm : ST) (a1 : Int32) (a2 : Int32) (a3 : Int32) : Option (ST × ST) :=
  bnd (fL_from hc a1 a2 a3) fun r => bnd (fX11_from hm a1 a2 a3) fun q => bnd (fX11_thrown q.2) fun t => if t = r.1 then (if r.1 = 0 then (if r.2 395 0 = q.1 then some (r.2, q.2) else none) else some (r.2, q.2)) else none
set_option maxRecDepth 100000 in
set_option maxHeartbeats 4000000 in
theorem ca_from (hT : l.stackTraces = false) (F : FL p s m args meth c gc gm b L xs) {i : Nat} {y : ST × ST} (hi : i + 6 ≤ L) (hs : s_from hc hm (xs (i + 1)) (xs (i + 2)) (xs (i + 3)) = some y) (hce : cells + 3 ≤ 601024 ∧ slots + 18 ≤ 7293034)
    (kk : VL p l e s m args below meth c Q gc gm (cells + 3) (slots + 18) y.1 y.2 2250 [(0, .ref b), (1, .ref (gA gc 0)), (2, .ref (gA gm 0)), (3, .ref (gA gc 395)), (4, .int (nI i))] []) : VL p l e s m args below meth c Q gc gm cells slots hc hm 1447 [(0, .ref b), (1, .ref (gA gc 0)), (2, .ref (gA gm 0)), (3, .ref (gA gc 395)), (4, .int (nI i))] [] := by
  unfold s_from at hs
  obtain ⟨r, e1, hs⟩ := bnd_some hs
  obtain ⟨q, e2, hs⟩ := bnd_some hs
  obtain ⟨t, e3, hs⟩ := bnd_some hs
  by_cases hq : t = r.1
  rotate_left
  · cases ite_f hs hq
  have hs := ite_t hs hq
  refine l_aload_n (pc := 1447) (j := 1) F dL_law_1447 rfl rfl ?_
  refine l_arg (pc := 1448) (i := i) (k := 1) (j4 := 4) F rfl rfl (by omega) rfl rfl ic_1 dL_law_1448 dL_law_1449 dL_law_1451 dL_law_1452 dL_law_1453 ?_
  refine l_arg (pc := 1454) (i := i) (k := 2) (j4 := 4) F rfl rfl (by omega) rfl rfl ic_2 dL_law_1454 dL_law_1455 dL_law_1457 dL_law_1458 dL_law_1459 ?_
  refine l_arg (pc := 1460) (i := i) (k := 3) (j4 := 4) F rfl rfl (by omega) rfl rfl ic_3 dL_law_1460 dL_law_1461 dL_law_1463 dL_law_1464 dL_law_1465 ?_
  refine l_aload_n (pc := 1466) (j := 3) F dL_law_1466 rfl rfl ?_
  refine l_callW (pc := 1467) (As := [.ref (gA gc 0), .int (xs (i + 1)), .int (xs (i + 2)), .int (xs (i + 3)), .ref (gA gc 395)]) F clw_L_from dL_law_1467 (kL_from hT e1) rfl rfl (Nat.le_of_ble_eq_true rfl) (by decide) (by decide) hce ?_
  refine l_istore (pc := 1470) (lv' := [(0, .ref b), (1, .ref (gA gc 0)), (2, .ref (gA gm 0)), (3, .ref (gA gc 395)), (4, .int (nI i)), (5, .int r.1)]) F dL_law_1470 (by decide) rfl ?_
  refine l_aload_n (pc := 1472) (j := 2) F dL_law_1472 rfl rfl ?_
  refine l_arg (pc := 1473) (i := i) (k := 1) (j4 := 4) F rfl rfl (by omega) rfl rfl ic_1 dL_law_1473 dL_law_1474 dL_law_1476 dL_law_1477 dL_law_1478 ?_
  refine l_arg (pc := 1479) (i := i) (k := 2) (j4 := 4) F rfl rfl (by omega) rfl rfl ic_2 dL_law_1479 dL_law_1480 dL_law_1482 dL_law_1483 dL_law_1484 ?_
  refine l_arg (pc := 1485) (i := i) (k := 3) (j4 := 4) F rfl rfl (by omega) rfl rfl ic_3 dL_law_1485 dL_law_1486 dL_law_1488 dL_law_1489 dL_law_1490 ?_
  refine l_callM (pc := 1491) (As := [.int (xs (i + 1)), .int (xs (i + 2)), .int (xs (i + 3))]) F cl_L_192 dL_law_1491 (kX11_from e2) rfl rfl rfl (Nat.le_of_ble_eq_true rfl) (by decide) ⟨by omega, by omega⟩ ?_
  refine l_istore (pc := 1494) (lv' := [(0, .ref b), (1, .ref (gA gc 0)), (2, .ref (gA gm 0)), (3, .ref (gA gc 395)), (4, .int (nI i)), (5, .int r.1), (6, .int q.1)]) F dL_law_1494 (by decide) rfl ?_
  refine l_aload_n (pc := 1496) (j := 2) F dL_law_1496 rfl rfl ?_
  refine l_callM (pc := 1497) (As := []) F cl_L_115 dL_law_1497 (kX11_thrown e3) rfl rfl rfl (Nat.le_of_ble_eq_true rfl) (by decide) ⟨by omega, by omega⟩ ?_
  refine l_iload (pc := 1500) (j := 5) F dL_law_1500 rfl ?_
  refine l_icmp_eq (pc := 1502) (tgt := 1507) F dL_law_1502 (by decide) (fun _ => ?_) (fun q9 => absurd hq q9)
  refine l_iload (pc := 1507) (j := 5) F dL_law_1507 rfl ?_
  refine l_if_ne (pc := 1509) (tgt := 1524) F dL_law_1509 (by decide) (fun hz => ?_) (fun hz => ?_)
  · have hs := Option.some.inj (ite_f hs hz)
    subst hs
    refine l_goto (pc := 1524) (tgt := 2250) F dL_law_1524 (by decide) ?_
    exact VL_sub [0, 1, 2, 3, 4] rfl kk
  · have hs := ite_t hs hz
    by_cases hv : r.2 395 0 = q.1
    · have hs := Option.some.inj (ite_t hs hv)
      subst hs
      refine l_aload_n (pc := 1512) (j := 3) F dL_law_1512 rfl rfl ?_
      refine l_iconst (pc := 1513) (v := 0) F dL_law_1513 ic_0 ?_
      refine l_lald (pc := 1514) F dL_law_1514 ?_
      refine l_iload (pc := 1515) (j := 6) F dL_law_1515 rfl ?_
      refine l_i2l (pc := 1517) F dL_law_1517 rfl ?_
      refine l_lcmp (pc := 1518) F dL_law_1518 ?_
      refine l_if_eq (pc := 1519) (tgt := 1524) F dL_law_1519 (by decide) (fun _ => ?_) (fun q9 => absurd (by rw [hv]; exact lg_cmp_self _) q9)
      refine l_goto (pc := 1524) (tgt := 2250) F dL_law_1524 (by decide) ?_
      exact VL_sub [0, 1, 2, 3, 4] rfl kk
    · cases ite_f hs hv
theorem clw_L_poorest : CLW 193 yL_poorest cL_poorest 4 [(0, 9, 12, 13)] 3 := ⟨tw_1122, tw_0, tw_1124, by decide, by decide +kernel, by decide +kernel, by decide +kernel, tw_1123⟩
def s_poorest (hc hm : ST) (a1 : Int32) : Option (ST × ST) :=
  bnd (fL_poorest hc a1) fun r => bnd (fX11_poorest hm a1) fun q => bnd (fX11_thrown q.2) fun t => if t = r.1 then (if r.1 = 0 then (if r.2 395 0 = q.1 then some (r.2, q.2) else none) else some (r.2, q.2)) else none
set_option maxRecDepth 100000 in
set_option maxHeartbeats 4000000 in
theorem ca_poorest (hT : l.stackTraces = false) (F : FL p s m args meth c gc gm b L xs) {i : Nat} {y : ST × ST} (hi : i + 6 ≤ L) (hs : s_poorest hc hm (xs (i + 1)) = some y) (hce : cells + 3 ≤ 601024 ∧ slots + 18 ≤ 7293034)
    (kk : VL p l e s m args below meth c Q gc gm (cells + 3) (slots + 18) y.1 y.2 2250 [(0, .ref b), (1, .ref (gA gc 0)), (2, .ref (gA gm 0)), (3, .ref (gA gc 395)), (4, .int (nI i))] []) : VL p l e s m args below meth c Q gc gm cells slots hc hm 1527 [(0, .ref b), (1, .ref (gA gc 0)), (2, .ref (gA gm 0)), (3, .ref (gA gc 395)), (4, .int (nI i))] [] := by
  unfold s_poorest at hs
  obtain ⟨r, e1, hs⟩ := bnd_some hs
  obtain ⟨q, e2, hs⟩ := bnd_some hs
  obtain ⟨t, e3, hs⟩ := bnd_some hs
  by_cases hq : t = r.1
  rotate_left
  · cases ite_f hs hq
  have hs := ite_t hs hq
  refine l_aload_n (pc := 1527) (j := 1) F dL_law_1527 rfl rfl ?_
  refine l_arg (pc := 1528) (i := i) (k := 1) (j4 := 4) F rfl rfl (by omega) rfl rfl ic_1 dL_law_1528 dL_law_1529 dL_law_1531 dL_law_1532 dL_law_1533 ?_
  refine l_aload_n (pc := 1534) (j := 3) F dL_law_1534 rfl rfl ?_
  refine l_callW (pc := 1535) (As := [.ref (gA gc 0), .int (xs (i + 1)), .ref (gA gc 395)]) F clw_L_poorest dL_law_1535 (kL_poorest hT e1) rfl rfl (Nat.le_of_ble_eq_true rfl) (by decide) (by decide) hce ?_
  refine l_istore (pc := 1538) (lv' := [(0, .ref b), (1, .ref (gA gc 0)), (2, .ref (gA gm 0)), (3, .ref (gA gc 395)), (4, .int (nI i)), (5, .int r.1)]) F dL_law_1538 (by decide) rfl ?_
  refine l_aload_n (pc := 1540) (j := 2) F dL_law_1540 rfl rfl ?_
  refine l_arg (pc := 1541) (i := i) (k := 1) (j4 := 4) F rfl rfl (by omega) rfl rfl ic_1 dL_law_1541 dL_law_1542 dL_law_1544 dL_law_1545 dL_law_1546 ?_
  refine l_callM (pc := 1547) (As := [.int (xs (i + 1))]) F cl_L_195 dL_law_1547 (kX11_poorest e2) rfl rfl rfl (Nat.le_of_ble_eq_true rfl) (by decide) ⟨by omega, by omega⟩ ?_
  refine l_istore (pc := 1550) (lv' := [(0, .ref b), (1, .ref (gA gc 0)), (2, .ref (gA gm 0)), (3, .ref (gA gc 395)), (4, .int (nI i)), (5, .int r.1), (6, .int q.1)]) F dL_law_1550 (by decide) rfl ?_
  refine l_aload_n (pc := 1552) (j := 2) F dL_law_1552 rfl rfl ?_
  refine l_callM (pc := 1553) (As := []) F cl_L_115 dL_law_1553 (kX11_thrown e3) rfl rfl rfl (Nat.le_of_ble_eq_true rfl) (by decide) ⟨by omega, by omega⟩ ?_
  refine l_iload (pc := 1556) (j := 5) F dL_law_1556 rfl ?_
  refine l_icmp_eq (pc := 1558) (tgt := 1563) F dL_law_1558 (by decide) (fun _ => ?_) (fun q9 => absurd hq q9)
  refine l_iload (pc := 1563) (j := 5) F dL_law_1563 rfl ?_
  refine l_if_ne (pc := 1565) (tgt := 1580) F dL_law_1565 (by decide) (fun hz => ?_) (fun hz => ?_)
  · have hs := Option.some.inj (ite_f hs hz)
    subst hs
    refine l_goto (pc := 1580) (tgt := 2250) F dL_law_1580 (by decide) ?_
    exact VL_sub [0, 1, 2, 3, 4] rfl kk
  · have hs := ite_t hs hz
    by_cases hv : r.2 395 0 = q.1
    · have hs := Option.some.inj (ite_t hs hv)
      subst hs
      refine l_aload_n (pc := 1568) (j := 3) F dL_law_1568 rfl rfl ?_
      refine l_iconst (pc := 1569) (v := 0) F dL_law_1569 ic_0 ?_
      refine l_lald (pc := 1570) F dL_law_1570 ?_
      refine l_iload (pc := 1571) (j := 6) F dL_law_1571 rfl ?_
      refine l_i2l (pc := 1573) F dL_law_1573 rfl ?_
      refine l_lcmp (pc := 1574) F dL_law_1574 ?_
      refine l_if_eq (pc := 1575) (tgt := 1580) F dL_law_1575 (by decide) (fun _ => ?_) (fun q9 => absurd (by rw [hv]; exact lg_cmp_self _) q9)
      refine l_goto (pc := 1580) (tgt := 2250) F dL_law_1580 (by decide) ?_
      exact VL_sub [0, 1, 2, 3, 4] rfl kk
    · cases ite_f hs hv
theorem clw_L_fullest : CLW 196 yL_fullest cL_fullest 4 [(0, 9, 12, 13)] 3 := ⟨tw_1129, tw_0, tw_1131, by decide, by decide +kernel, by decide +kernel, by decide +kernel, tw_1130⟩
def s_fullest (hc hm : ST) (a1 : Int32) : Option (ST × ST) :=
  bnd (fL_fullest hc a1) fun r => bnd (fX11_fullest hm a1) fun q => bnd (fX11_thrown q.2) fun t => if t = r.1 then (if r.1 = 0 then (if r.2 395 0 = q.1 then some (r.2, q.2) else none) else some (r.2, q.2)) else none
set_option maxRecDepth 100000 in
set_option maxHeartbeats 4000000 in
theorem ca_fullest (hT : l.stackTraces = false) (F : FL p s m args meth c gc gm b L xs) {i : Nat} {y : ST × ST} (hi : i + 6 ≤ L) (hs : s_fullest hc hm (xs (i + 1)) = some y) (hce : cells + 3 ≤ 601024 ∧ slots + 18 ≤ 7293034)
    (kk : VL p l e s m args below meth c Q gc gm (cells + 3) (slots + 18) y.1 y.2 2250 [(0, .ref b), (1, .ref (gA gc 0)), (2, .ref (gA gm 0)), (3, .ref (gA gc 395)), (4, .int (nI i))] []) : VL p l e s m args below meth c Q gc gm cells slots hc hm 1583 [(0, .ref b), (1, .ref (gA gc 0)), (2, .ref (gA gm 0)), (3, .ref (gA gc 395)), (4, .int (nI i))] [] := by
  unfold s_fullest at hs
  obtain ⟨r, e1, hs⟩ := bnd_some hs
  obtain ⟨q, e2, hs⟩ := bnd_some hs
  obtain ⟨t, e3, hs⟩ := bnd_some hs
  by_cases hq : t = r.1
  rotate_left
  · cases ite_f hs hq
  have hs := ite_t hs hq
  refine l_aload_n (pc := 1583) (j := 1) F dL_law_1583 rfl rfl ?_
  refine l_arg (pc := 1584) (i := i) (k := 1) (j4 := 4) F rfl rfl (by omega) rfl rfl ic_1 dL_law_1584 dL_law_1585 dL_law_1587 dL_law_1588 dL_law_1589 ?_
  refine l_aload_n (pc := 1590) (j := 3) F dL_law_1590 rfl rfl ?_
  refine l_callW (pc := 1591) (As := [.ref (gA gc 0), .int (xs (i + 1)), .ref (gA gc 395)]) F clw_L_fullest dL_law_1591 (kL_fullest hT e1) rfl rfl (Nat.le_of_ble_eq_true rfl) (by decide) (by decide) hce ?_
  refine l_istore (pc := 1594) (lv' := [(0, .ref b), (1, .ref (gA gc 0)), (2, .ref (gA gm 0)), (3, .ref (gA gc 395)), (4, .int (nI i)), (5, .int r.1)]) F dL_law_1594 (by decide) rfl ?_
  refine l_aload_n (pc := 1596) (j := 2) F dL_law_1596 rfl rfl ?_
  refine l_arg (pc := 1597) (i := i) (k := 1) (j4 := 4) F rfl rfl (by omega) rfl rfl ic_1 dL_law_1597 dL_law_1598 dL_law_1600 dL_law_1601 dL_law_1602 ?_
  refine l_callM (pc := 1603) (As := [.int (xs (i + 1))]) F cl_L_198 dL_law_1603 (kX11_fullest e2) rfl rfl rfl (Nat.le_of_ble_eq_true rfl) (by decide) ⟨by omega, by omega⟩ ?_
  refine l_istore (pc := 1606) (lv' := [(0, .ref b), (1, .ref (gA gc 0)), (2, .ref (gA gm 0)), (3, .ref (gA gc 395)), (4, .int (nI i)), (5, .int r.1), (6, .int q.1)]) F dL_law_1606 (by decide) rfl ?_
  refine l_aload_n (pc := 1608) (j := 2) F dL_law_1608 rfl rfl ?_
  refine l_callM (pc := 1609) (As := []) F cl_L_115 dL_law_1609 (kX11_thrown e3) rfl rfl rfl (Nat.le_of_ble_eq_true rfl) (by decide) ⟨by omega, by omega⟩ ?_
  refine l_iload (pc := 1612) (j := 5) F dL_law_1612 rfl ?_
  refine l_icmp_eq (pc := 1614) (tgt := 1619) F dL_law_1614 (by decide) (fun _ => ?_) (fun q9 => absurd hq q9)
  refine l_iload (pc := 1619) (j := 5) F dL_law_1619 rfl ?_
  refine l_if_ne (pc := 1621) (tgt := 1636) F dL_law_1621 (by decide) (fun hz => ?_) (fun hz => ?_)
  · have hs := Option.some.inj (ite_f hs hz)
    subst hs
    refine l_goto (pc := 1636) (tgt := 2250) F dL_law_1636 (by decide) ?_
    exact VL_sub [0, 1, 2, 3, 4] rfl kk
  · have hs := ite_t hs hz
    by_cases hv : r.2 395 0 = q.1
    · have hs := Option.some.inj (ite_t hs hv)
      subst hs
      refine l_aload_n (pc := 1624) (j := 3) F dL_law_1624 rfl rfl ?_
      refine l_iconst (pc := 1625) (v := 0) F dL_law_1625 ic_0 ?_
      refine l_lald (pc := 1626) F dL_law_1626 ?_
      refine l_iload (pc := 1627) (j := 6) F dL_law_1627 rfl ?_
      refine l_i2l (pc := 1629) F dL_law_1629 rfl ?_
      refine l_lcmp (pc := 1630) F dL_law_1630 ?_
      refine l_if_eq (pc := 1631) (tgt := 1636) F dL_law_1631 (by decide) (fun _ => ?_) (fun q9 => absurd (by rw [hv]; exact lg_cmp_self _) q9)
      refine l_goto (pc := 1636) (tgt := 2250) F dL_law_1636 (by decide) ?_
      exact VL_sub [0, 1, 2, 3, 4] rfl kk
    · cases ite_f hs hv
theorem clw_L_change : CLW 199 yL_change cL_change 4 [(0, 9, 12, 13)] 3 := ⟨tw_1136, tw_0, tw_1138, by decide, by decide +kernel, by decide +kernel, by decide +kernel, tw_1137⟩
def s_change (hc hm : ST) (a1 : Int32) : Option (ST × ST) :=
  bnd (fL_change hc a1) fun r => bnd (fX11_change hm a1) fun q => bnd (fX11_thrown q.2) fun t => if t = r.1 then (if r.1 = 0 then (if r.2 395 0 = q.1 then some (r.2, q.2) else none) else some (r.2, q.2)) else none
set_option maxRecDepth 100000 in
set_option maxHeartbeats 4000000 in
theorem ca_change (hT : l.stackTraces = false) (F : FL p s m args meth c gc gm b L xs) {i : Nat} {y : ST × ST} (hi : i + 6 ≤ L) (hs : s_change hc hm (xs (i + 1)) = some y) (hce : cells + 3 ≤ 601024 ∧ slots + 18 ≤ 7293034)
    (kk : VL p l e s m args below meth c Q gc gm (cells + 3) (slots + 18) y.1 y.2 2250 [(0, .ref b), (1, .ref (gA gc 0)), (2, .ref (gA gm 0)), (3, .ref (gA gc 395)), (4, .int (nI i))] []) : VL p l e s m args below meth c Q gc gm cells slots hc hm 1639 [(0, .ref b), (1, .ref (gA gc 0)), (2, .ref (gA gm 0)), (3, .ref (gA gc 395)), (4, .int (nI i))] [] := by
  unfold s_change at hs
  obtain ⟨r, e1, hs⟩ := bnd_some hs
  obtain ⟨q, e2, hs⟩ := bnd_some hs
  obtain ⟨t, e3, hs⟩ := bnd_some hs
  by_cases hq : t = r.1
  rotate_left
  · cases ite_f hs hq
  have hs := ite_t hs hq
  refine l_aload_n (pc := 1639) (j := 1) F dL_law_1639 rfl rfl ?_
  refine l_arg (pc := 1640) (i := i) (k := 1) (j4 := 4) F rfl rfl (by omega) rfl rfl ic_1 dL_law_1640 dL_law_1641 dL_law_1643 dL_law_1644 dL_law_1645 ?_
  refine l_aload_n (pc := 1646) (j := 3) F dL_law_1646 rfl rfl ?_
  refine l_callW (pc := 1647) (As := [.ref (gA gc 0), .int (xs (i + 1)), .ref (gA gc 395)]) F clw_L_change dL_law_1647 (kL_change hT e1) rfl rfl (Nat.le_of_ble_eq_true rfl) (by decide) (by decide) hce ?_
  refine l_istore (pc := 1650) (lv' := [(0, .ref b), (1, .ref (gA gc 0)), (2, .ref (gA gm 0)), (3, .ref (gA gc 395)), (4, .int (nI i)), (5, .int r.1)]) F dL_law_1650 (by decide) rfl ?_
  refine l_aload_n (pc := 1652) (j := 2) F dL_law_1652 rfl rfl ?_
  refine l_arg (pc := 1653) (i := i) (k := 1) (j4 := 4) F rfl rfl (by omega) rfl rfl ic_1 dL_law_1653 dL_law_1654 dL_law_1656 dL_law_1657 dL_law_1658 ?_
  refine l_callM (pc := 1659) (As := [.int (xs (i + 1))]) F cl_L_201 dL_law_1659 (kX11_change e2) rfl rfl rfl (Nat.le_of_ble_eq_true rfl) (by decide) ⟨by omega, by omega⟩ ?_
  refine l_istore (pc := 1662) (lv' := [(0, .ref b), (1, .ref (gA gc 0)), (2, .ref (gA gm 0)), (3, .ref (gA gc 395)), (4, .int (nI i)), (5, .int r.1), (6, .int q.1)]) F dL_law_1662 (by decide) rfl ?_
  refine l_aload_n (pc := 1664) (j := 2) F dL_law_1664 rfl rfl ?_
  refine l_callM (pc := 1665) (As := []) F cl_L_115 dL_law_1665 (kX11_thrown e3) rfl rfl rfl (Nat.le_of_ble_eq_true rfl) (by decide) ⟨by omega, by omega⟩ ?_
  refine l_iload (pc := 1668) (j := 5) F dL_law_1668 rfl ?_
  refine l_icmp_eq (pc := 1670) (tgt := 1675) F dL_law_1670 (by decide) (fun _ => ?_) (fun q9 => absurd hq q9)
  refine l_iload (pc := 1675) (j := 5) F dL_law_1675 rfl ?_
  refine l_if_ne (pc := 1677) (tgt := 1692) F dL_law_1677 (by decide) (fun hz => ?_) (fun hz => ?_)
  · have hs := Option.some.inj (ite_f hs hz)
    subst hs
    refine l_goto (pc := 1692) (tgt := 2250) F dL_law_1692 (by decide) ?_
    exact VL_sub [0, 1, 2, 3, 4] rfl kk
  · have hs := ite_t hs hz
    by_cases hv : r.2 395 0 = q.1
    · have hs := Option.some.inj (ite_t hs hv)
      subst hs
      refine l_aload_n (pc := 1680) (j := 3) F dL_law_1680 rfl rfl ?_
      refine l_iconst (pc := 1681) (v := 0) F dL_law_1681 ic_0 ?_
      refine l_lald (pc := 1682) F dL_law_1682 ?_
      refine l_iload (pc := 1683) (j := 6) F dL_law_1683 rfl ?_
      refine l_i2l (pc := 1685) F dL_law_1685 rfl ?_
      refine l_lcmp (pc := 1686) F dL_law_1686 ?_
      refine l_if_eq (pc := 1687) (tgt := 1692) F dL_law_1687 (by decide) (fun _ => ?_) (fun q9 => absurd (by rw [hv]; exact lg_cmp_self _) q9)
      refine l_goto (pc := 1692) (tgt := 2250) F dL_law_1692 (by decide) ?_
      exact VL_sub [0, 1, 2, 3, 4] rfl kk
    · cases ite_f hs hv
theorem clw_L_lend : CLW 202 yL_lend cL_lend 4 [(0, 9, 12, 18)] 3 := ⟨tw_1147, tw_0, tw_1149, by decide, by decide +kernel, by decide +kernel, by decide +kernel, tw_1148⟩
def s_lend (hc hm : ST) (a1 : Int32) : Option (ST × ST) :=
  bnd (fL_lend hc a1) fun r => bnd (fX11_lend hm a1) fun q => bnd (fX11_thrown q.2) fun t => if t = r.1 then (if r.1 = 0 then (if r.2 395 0 = q.1 then some (r.2, q.2) else none) else some (r.2, q.2)) else none
set_option maxRecDepth 100000 in
set_option maxHeartbeats 4000000 in
theorem ca_lend (hT : l.stackTraces = false) (F : FL p s m args meth c gc gm b L xs) {i : Nat} {y : ST × ST} (hi : i + 6 ≤ L) (hs : s_lend hc hm (xs (i + 1)) = some y) (hce : cells + 3 ≤ 601024 ∧ slots + 18 ≤ 7293034)
    (kk : VL p l e s m args below meth c Q gc gm (cells + 3) (slots + 18) y.1 y.2 2250 [(0, .ref b), (1, .ref (gA gc 0)), (2, .ref (gA gm 0)), (3, .ref (gA gc 395)), (4, .int (nI i))] []) : VL p l e s m args below meth c Q gc gm cells slots hc hm 1695 [(0, .ref b), (1, .ref (gA gc 0)), (2, .ref (gA gm 0)), (3, .ref (gA gc 395)), (4, .int (nI i))] [] := by
  unfold s_lend at hs
  obtain ⟨r, e1, hs⟩ := bnd_some hs
  obtain ⟨q, e2, hs⟩ := bnd_some hs
  obtain ⟨t, e3, hs⟩ := bnd_some hs
  by_cases hq : t = r.1
  rotate_left
  · cases ite_f hs hq
  have hs := ite_t hs hq
  refine l_aload_n (pc := 1695) (j := 1) F dL_law_1695 rfl rfl ?_
  refine l_arg (pc := 1696) (i := i) (k := 1) (j4 := 4) F rfl rfl (by omega) rfl rfl ic_1 dL_law_1696 dL_law_1697 dL_law_1699 dL_law_1700 dL_law_1701 ?_
  refine l_aload_n (pc := 1702) (j := 3) F dL_law_1702 rfl rfl ?_
  refine l_callW (pc := 1703) (As := [.ref (gA gc 0), .int (xs (i + 1)), .ref (gA gc 395)]) F clw_L_lend dL_law_1703 (kL_lend hT e1) rfl rfl (Nat.le_of_ble_eq_true rfl) (by decide) (by decide) hce ?_
  refine l_istore (pc := 1706) (lv' := [(0, .ref b), (1, .ref (gA gc 0)), (2, .ref (gA gm 0)), (3, .ref (gA gc 395)), (4, .int (nI i)), (5, .int r.1)]) F dL_law_1706 (by decide) rfl ?_
  refine l_aload_n (pc := 1708) (j := 2) F dL_law_1708 rfl rfl ?_
  refine l_arg (pc := 1709) (i := i) (k := 1) (j4 := 4) F rfl rfl (by omega) rfl rfl ic_1 dL_law_1709 dL_law_1710 dL_law_1712 dL_law_1713 dL_law_1714 ?_
  refine l_callM (pc := 1715) (As := [.int (xs (i + 1))]) F cl_L_204 dL_law_1715 (kX11_lend e2) rfl rfl rfl (Nat.le_of_ble_eq_true rfl) (by decide) ⟨by omega, by omega⟩ ?_
  refine l_istore (pc := 1718) (lv' := [(0, .ref b), (1, .ref (gA gc 0)), (2, .ref (gA gm 0)), (3, .ref (gA gc 395)), (4, .int (nI i)), (5, .int r.1), (6, .int q.1)]) F dL_law_1718 (by decide) rfl ?_
  refine l_aload_n (pc := 1720) (j := 2) F dL_law_1720 rfl rfl ?_
  refine l_callM (pc := 1721) (As := []) F cl_L_115 dL_law_1721 (kX11_thrown e3) rfl rfl rfl (Nat.le_of_ble_eq_true rfl) (by decide) ⟨by omega, by omega⟩ ?_
  refine l_iload (pc := 1724) (j := 5) F dL_law_1724 rfl ?_
  refine l_icmp_eq (pc := 1726) (tgt := 1731) F dL_law_1726 (by decide) (fun _ => ?_) (fun q9 => absurd hq q9)
  refine l_iload (pc := 1731) (j := 5) F dL_law_1731 rfl ?_
  refine l_if_ne (pc := 1733) (tgt := 1748) F dL_law_1733 (by decide) (fun hz => ?_) (fun hz => ?_)
  · have hs := Option.some.inj (ite_f hs hz)
    subst hs
    refine l_goto (pc := 1748) (tgt := 2250) F dL_law_1748 (by decide) ?_
    exact VL_sub [0, 1, 2, 3, 4] rfl kk
  · have hs := ite_t hs hz
    by_cases hv : r.2 395 0 = q.1
    · have hs := Option.some.inj (ite_t hs hv)
      subst hs
      refine l_aload_n (pc := 1736) (j := 3) F dL_law_1736 rfl rfl ?_
      refine l_iconst (pc := 1737) (v := 0) F dL_law_1737 ic_0 ?_
      refine l_lald (pc := 1738) F dL_law_1738 ?_
      refine l_iload (pc := 1739) (j := 6) F dL_law_1739 rfl ?_
      refine l_i2l (pc := 1741) F dL_law_1741 rfl ?_
      refine l_lcmp (pc := 1742) F dL_law_1742 ?_
      refine l_if_eq (pc := 1743) (tgt := 1748) F dL_law_1743 (by decide) (fun _ => ?_) (fun q9 => absurd (by rw [hv]; exact lg_cmp_self _) q9)
      refine l_goto (pc := 1748) (tgt := 2250) F dL_law_1748 (by decide) ?_
      exact VL_sub [0, 1, 2, 3, 4] rfl kk
    · cases ite_f hs hv
theorem clw_L_often : CLW 205 yL_often cL_often 4 [(0, 9, 12, 13)] 3 := ⟨tw_1154, tw_0, tw_1156, by decide, by decide +kernel, by decide +kernel, by decide +kernel, tw_1155⟩
def s_often (hc hm : ST) (a1 : Int32) : Option (ST × ST) :=
  bnd (fL_often hc a1) fun r => bnd (fX11_often hm a1) fun q => bnd (fX11_thrown q.2) fun t => if t = r.1 then (if r.1 = 0 then (if r.2 395 0 = q.1 then some (r.2, q.2) else none) else some (r.2, q.2)) else none
set_option maxRecDepth 100000 in
set_option maxHeartbeats 4000000 in
theorem ca_often (hT : l.stackTraces = false) (F : FL p s m args meth c gc gm b L xs) {i : Nat} {y : ST × ST} (hi : i + 6 ≤ L) (hs : s_often hc hm (xs (i + 1)) = some y) (hce : cells + 3 ≤ 601024 ∧ slots + 18 ≤ 7293034)
    (kk : VL p l e s m args below meth c Q gc gm (cells + 3) (slots + 18) y.1 y.2 2250 [(0, .ref b), (1, .ref (gA gc 0)), (2, .ref (gA gm 0)), (3, .ref (gA gc 395)), (4, .int (nI i))] []) : VL p l e s m args below meth c Q gc gm cells slots hc hm 1751 [(0, .ref b), (1, .ref (gA gc 0)), (2, .ref (gA gm 0)), (3, .ref (gA gc 395)), (4, .int (nI i))] [] := by
  unfold s_often at hs
  obtain ⟨r, e1, hs⟩ := bnd_some hs
  obtain ⟨q, e2, hs⟩ := bnd_some hs
  obtain ⟨t, e3, hs⟩ := bnd_some hs
  by_cases hq : t = r.1
  rotate_left
  · cases ite_f hs hq
  have hs := ite_t hs hq
  refine l_aload_n (pc := 1751) (j := 1) F dL_law_1751 rfl rfl ?_
  refine l_arg (pc := 1752) (i := i) (k := 1) (j4 := 4) F rfl rfl (by omega) rfl rfl ic_1 dL_law_1752 dL_law_1753 dL_law_1755 dL_law_1756 dL_law_1757 ?_
  refine l_aload_n (pc := 1758) (j := 3) F dL_law_1758 rfl rfl ?_
  refine l_callW (pc := 1759) (As := [.ref (gA gc 0), .int (xs (i + 1)), .ref (gA gc 395)]) F clw_L_often dL_law_1759 (kL_often hT e1) rfl rfl (Nat.le_of_ble_eq_true rfl) (by decide) (by decide) hce ?_
  refine l_istore (pc := 1762) (lv' := [(0, .ref b), (1, .ref (gA gc 0)), (2, .ref (gA gm 0)), (3, .ref (gA gc 395)), (4, .int (nI i)), (5, .int r.1)]) F dL_law_1762 (by decide) rfl ?_
  refine l_aload_n (pc := 1764) (j := 2) F dL_law_1764 rfl rfl ?_
  refine l_arg (pc := 1765) (i := i) (k := 1) (j4 := 4) F rfl rfl (by omega) rfl rfl ic_1 dL_law_1765 dL_law_1766 dL_law_1768 dL_law_1769 dL_law_1770 ?_
  refine l_callM (pc := 1771) (As := [.int (xs (i + 1))]) F cl_L_207 dL_law_1771 (kX11_often e2) rfl rfl rfl (Nat.le_of_ble_eq_true rfl) (by decide) ⟨by omega, by omega⟩ ?_
  refine l_istore (pc := 1774) (lv' := [(0, .ref b), (1, .ref (gA gc 0)), (2, .ref (gA gm 0)), (3, .ref (gA gc 395)), (4, .int (nI i)), (5, .int r.1), (6, .int q.1)]) F dL_law_1774 (by decide) rfl ?_
  refine l_aload_n (pc := 1776) (j := 2) F dL_law_1776 rfl rfl ?_
  refine l_callM (pc := 1777) (As := []) F cl_L_115 dL_law_1777 (kX11_thrown e3) rfl rfl rfl (Nat.le_of_ble_eq_true rfl) (by decide) ⟨by omega, by omega⟩ ?_
  refine l_iload (pc := 1780) (j := 5) F dL_law_1780 rfl ?_
  refine l_icmp_eq (pc := 1782) (tgt := 1787) F dL_law_1782 (by decide) (fun _ => ?_) (fun q9 => absurd hq q9)
  refine l_iload (pc := 1787) (j := 5) F dL_law_1787 rfl ?_
  refine l_if_ne (pc := 1789) (tgt := 1804) F dL_law_1789 (by decide) (fun hz => ?_) (fun hz => ?_)
  · have hs := Option.some.inj (ite_f hs hz)
    subst hs
    refine l_goto (pc := 1804) (tgt := 2250) F dL_law_1804 (by decide) ?_
    exact VL_sub [0, 1, 2, 3, 4] rfl kk
  · have hs := ite_t hs hz
    by_cases hv : r.2 395 0 = q.1
    · have hs := Option.some.inj (ite_t hs hv)
      subst hs
      refine l_aload_n (pc := 1792) (j := 3) F dL_law_1792 rfl rfl ?_
      refine l_iconst (pc := 1793) (v := 0) F dL_law_1793 ic_0 ?_
      refine l_lald (pc := 1794) F dL_law_1794 ?_
      refine l_iload (pc := 1795) (j := 6) F dL_law_1795 rfl ?_
      refine l_i2l (pc := 1797) F dL_law_1797 rfl ?_
      refine l_lcmp (pc := 1798) F dL_law_1798 ?_
      refine l_if_eq (pc := 1799) (tgt := 1804) F dL_law_1799 (by decide) (fun _ => ?_) (fun q9 => absurd (by rw [hv]; exact lg_cmp_self _) q9)
      refine l_goto (pc := 1804) (tgt := 2250) F dL_law_1804 (by decide) ?_
      exact VL_sub [0, 1, 2, 3, 4] rfl kk
    · cases ite_f hs hv
theorem clw_L_riches : CLW 208 yL_riches cL_riches 4 [(0, 9, 12, 18)] 3 := ⟨tw_1161, tw_0, tw_1163, by decide, by decide +kernel, by decide +kernel, by decide +kernel, tw_1162⟩
def s_riches (hc hm : ST) (a1 : Int32) : Option (ST × ST) :=
  bnd (fL_riches hc a1) fun r => bnd (fX11_riches hm a1) fun q => bnd (fX11_thrown q.2) fun t => if t = r.1 then (if r.1 = 0 then (if r.2 395 0 = q.1 then some (r.2, q.2) else none) else some (r.2, q.2)) else none
set_option maxRecDepth 100000 in
set_option maxHeartbeats 4000000 in
theorem ca_riches (hT : l.stackTraces = false) (F : FL p s m args meth c gc gm b L xs) {i : Nat} {y : ST × ST} (hi : i + 6 ≤ L) (hs : s_riches hc hm (xs (i + 1)) = some y) (hce : cells + 3 ≤ 601024 ∧ slots + 18 ≤ 7293034)
    (kk : VL p l e s m args below meth c Q gc gm (cells + 3) (slots + 18) y.1 y.2 2250 [(0, .ref b), (1, .ref (gA gc 0)), (2, .ref (gA gm 0)), (3, .ref (gA gc 395)), (4, .int (nI i))] []) : VL p l e s m args below meth c Q gc gm cells slots hc hm 1807 [(0, .ref b), (1, .ref (gA gc 0)), (2, .ref (gA gm 0)), (3, .ref (gA gc 395)), (4, .int (nI i))] [] := by
  unfold s_riches at hs
  obtain ⟨r, e1, hs⟩ := bnd_some hs
  obtain ⟨q, e2, hs⟩ := bnd_some hs
  obtain ⟨t, e3, hs⟩ := bnd_some hs
  by_cases hq : t = r.1
  rotate_left
  · cases ite_f hs hq
  have hs := ite_t hs hq
  refine l_aload_n (pc := 1807) (j := 1) F dL_law_1807 rfl rfl ?_
  refine l_arg (pc := 1808) (i := i) (k := 1) (j4 := 4) F rfl rfl (by omega) rfl rfl ic_1 dL_law_1808 dL_law_1809 dL_law_1811 dL_law_1812 dL_law_1813 ?_
  refine l_aload_n (pc := 1814) (j := 3) F dL_law_1814 rfl rfl ?_
  refine l_callW (pc := 1815) (As := [.ref (gA gc 0), .int (xs (i + 1)), .ref (gA gc 395)]) F clw_L_riches dL_law_1815 (kL_riches hT e1) rfl rfl (Nat.le_of_ble_eq_true rfl) (by decide) (by decide) hce ?_
  refine l_istore (pc := 1818) (lv' := [(0, .ref b), (1, .ref (gA gc 0)), (2, .ref (gA gm 0)), (3, .ref (gA gc 395)), (4, .int (nI i)), (5, .int r.1)]) F dL_law_1818 (by decide) rfl ?_
  refine l_aload_n (pc := 1820) (j := 2) F dL_law_1820 rfl rfl ?_
  refine l_arg (pc := 1821) (i := i) (k := 1) (j4 := 4) F rfl rfl (by omega) rfl rfl ic_1 dL_law_1821 dL_law_1822 dL_law_1824 dL_law_1825 dL_law_1826 ?_
  refine l_callM (pc := 1827) (As := [.int (xs (i + 1))]) F cl_L_210 dL_law_1827 (kX11_riches e2) rfl rfl rfl (Nat.le_of_ble_eq_true rfl) (by decide) ⟨by omega, by omega⟩ ?_
  refine l_istore (pc := 1830) (lv' := [(0, .ref b), (1, .ref (gA gc 0)), (2, .ref (gA gm 0)), (3, .ref (gA gc 395)), (4, .int (nI i)), (5, .int r.1), (6, .int q.1)]) F dL_law_1830 (by decide) rfl ?_
  refine l_aload_n (pc := 1832) (j := 2) F dL_law_1832 rfl rfl ?_
  refine l_callM (pc := 1833) (As := []) F cl_L_115 dL_law_1833 (kX11_thrown e3) rfl rfl rfl (Nat.le_of_ble_eq_true rfl) (by decide) ⟨by omega, by omega⟩ ?_
  refine l_iload (pc := 1836) (j := 5) F dL_law_1836 rfl ?_
  refine l_icmp_eq (pc := 1838) (tgt := 1843) F dL_law_1838 (by decide) (fun _ => ?_) (fun q9 => absurd hq q9)
  refine l_iload (pc := 1843) (j := 5) F dL_law_1843 rfl ?_
  refine l_if_ne (pc := 1845) (tgt := 1860) F dL_law_1845 (by decide) (fun hz => ?_) (fun hz => ?_)
  · have hs := Option.some.inj (ite_f hs hz)
    subst hs
    refine l_goto (pc := 1860) (tgt := 2250) F dL_law_1860 (by decide) ?_
    exact VL_sub [0, 1, 2, 3, 4] rfl kk
  · have hs := ite_t hs hz
    by_cases hv : r.2 395 0 = q.1
    · have hs := Option.some.inj (ite_t hs hv)
      subst hs
      refine l_aload_n (pc := 1848) (j := 3) F dL_law_1848 rfl rfl ?_
      refine l_iconst (pc := 1849) (v := 0) F dL_law_1849 ic_0 ?_
      refine l_lald (pc := 1850) F dL_law_1850 ?_
      refine l_iload (pc := 1851) (j := 6) F dL_law_1851 rfl ?_
      refine l_i2l (pc := 1853) F dL_law_1853 rfl ?_
      refine l_lcmp (pc := 1854) F dL_law_1854 ?_
      refine l_if_eq (pc := 1855) (tgt := 1860) F dL_law_1855 (by decide) (fun _ => ?_) (fun q9 => absurd (by rw [hv]; exact lg_cmp_self _) q9)
      refine l_goto (pc := 1860) (tgt := 2250) F dL_law_1860 (by decide) ?_
      exact VL_sub [0, 1, 2, 3, 4] rfl kk
    · cases ite_f hs hv
theorem clw_L_lost : CLW 211 yL_lost cL_lost 4 [(0, 9, 12, 13)] 3 := ⟨tw_1168, tw_0, tw_1170, by decide, by decide +kernel, by decide +kernel, by decide +kernel, tw_1169⟩
def s_lost (hc hm : ST) (a1 : Int32) : Option (ST × ST) :=
  bnd (fL_lost hc a1) fun r => bnd (fX11_lost hm a1) fun q => bnd (fX11_thrown q.2) fun t => if t = r.1 then (if r.1 = 0 then (if r.2 395 0 = q.1 then some (r.2, q.2) else none) else some (r.2, q.2)) else none
set_option maxRecDepth 100000 in
set_option maxHeartbeats 4000000 in
theorem ca_lost (hT : l.stackTraces = false) (F : FL p s m args meth c gc gm b L xs) {i : Nat} {y : ST × ST} (hi : i + 6 ≤ L) (hs : s_lost hc hm (xs (i + 1)) = some y) (hce : cells + 3 ≤ 601024 ∧ slots + 18 ≤ 7293034)
    (kk : VL p l e s m args below meth c Q gc gm (cells + 3) (slots + 18) y.1 y.2 2250 [(0, .ref b), (1, .ref (gA gc 0)), (2, .ref (gA gm 0)), (3, .ref (gA gc 395)), (4, .int (nI i))] []) : VL p l e s m args below meth c Q gc gm cells slots hc hm 1863 [(0, .ref b), (1, .ref (gA gc 0)), (2, .ref (gA gm 0)), (3, .ref (gA gc 395)), (4, .int (nI i))] [] := by
  unfold s_lost at hs
  obtain ⟨r, e1, hs⟩ := bnd_some hs
  obtain ⟨q, e2, hs⟩ := bnd_some hs
  obtain ⟨t, e3, hs⟩ := bnd_some hs
  by_cases hq : t = r.1
  rotate_left
  · cases ite_f hs hq
  have hs := ite_t hs hq
  refine l_aload_n (pc := 1863) (j := 1) F dL_law_1863 rfl rfl ?_
  refine l_arg (pc := 1864) (i := i) (k := 1) (j4 := 4) F rfl rfl (by omega) rfl rfl ic_1 dL_law_1864 dL_law_1865 dL_law_1867 dL_law_1868 dL_law_1869 ?_
  refine l_aload_n (pc := 1870) (j := 3) F dL_law_1870 rfl rfl ?_
  refine l_callW (pc := 1871) (As := [.ref (gA gc 0), .int (xs (i + 1)), .ref (gA gc 395)]) F clw_L_lost dL_law_1871 (kL_lost hT e1) rfl rfl (Nat.le_of_ble_eq_true rfl) (by decide) (by decide) hce ?_
  refine l_istore (pc := 1874) (lv' := [(0, .ref b), (1, .ref (gA gc 0)), (2, .ref (gA gm 0)), (3, .ref (gA gc 395)), (4, .int (nI i)), (5, .int r.1)]) F dL_law_1874 (by decide) rfl ?_
  refine l_aload_n (pc := 1876) (j := 2) F dL_law_1876 rfl rfl ?_
  refine l_arg (pc := 1877) (i := i) (k := 1) (j4 := 4) F rfl rfl (by omega) rfl rfl ic_1 dL_law_1877 dL_law_1878 dL_law_1880 dL_law_1881 dL_law_1882 ?_
  refine l_callM (pc := 1883) (As := [.int (xs (i + 1))]) F cl_L_213 dL_law_1883 (kX11_lost e2) rfl rfl rfl (Nat.le_of_ble_eq_true rfl) (by decide) ⟨by omega, by omega⟩ ?_
  refine l_istore (pc := 1886) (lv' := [(0, .ref b), (1, .ref (gA gc 0)), (2, .ref (gA gm 0)), (3, .ref (gA gc 395)), (4, .int (nI i)), (5, .int r.1), (6, .int q.1)]) F dL_law_1886 (by decide) rfl ?_
  refine l_aload_n (pc := 1888) (j := 2) F dL_law_1888 rfl rfl ?_
  refine l_callM (pc := 1889) (As := []) F cl_L_115 dL_law_1889 (kX11_thrown e3) rfl rfl rfl (Nat.le_of_ble_eq_true rfl) (by decide) ⟨by omega, by omega⟩ ?_
  refine l_iload (pc := 1892) (j := 5) F dL_law_1892 rfl ?_
  refine l_icmp_eq (pc := 1894) (tgt := 1899) F dL_law_1894 (by decide) (fun _ => ?_) (fun q9 => absurd hq q9)
  refine l_iload (pc := 1899) (j := 5) F dL_law_1899 rfl ?_
  refine l_if_ne (pc := 1901) (tgt := 1916) F dL_law_1901 (by decide) (fun hz => ?_) (fun hz => ?_)
  · have hs := Option.some.inj (ite_f hs hz)
    subst hs
    refine l_goto (pc := 1916) (tgt := 2250) F dL_law_1916 (by decide) ?_
    exact VL_sub [0, 1, 2, 3, 4] rfl kk
  · have hs := ite_t hs hz
    by_cases hv : r.2 395 0 = q.1
    · have hs := Option.some.inj (ite_t hs hv)
      subst hs
      refine l_aload_n (pc := 1904) (j := 3) F dL_law_1904 rfl rfl ?_
      refine l_iconst (pc := 1905) (v := 0) F dL_law_1905 ic_0 ?_
      refine l_lald (pc := 1906) F dL_law_1906 ?_
      refine l_iload (pc := 1907) (j := 6) F dL_law_1907 rfl ?_
      refine l_i2l (pc := 1909) F dL_law_1909 rfl ?_
      refine l_lcmp (pc := 1910) F dL_law_1910 ?_
      refine l_if_eq (pc := 1911) (tgt := 1916) F dL_law_1911 (by decide) (fun _ => ?_) (fun q9 => absurd (by rw [hv]; exact lg_cmp_self _) q9)
      refine l_goto (pc := 1916) (tgt := 2250) F dL_law_1916 (by decide) ?_
      exact VL_sub [0, 1, 2, 3, 4] rfl kk
    · cases ite_f hs hv
theorem clw_L_see : CLW 214 yL_see cL_see 6 [(0, 12, 15, 18)] 5 := ⟨tw_1176, tw_0, tw_1178, by decide, by decide +kernel, by decide +kernel, by decide +kernel, tw_1177⟩
def s_see (hc hm : ST) (a1 : Int32) (a2 : Int32) (a3 : Int32) : Option (ST × ST) :=
  bnd (fL_see hc a1 a2 a3) fun r => bnd (fX11_see hm a1 a2 a3) fun q => bnd (fX11_thrown q.2) fun t => if t = r.1 then (if r.1 = 0 then (if r.2 395 0 = q.1 then some (r.2, q.2) else none) else some (r.2, q.2)) else none
set_option maxRecDepth 100000 in
set_option maxHeartbeats 4000000 in
theorem ca_see (hT : l.stackTraces = false) (F : FL p s m args meth c gc gm b L xs) {i : Nat} {y : ST × ST} (hi : i + 6 ≤ L) (hs : s_see hc hm (xs (i + 1)) (xs (i + 2)) (xs (i + 3)) = some y) (hce : cells + 3 ≤ 601024 ∧ slots + 18 ≤ 7293034)
    (kk : VL p l e s m args below meth c Q gc gm (cells + 3) (slots + 18) y.1 y.2 2250 [(0, .ref b), (1, .ref (gA gc 0)), (2, .ref (gA gm 0)), (3, .ref (gA gc 395)), (4, .int (nI i))] []) : VL p l e s m args below meth c Q gc gm cells slots hc hm 1919 [(0, .ref b), (1, .ref (gA gc 0)), (2, .ref (gA gm 0)), (3, .ref (gA gc 395)), (4, .int (nI i))] [] := by
  unfold s_see at hs
  obtain ⟨r, e1, hs⟩ := bnd_some hs
  obtain ⟨q, e2, hs⟩ := bnd_some hs
  obtain ⟨t, e3, hs⟩ := bnd_some hs
  by_cases hq : t = r.1
  rotate_left
  · cases ite_f hs hq
  have hs := ite_t hs hq
  refine l_aload_n (pc := 1919) (j := 1) F dL_law_1919 rfl rfl ?_
  refine l_arg (pc := 1920) (i := i) (k := 1) (j4 := 4) F rfl rfl (by omega) rfl rfl ic_1 dL_law_1920 dL_law_1921 dL_law_1923 dL_law_1924 dL_law_1925 ?_
  refine l_arg (pc := 1926) (i := i) (k := 2) (j4 := 4) F rfl rfl (by omega) rfl rfl ic_2 dL_law_1926 dL_law_1927 dL_law_1929 dL_law_1930 dL_law_1931 ?_
  refine l_arg (pc := 1932) (i := i) (k := 3) (j4 := 4) F rfl rfl (by omega) rfl rfl ic_3 dL_law_1932 dL_law_1933 dL_law_1935 dL_law_1936 dL_law_1937 ?_
  refine l_aload_n (pc := 1938) (j := 3) F dL_law_1938 rfl rfl ?_
  refine l_callW (pc := 1939) (As := [.ref (gA gc 0), .int (xs (i + 1)), .int (xs (i + 2)), .int (xs (i + 3)), .ref (gA gc 395)]) F clw_L_see dL_law_1939 (kL_see hT e1) rfl rfl (Nat.le_of_ble_eq_true rfl) (by decide) (by decide) hce ?_
  refine l_istore (pc := 1942) (lv' := [(0, .ref b), (1, .ref (gA gc 0)), (2, .ref (gA gm 0)), (3, .ref (gA gc 395)), (4, .int (nI i)), (5, .int r.1)]) F dL_law_1942 (by decide) rfl ?_
  refine l_aload_n (pc := 1944) (j := 2) F dL_law_1944 rfl rfl ?_
  refine l_arg (pc := 1945) (i := i) (k := 1) (j4 := 4) F rfl rfl (by omega) rfl rfl ic_1 dL_law_1945 dL_law_1946 dL_law_1948 dL_law_1949 dL_law_1950 ?_
  refine l_arg (pc := 1951) (i := i) (k := 2) (j4 := 4) F rfl rfl (by omega) rfl rfl ic_2 dL_law_1951 dL_law_1952 dL_law_1954 dL_law_1955 dL_law_1956 ?_
  refine l_arg (pc := 1957) (i := i) (k := 3) (j4 := 4) F rfl rfl (by omega) rfl rfl ic_3 dL_law_1957 dL_law_1958 dL_law_1960 dL_law_1961 dL_law_1962 ?_
  refine l_callM (pc := 1963) (As := [.int (xs (i + 1)), .int (xs (i + 2)), .int (xs (i + 3))]) F cl_L_216 dL_law_1963 (kX11_see e2) rfl rfl rfl (Nat.le_of_ble_eq_true rfl) (by decide) ⟨by omega, by omega⟩ ?_
  refine l_istore (pc := 1966) (lv' := [(0, .ref b), (1, .ref (gA gc 0)), (2, .ref (gA gm 0)), (3, .ref (gA gc 395)), (4, .int (nI i)), (5, .int r.1), (6, .int q.1)]) F dL_law_1966 (by decide) rfl ?_
  refine l_aload_n (pc := 1968) (j := 2) F dL_law_1968 rfl rfl ?_
  refine l_callM (pc := 1969) (As := []) F cl_L_115 dL_law_1969 (kX11_thrown e3) rfl rfl rfl (Nat.le_of_ble_eq_true rfl) (by decide) ⟨by omega, by omega⟩ ?_
  refine l_iload (pc := 1972) (j := 5) F dL_law_1972 rfl ?_
  refine l_icmp_eq (pc := 1974) (tgt := 1979) F dL_law_1974 (by decide) (fun _ => ?_) (fun q9 => absurd hq q9)
  refine l_iload (pc := 1979) (j := 5) F dL_law_1979 rfl ?_
  refine l_if_ne (pc := 1981) (tgt := 1996) F dL_law_1981 (by decide) (fun hz => ?_) (fun hz => ?_)
  · have hs := Option.some.inj (ite_f hs hz)
    subst hs
    refine l_goto (pc := 1996) (tgt := 2250) F dL_law_1996 (by decide) ?_
    exact VL_sub [0, 1, 2, 3, 4] rfl kk
  · have hs := ite_t hs hz
    by_cases hv : r.2 395 0 = q.1
    · have hs := Option.some.inj (ite_t hs hv)
      subst hs
      refine l_aload_n (pc := 1984) (j := 3) F dL_law_1984 rfl rfl ?_
      refine l_iconst (pc := 1985) (v := 0) F dL_law_1985 ic_0 ?_
      refine l_lald (pc := 1986) F dL_law_1986 ?_
      refine l_iload (pc := 1987) (j := 6) F dL_law_1987 rfl ?_
      refine l_i2l (pc := 1989) F dL_law_1989 rfl ?_
      refine l_lcmp (pc := 1990) F dL_law_1990 ?_
      refine l_if_eq (pc := 1991) (tgt := 1996) F dL_law_1991 (by decide) (fun _ => ?_) (fun q9 => absurd (by rw [hv]; exact lg_cmp_self _) q9)
      refine l_goto (pc := 1996) (tgt := 2250) F dL_law_1996 (by decide) ?_
      exact VL_sub [0, 1, 2, 3, 4] rfl kk
    · cases ite_f hs hv
theorem clw_L_hand : CLW 217 yL_hand cL_hand 4 [(0, 9, 12, 18)] 3 := ⟨tw_1187, tw_0, tw_1189, by decide, by decide +kernel, by decide +kernel, by decide +kernel, tw_1188⟩
def s_hand (hc hm : ST) (a1 : Int32) : Option (ST × ST) :=
  bnd (fL_hand hc a1) fun r => bnd (fX11_hand hm a1) fun q => bnd (fX11_thrown q.2) fun t => if t = r.1 then (if r.1 = 0 then (if r.2 395 0 = q.1 then some (r.2, q.2) else none) else some (r.2, q.2)) else none
set_option maxRecDepth 100000 in
set_option maxHeartbeats 4000000 in
theorem ca_hand (hT : l.stackTraces = false) (F : FL p s m args meth c gc gm b L xs) {i : Nat} {y : ST × ST} (hi : i + 6 ≤ L) (hs : s_hand hc hm (xs (i + 1)) = some y) (hce : cells + 3 ≤ 601024 ∧ slots + 18 ≤ 7293034)
    (kk : VL p l e s m args below meth c Q gc gm (cells + 3) (slots + 18) y.1 y.2 2250 [(0, .ref b), (1, .ref (gA gc 0)), (2, .ref (gA gm 0)), (3, .ref (gA gc 395)), (4, .int (nI i))] []) : VL p l e s m args below meth c Q gc gm cells slots hc hm 1999 [(0, .ref b), (1, .ref (gA gc 0)), (2, .ref (gA gm 0)), (3, .ref (gA gc 395)), (4, .int (nI i))] [] := by
  unfold s_hand at hs
  obtain ⟨r, e1, hs⟩ := bnd_some hs
  obtain ⟨q, e2, hs⟩ := bnd_some hs
  obtain ⟨t, e3, hs⟩ := bnd_some hs
  by_cases hq : t = r.1
  rotate_left
  · cases ite_f hs hq
  have hs := ite_t hs hq
  refine l_aload_n (pc := 1999) (j := 1) F dL_law_1999 rfl rfl ?_
  refine l_arg (pc := 2000) (i := i) (k := 1) (j4 := 4) F rfl rfl (by omega) rfl rfl ic_1 dL_law_2000 dL_law_2001 dL_law_2003 dL_law_2004 dL_law_2005 ?_
  refine l_aload_n (pc := 2006) (j := 3) F dL_law_2006 rfl rfl ?_
  refine l_callW (pc := 2007) (As := [.ref (gA gc 0), .int (xs (i + 1)), .ref (gA gc 395)]) F clw_L_hand dL_law_2007 (kL_hand hT e1) rfl rfl (Nat.le_of_ble_eq_true rfl) (by decide) (by decide) hce ?_
  refine l_istore (pc := 2010) (lv' := [(0, .ref b), (1, .ref (gA gc 0)), (2, .ref (gA gm 0)), (3, .ref (gA gc 395)), (4, .int (nI i)), (5, .int r.1)]) F dL_law_2010 (by decide) rfl ?_
  refine l_aload_n (pc := 2012) (j := 2) F dL_law_2012 rfl rfl ?_
  refine l_arg (pc := 2013) (i := i) (k := 1) (j4 := 4) F rfl rfl (by omega) rfl rfl ic_1 dL_law_2013 dL_law_2014 dL_law_2016 dL_law_2017 dL_law_2018 ?_
  refine l_callM (pc := 2019) (As := [.int (xs (i + 1))]) F cl_L_219 dL_law_2019 (kX11_hand e2) rfl rfl rfl (Nat.le_of_ble_eq_true rfl) (by decide) ⟨by omega, by omega⟩ ?_
  refine l_istore (pc := 2022) (lv' := [(0, .ref b), (1, .ref (gA gc 0)), (2, .ref (gA gm 0)), (3, .ref (gA gc 395)), (4, .int (nI i)), (5, .int r.1), (6, .int q.1)]) F dL_law_2022 (by decide) rfl ?_
  refine l_aload_n (pc := 2024) (j := 2) F dL_law_2024 rfl rfl ?_
  refine l_callM (pc := 2025) (As := []) F cl_L_115 dL_law_2025 (kX11_thrown e3) rfl rfl rfl (Nat.le_of_ble_eq_true rfl) (by decide) ⟨by omega, by omega⟩ ?_
  refine l_iload (pc := 2028) (j := 5) F dL_law_2028 rfl ?_
  refine l_icmp_eq (pc := 2030) (tgt := 2035) F dL_law_2030 (by decide) (fun _ => ?_) (fun q9 => absurd hq q9)
  refine l_iload (pc := 2035) (j := 5) F dL_law_2035 rfl ?_
  refine l_if_ne (pc := 2037) (tgt := 2052) F dL_law_2037 (by decide) (fun hz => ?_) (fun hz => ?_)
  · have hs := Option.some.inj (ite_f hs hz)
    subst hs
    refine l_goto (pc := 2052) (tgt := 2250) F dL_law_2052 (by decide) ?_
    exact VL_sub [0, 1, 2, 3, 4] rfl kk
  · have hs := ite_t hs hz
    by_cases hv : r.2 395 0 = q.1
    · have hs := Option.some.inj (ite_t hs hv)
      subst hs
      refine l_aload_n (pc := 2040) (j := 3) F dL_law_2040 rfl rfl ?_
      refine l_iconst (pc := 2041) (v := 0) F dL_law_2041 ic_0 ?_
      refine l_lald (pc := 2042) F dL_law_2042 ?_
      refine l_iload (pc := 2043) (j := 6) F dL_law_2043 rfl ?_
      refine l_i2l (pc := 2045) F dL_law_2045 rfl ?_
      refine l_lcmp (pc := 2046) F dL_law_2046 ?_
      refine l_if_eq (pc := 2047) (tgt := 2052) F dL_law_2047 (by decide) (fun _ => ?_) (fun q9 => absurd (by rw [hv]; exact lg_cmp_self _) q9)
      refine l_goto (pc := 2052) (tgt := 2250) F dL_law_2052 (by decide) ?_
      exact VL_sub [0, 1, 2, 3, 4] rfl kk
    · cases ite_f hs hv
def s_forget (hc hm : ST) : Option (ST × ST) :=
  bnd (fX10_forget hc) fun r => bnd (fX11_forget hm) fun q => some (mg hc r, q)
set_option maxRecDepth 100000 in
set_option maxHeartbeats 4000000 in
theorem ca_forget (hT : l.stackTraces = false) (F : FL p s m args meth c gc gm b L xs) {i : Nat} {y : ST × ST} (hi : i + 6 ≤ L) (hs : s_forget hc hm = some y) (hce : cells + 3 ≤ 601024 ∧ slots + 18 ≤ 7293034)
    (kk : VL p l e s m args below meth c Q gc gm (cells + 3) (slots + 18) y.1 y.2 2250 [(0, .ref b), (1, .ref (gA gc 0)), (2, .ref (gA gm 0)), (3, .ref (gA gc 395)), (4, .int (nI i))] []) : VL p l e s m args below meth c Q gc gm cells slots hc hm 2055 [(0, .ref b), (1, .ref (gA gc 0)), (2, .ref (gA gm 0)), (3, .ref (gA gc 395)), (4, .int (nI i))] [] := by
  unfold s_forget at hs
  obtain ⟨r, e1, hs⟩ := bnd_some hs
  obtain ⟨q, e2, hs⟩ := bnd_some hs
  have hs := Option.some.inj hs
  subst hs
  refine VL_widen (c' := cells + 3) (s' := slots + 18) (by omega) (by omega) ?_
  refine l_aload_n (pc := 2055) (j := 1) F dL_law_2055 rfl rfl ?_
  refine l_callC (pc := 2056) (As := []) F cl_L_220 dL_law_2056 (kX10_forget e1) rfl rfl rfl (Nat.le_of_ble_eq_true rfl) (by decide) hce ?_
  refine l_aload_n (pc := 2059) (j := 2) F dL_law_2059 rfl rfl ?_
  refine l_callM (pc := 2060) (As := []) F cl_L_223 dL_law_2060 (kX11_forget e2) rfl rfl rfl (Nat.le_of_ble_eq_true rfl) (by decide) hce ?_
  exact l_goto (pc := 2063) (tgt := 2250) F dL_law_2063 (by decide) kk
theorem clw_L_game : CLW 224 yL_game cL_game 6 [(0, 12, 15, 18), (0, 12, 19, 13)] 5 := ⟨tw_1207, tw_0, tw_1209, by decide, by decide +kernel, by decide +kernel, by decide +kernel, tw_1208⟩
def s_game (hc hm : ST) (a1 : Int32) (a2 : Int32) (a3 : Int32) : Option (ST × ST) :=
  bnd (fL_game hc a1 a2 a3) fun r => bnd (fX11_game hm a1 a2 a3) fun q => bnd (fX11_thrown q.2) fun t => if t = r.1 then (if r.1 = 0 then (if r.2 395 0 = q.1 then some (r.2, q.2) else none) else some (r.2, q.2)) else none
set_option maxRecDepth 100000 in
set_option maxHeartbeats 4000000 in
theorem ca_game (hT : l.stackTraces = false) (F : FL p s m args meth c gc gm b L xs) {i : Nat} {y : ST × ST} (hi : i + 6 ≤ L) (hs : s_game hc hm (xs (i + 1)) (xs (i + 2)) (xs (i + 3)) = some y) (hce : cells + 3 ≤ 601024 ∧ slots + 18 ≤ 7293034)
    (kk : VL p l e s m args below meth c Q gc gm (cells + 3) (slots + 18) y.1 y.2 2250 [(0, .ref b), (1, .ref (gA gc 0)), (2, .ref (gA gm 0)), (3, .ref (gA gc 395)), (4, .int (nI i))] []) : VL p l e s m args below meth c Q gc gm cells slots hc hm 2066 [(0, .ref b), (1, .ref (gA gc 0)), (2, .ref (gA gm 0)), (3, .ref (gA gc 395)), (4, .int (nI i))] [] := by
  unfold s_game at hs
  obtain ⟨r, e1, hs⟩ := bnd_some hs
  obtain ⟨q, e2, hs⟩ := bnd_some hs
  obtain ⟨t, e3, hs⟩ := bnd_some hs
  by_cases hq : t = r.1
  rotate_left
  · cases ite_f hs hq
  have hs := ite_t hs hq
  refine l_aload_n (pc := 2066) (j := 1) F dL_law_2066 rfl rfl ?_
  refine l_arg (pc := 2067) (i := i) (k := 1) (j4 := 4) F rfl rfl (by omega) rfl rfl ic_1 dL_law_2067 dL_law_2068 dL_law_2070 dL_law_2071 dL_law_2072 ?_
  refine l_arg (pc := 2073) (i := i) (k := 2) (j4 := 4) F rfl rfl (by omega) rfl rfl ic_2 dL_law_2073 dL_law_2074 dL_law_2076 dL_law_2077 dL_law_2078 ?_
  refine l_arg (pc := 2079) (i := i) (k := 3) (j4 := 4) F rfl rfl (by omega) rfl rfl ic_3 dL_law_2079 dL_law_2080 dL_law_2082 dL_law_2083 dL_law_2084 ?_
  refine l_aload_n (pc := 2085) (j := 3) F dL_law_2085 rfl rfl ?_
  refine l_callW (pc := 2086) (As := [.ref (gA gc 0), .int (xs (i + 1)), .int (xs (i + 2)), .int (xs (i + 3)), .ref (gA gc 395)]) F clw_L_game dL_law_2086 (kL_game hT e1) rfl rfl (Nat.le_of_ble_eq_true rfl) (by decide) (by decide) hce ?_
  refine l_istore (pc := 2089) (lv' := [(0, .ref b), (1, .ref (gA gc 0)), (2, .ref (gA gm 0)), (3, .ref (gA gc 395)), (4, .int (nI i)), (5, .int r.1)]) F dL_law_2089 (by decide) rfl ?_
  refine l_aload_n (pc := 2091) (j := 2) F dL_law_2091 rfl rfl ?_
  refine l_arg (pc := 2092) (i := i) (k := 1) (j4 := 4) F rfl rfl (by omega) rfl rfl ic_1 dL_law_2092 dL_law_2093 dL_law_2095 dL_law_2096 dL_law_2097 ?_
  refine l_arg (pc := 2098) (i := i) (k := 2) (j4 := 4) F rfl rfl (by omega) rfl rfl ic_2 dL_law_2098 dL_law_2099 dL_law_2101 dL_law_2102 dL_law_2103 ?_
  refine l_arg (pc := 2104) (i := i) (k := 3) (j4 := 4) F rfl rfl (by omega) rfl rfl ic_3 dL_law_2104 dL_law_2105 dL_law_2107 dL_law_2108 dL_law_2109 ?_
  refine l_callM (pc := 2110) (As := [.int (xs (i + 1)), .int (xs (i + 2)), .int (xs (i + 3))]) F cl_L_226 dL_law_2110 (kX11_game e2) rfl rfl rfl (Nat.le_of_ble_eq_true rfl) (by decide) ⟨by omega, by omega⟩ ?_
  refine l_istore (pc := 2113) (lv' := [(0, .ref b), (1, .ref (gA gc 0)), (2, .ref (gA gm 0)), (3, .ref (gA gc 395)), (4, .int (nI i)), (5, .int r.1), (6, .int q.1)]) F dL_law_2113 (by decide) rfl ?_
  refine l_aload_n (pc := 2115) (j := 2) F dL_law_2115 rfl rfl ?_
  refine l_callM (pc := 2116) (As := []) F cl_L_115 dL_law_2116 (kX11_thrown e3) rfl rfl rfl (Nat.le_of_ble_eq_true rfl) (by decide) ⟨by omega, by omega⟩ ?_
  refine l_iload (pc := 2119) (j := 5) F dL_law_2119 rfl ?_
  refine l_icmp_eq (pc := 2121) (tgt := 2126) F dL_law_2121 (by decide) (fun _ => ?_) (fun q9 => absurd hq q9)
  refine l_iload (pc := 2126) (j := 5) F dL_law_2126 rfl ?_
  refine l_if_ne (pc := 2128) (tgt := 2143) F dL_law_2128 (by decide) (fun hz => ?_) (fun hz => ?_)
  · have hs := Option.some.inj (ite_f hs hz)
    subst hs
    refine l_goto (pc := 2143) (tgt := 2250) F dL_law_2143 (by decide) ?_
    exact VL_sub [0, 1, 2, 3, 4] rfl kk
  · have hs := ite_t hs hz
    by_cases hv : r.2 395 0 = q.1
    · have hs := Option.some.inj (ite_t hs hv)
      subst hs
      refine l_aload_n (pc := 2131) (j := 3) F dL_law_2131 rfl rfl ?_
      refine l_iconst (pc := 2132) (v := 0) F dL_law_2132 ic_0 ?_
      refine l_lald (pc := 2133) F dL_law_2133 ?_
      refine l_iload (pc := 2134) (j := 6) F dL_law_2134 rfl ?_
      refine l_i2l (pc := 2136) F dL_law_2136 rfl ?_
      refine l_lcmp (pc := 2137) F dL_law_2137 ?_
      refine l_if_eq (pc := 2138) (tgt := 2143) F dL_law_2138 (by decide) (fun _ => ?_) (fun q9 => absurd (by rw [hv]; exact lg_cmp_self _) q9)
      refine l_goto (pc := 2143) (tgt := 2250) F dL_law_2143 (by decide) ?_
      exact VL_sub [0, 1, 2, 3, 4] rfl kk
    · cases ite_f hs hv
theorem clw_L_years : CLW 227 yL_years cL_years 6 [(0, 12, 15, 18), (0, 12, 19, 13)] 5 := ⟨tw_1226, tw_0, tw_1228, by decide, by decide +kernel, by decide +kernel, by decide +kernel, tw_1227⟩
def s_years (hc hm : ST) (a1 : Int32) (a2 : Int32) (a3 : Int32) : Option (ST × ST) :=
  bnd (fL_years hc a1 a2 a3) fun r => bnd (fX11_years hm a1 a2 a3) fun q => bnd (fX11_thrown q.2) fun t => if t = r.1 then (if r.1 = 0 then (if r.2 395 0 = q.1 then some (r.2, q.2) else none) else some (r.2, q.2)) else none
set_option maxRecDepth 100000 in
set_option maxHeartbeats 4000000 in
theorem ca_years (hT : l.stackTraces = false) (F : FL p s m args meth c gc gm b L xs) {i : Nat} {y : ST × ST} (hi : i + 6 ≤ L) (hs : s_years hc hm (xs (i + 1)) (xs (i + 2)) (xs (i + 3)) = some y) (hce : cells + 3 ≤ 601024 ∧ slots + 18 ≤ 7293034)
    (kk : VL p l e s m args below meth c Q gc gm (cells + 3) (slots + 18) y.1 y.2 2250 [(0, .ref b), (1, .ref (gA gc 0)), (2, .ref (gA gm 0)), (3, .ref (gA gc 395)), (4, .int (nI i))] []) : VL p l e s m args below meth c Q gc gm cells slots hc hm 2146 [(0, .ref b), (1, .ref (gA gc 0)), (2, .ref (gA gm 0)), (3, .ref (gA gc 395)), (4, .int (nI i))] [] := by
  unfold s_years at hs
  obtain ⟨r, e1, hs⟩ := bnd_some hs
  obtain ⟨q, e2, hs⟩ := bnd_some hs
  obtain ⟨t, e3, hs⟩ := bnd_some hs
  by_cases hq : t = r.1
  rotate_left
  · cases ite_f hs hq
  have hs := ite_t hs hq
  refine l_aload_n (pc := 2146) (j := 1) F dL_law_2146 rfl rfl ?_
  refine l_arg (pc := 2147) (i := i) (k := 1) (j4 := 4) F rfl rfl (by omega) rfl rfl ic_1 dL_law_2147 dL_law_2148 dL_law_2150 dL_law_2151 dL_law_2152 ?_
  refine l_arg (pc := 2153) (i := i) (k := 2) (j4 := 4) F rfl rfl (by omega) rfl rfl ic_2 dL_law_2153 dL_law_2154 dL_law_2156 dL_law_2157 dL_law_2158 ?_
  refine l_arg (pc := 2159) (i := i) (k := 3) (j4 := 4) F rfl rfl (by omega) rfl rfl ic_3 dL_law_2159 dL_law_2160 dL_law_2162 dL_law_2163 dL_law_2164 ?_
  refine l_aload_n (pc := 2165) (j := 3) F dL_law_2165 rfl rfl ?_
  refine l_callW (pc := 2166) (As := [.ref (gA gc 0), .int (xs (i + 1)), .int (xs (i + 2)), .int (xs (i + 3)), .ref (gA gc 395)]) F clw_L_years dL_law_2166 (kL_years hT e1) rfl rfl (Nat.le_of_ble_eq_true rfl) (by decide) (by decide) hce ?_
  refine l_istore (pc := 2169) (lv' := [(0, .ref b), (1, .ref (gA gc 0)), (2, .ref (gA gm 0)), (3, .ref (gA gc 395)), (4, .int (nI i)), (5, .int r.1)]) F dL_law_2169 (by decide) rfl ?_
  refine l_aload_n (pc := 2171) (j := 2) F dL_law_2171 rfl rfl ?_
  refine l_arg (pc := 2172) (i := i) (k := 1) (j4 := 4) F rfl rfl (by omega) rfl rfl ic_1 dL_law_2172 dL_law_2173 dL_law_2175 dL_law_2176 dL_law_2177 ?_
  refine l_arg (pc := 2178) (i := i) (k := 2) (j4 := 4) F rfl rfl (by omega) rfl rfl ic_2 dL_law_2178 dL_law_2179 dL_law_2181 dL_law_2182 dL_law_2183 ?_
  refine l_arg (pc := 2184) (i := i) (k := 3) (j4 := 4) F rfl rfl (by omega) rfl rfl ic_3 dL_law_2184 dL_law_2185 dL_law_2187 dL_law_2188 dL_law_2189 ?_
  refine l_callM (pc := 2190) (As := [.int (xs (i + 1)), .int (xs (i + 2)), .int (xs (i + 3))]) F cl_L_229 dL_law_2190 (kX11_years e2) rfl rfl rfl (Nat.le_of_ble_eq_true rfl) (by decide) ⟨by omega, by omega⟩ ?_
  refine l_istore (pc := 2193) (lv' := [(0, .ref b), (1, .ref (gA gc 0)), (2, .ref (gA gm 0)), (3, .ref (gA gc 395)), (4, .int (nI i)), (5, .int r.1), (6, .int q.1)]) F dL_law_2193 (by decide) rfl ?_
  refine l_aload_n (pc := 2195) (j := 2) F dL_law_2195 rfl rfl ?_
  refine l_callM (pc := 2196) (As := []) F cl_L_115 dL_law_2196 (kX11_thrown e3) rfl rfl rfl (Nat.le_of_ble_eq_true rfl) (by decide) ⟨by omega, by omega⟩ ?_
  refine l_iload (pc := 2199) (j := 5) F dL_law_2199 rfl ?_
  refine l_icmp_eq (pc := 2201) (tgt := 2206) F dL_law_2201 (by decide) (fun _ => ?_) (fun q9 => absurd hq q9)
  refine l_iload (pc := 2206) (j := 5) F dL_law_2206 rfl ?_
  refine l_if_ne (pc := 2208) (tgt := 2223) F dL_law_2208 (by decide) (fun hz => ?_) (fun hz => ?_)
  · have hs := Option.some.inj (ite_f hs hz)
    subst hs
    refine l_goto (pc := 2223) (tgt := 2250) F dL_law_2223 (by decide) ?_
    exact VL_sub [0, 1, 2, 3, 4] rfl kk
  · have hs := ite_t hs hz
    by_cases hv : r.2 395 0 = q.1
    · have hs := Option.some.inj (ite_t hs hv)
      subst hs
      refine l_aload_n (pc := 2211) (j := 3) F dL_law_2211 rfl rfl ?_
      refine l_iconst (pc := 2212) (v := 0) F dL_law_2212 ic_0 ?_
      refine l_lald (pc := 2213) F dL_law_2213 ?_
      refine l_iload (pc := 2214) (j := 6) F dL_law_2214 rfl ?_
      refine l_i2l (pc := 2216) F dL_law_2216 rfl ?_
      refine l_lcmp (pc := 2217) F dL_law_2217 ?_
      refine l_if_eq (pc := 2218) (tgt := 2223) F dL_law_2218 (by decide) (fun _ => ?_) (fun q9 => absurd (by rw [hv]; exact lg_cmp_self _) q9)
      refine l_goto (pc := 2223) (tgt := 2250) F dL_law_2223 (by decide) ?_
      exact VL_sub [0, 1, 2, 3, 4] rfl kk
    · cases ite_f hs hv
def s_image (hc hm : ST) : Option (ST × ST) :=
  bnd (fX10_image hc) fun r => bnd (fX11_image hm) fun q => some (mg hc r, q)
set_option maxRecDepth 100000 in
set_option maxHeartbeats 4000000 in
theorem ca_image (hT : l.stackTraces = false) (F : FL p s m args meth c gc gm b L xs) {i : Nat} {y : ST × ST} (hi : i + 6 ≤ L) (hs : s_image hc hm = some y) (hce : cells + 3 ≤ 601024 ∧ slots + 18 ≤ 7293034)
    (kk : VL p l e s m args below meth c Q gc gm (cells + 3) (slots + 18) y.1 y.2 2250 [(0, .ref b), (1, .ref (gA gc 0)), (2, .ref (gA gm 0)), (3, .ref (gA gc 395)), (4, .int (nI i))] []) : VL p l e s m args below meth c Q gc gm cells slots hc hm 2226 [(0, .ref b), (1, .ref (gA gc 0)), (2, .ref (gA gm 0)), (3, .ref (gA gc 395)), (4, .int (nI i))] [] := by
  unfold s_image at hs
  obtain ⟨r, e1, hs⟩ := bnd_some hs
  obtain ⟨q, e2, hs⟩ := bnd_some hs
  have hs := Option.some.inj hs
  subst hs
  refine VL_widen (c' := cells + 3) (s' := slots + 18) (by omega) (by omega) ?_
  refine l_aload_n (pc := 2226) (j := 1) F dL_law_2226 rfl rfl ?_
  refine l_callC (pc := 2227) (As := []) F cl_L_230 dL_law_2227 (kX10_image e1) rfl rfl rfl (Nat.le_of_ble_eq_true rfl) (by decide) hce ?_
  refine l_aload_n (pc := 2230) (j := 2) F dL_law_2230 rfl rfl ?_
  refine l_callM (pc := 2231) (As := []) F cl_L_233 dL_law_2231 (kX11_image e2) rfl rfl rfl (Nat.le_of_ble_eq_true rfl) (by decide) hce ?_
  exact l_goto (pc := 2234) (tgt := 2250) F dL_law_2234 (by decide) kk
def s_restore (hc hm : ST) : Option (ST × ST) :=
  bnd (fX10_restore hc) fun r => bnd (fX11_restore hm) fun q => if r.1 = q.1 then some (mg hc r.2, q.2) else none
set_option maxRecDepth 100000 in
set_option maxHeartbeats 4000000 in
theorem ca_restore (hT : l.stackTraces = false) (F : FL p s m args meth c gc gm b L xs) {i : Nat} {y : ST × ST} (hi : i + 6 ≤ L) (hs : s_restore hc hm = some y) (hce : cells + 3 ≤ 601024 ∧ slots + 18 ≤ 7293034)
    (kk : VL p l e s m args below meth c Q gc gm (cells + 3) (slots + 18) y.1 y.2 2250 [(0, .ref b), (1, .ref (gA gc 0)), (2, .ref (gA gm 0)), (3, .ref (gA gc 395)), (4, .int (nI i))] []) : VL p l e s m args below meth c Q gc gm cells slots hc hm 2237 [(0, .ref b), (1, .ref (gA gc 0)), (2, .ref (gA gm 0)), (3, .ref (gA gc 395)), (4, .int (nI i))] [] := by
  unfold s_restore at hs
  obtain ⟨r, e1, hs⟩ := bnd_some hs
  obtain ⟨q, e2, hs⟩ := bnd_some hs
  by_cases hq : r.1 = q.1
  rotate_left
  · cases ite_f hs hq
  have hs := Option.some.inj (ite_t hs hq)
  subst hs
  refine VL_widen (c' := cells + 3) (s' := slots + 18) (by omega) (by omega) ?_
  refine l_aload_n (pc := 2237) (j := 1) F dL_law_2237 rfl rfl ?_
  refine l_callC (pc := 2238) (As := []) F cl_L_234 dL_law_2238 (kX10_restore e1) rfl rfl rfl (Nat.le_of_ble_eq_true rfl) (by decide) hce ?_
  refine l_aload_n (pc := 2241) (j := 2) F dL_law_2241 rfl rfl ?_
  refine l_callM (pc := 2242) (As := []) F cl_L_238 dL_law_2242 (kX11_restore e2) rfl rfl rfl (Nat.le_of_ble_eq_true rfl) (by decide) hce ?_
  exact l_icmp_eq (pc := 2245) (tgt := 2250) F dL_law_2245 (by decide) (fun _ => kk) (fun q9 => absurd hq q9)
end LB
def lawStep (k : Nat) (hc hm : ST) (a1 a2 a3 a4 a5 : Int32) : Option (ST × ST) :=
  match k with
  | 0 => s_feed hc hm a1 a2 a3 a4 a5
  | 1 => s_parish hc hm a1
  | 2 => s_fault hc hm
  | 3 => s_count hc hm a1
  | 4 => s_room hc hm a1 a2
  | 5 => s_far hc hm a1 a2
  | 6 => s_near hc hm a1 a2
  | 7 => s_blow hc hm a1 a2 a3
  | 8 => s_wind hc hm a1
  | 9 => s_days hc hm a1
  | 10 => s_sweep hc hm a1 a2 a3
  | 11 => s_shake hc hm a1 a2
  | 12 => s_sneeze hc hm a1 a2
  | 13 => s_plan hc hm a1 a2
  | 14 => s_undo hc hm
  | 15 => s_then hc hm a1 a2
  | 16 => s_taken hc hm a1
  | 17 => s_thick hc hm a1 a2
  | 18 => s_heresy hc hm
  | 19 => s_order hc hm a1 a2
  | 20 => s_alms hc hm
  | 21 => s_round hc hm a1 a2
  | 22 => s_shares hc hm a1
  | 23 => s_from hc hm a1 a2 a3
  | 24 => s_poorest hc hm a1
  | 25 => s_fullest hc hm a1
  | 26 => s_change hc hm a1
  | 27 => s_lend hc hm a1
  | 28 => s_often hc hm a1
  | 29 => s_riches hc hm a1
  | 30 => s_lost hc hm a1
  | 31 => s_see hc hm a1 a2 a3
  | 32 => s_hand hc hm a1
  | 33 => s_forget hc hm
  | 34 => s_game hc hm a1 a2 a3
  | 35 => s_years hc hm a1 a2 a3
  | 36 => s_image hc hm
  | 37 => s_restore hc hm
  | _ => some (hc, hm)
theorem and63 (a : Int32) : ∃ k : Nat, k < 64 ∧ (a &&& 63).toInt = (k : Int) := by
  have h1 : (a &&& 63).toBitVec.toNat ≤ 63 := by
    rw [Int32.toBitVec_and, BitVec.toNat_and]
    exact Nat.and_le_right
  refine ⟨(a &&& 63).toBitVec.toNat, by omega, ?_⟩
  rw [← Int32.toInt_toBitVec, BitVec.toInt_eq_toNat_of_lt (by omega)]
def opc (a : Int32) : Nat := (a &&& 63).toInt.toNat
section LC
variable {p : Program} {l : Launch} {e : Env} {s : State} {m : MethodId} {args : Array Value} {below : List Frame} {meth : Method} {c : Code} {Q : State → Prop} {gc gm : GE} {b L : Nat} {xs : Nat → Int32} {cells slots : Nat} {hc hm : ST}
set_option maxRecDepth 100000 in
theorem cb_0 (hT : l.stackTraces = false) (F : FL p s m args meth c gc gm b L xs) {i : Nat} {y : ST × ST} {x : Int32} (hx : x.toInt = 0) (hi : i + 6 ≤ L) (hs : s_feed hc hm (xs (i + 1)) (xs (i + 2)) (xs (i + 3)) (xs (i + 4)) (xs (i + 5)) = some y) (hce : cells + 3 ≤ 601024 ∧ slots + 18 ≤ 7293034)
    (kk : VL p l e s m args below meth c Q gc gm (cells + 3) (slots + 18) y.1 y.2 2250 [(0, .ref b), (1, .ref (gA gc 0)), (2, .ref (gA gm 0)), (3, .ref (gA gc 395)), (4, .int (nI i))] []) : VL p l e s m args below meth c Q gc gm cells slots hc hm 40 [(0, .ref b), (1, .ref (gA gc 0)), (2, .ref (gA gm 0)), (3, .ref (gA gc 395)), (4, .int (nI i))] [.int x] := l_tabIn (pc := 40) (tgt := 208) (off := 168) F dL_law_40 (by rw [hx]; decide) (by rw [hx]; decide) (by rw [hx]; rfl) (by decide) (ca_feed hT F hi hs hce kk)
set_option maxRecDepth 100000 in
theorem cb_1 (hT : l.stackTraces = false) (F : FL p s m args meth c gc gm b L xs) {i : Nat} {y : ST × ST} {x : Int32} (hx : x.toInt = 1) (hi : i + 6 ≤ L) (hs : s_parish hc hm (xs (i + 1)) = some y) (hce : cells + 3 ≤ 601024 ∧ slots + 18 ≤ 7293034)
    (kk : VL p l e s m args below meth c Q gc gm (cells + 3) (slots + 18) y.1 y.2 2250 [(0, .ref b), (1, .ref (gA gc 0)), (2, .ref (gA gm 0)), (3, .ref (gA gc 395)), (4, .int (nI i))] []) : VL p l e s m args below meth c Q gc gm cells slots hc hm 40 [(0, .ref b), (1, .ref (gA gc 0)), (2, .ref (gA gm 0)), (3, .ref (gA gc 395)), (4, .int (nI i))] [.int x] := l_tabIn (pc := 40) (tgt := 281) (off := 241) F dL_law_40 (by rw [hx]; decide) (by rw [hx]; decide) (by rw [hx]; rfl) (by decide) (ca_parish hT F hi hs hce kk)
set_option maxRecDepth 100000 in
theorem cb_2 (hT : l.stackTraces = false) (F : FL p s m args meth c gc gm b L xs) {i : Nat} {y : ST × ST} {x : Int32} (hx : x.toInt = 2) (hi : i + 6 ≤ L) (hs : s_fault hc hm = some y) (hce : cells + 3 ≤ 601024 ∧ slots + 18 ≤ 7293034)
    (kk : VL p l e s m args below meth c Q gc gm (cells + 3) (slots + 18) y.1 y.2 2250 [(0, .ref b), (1, .ref (gA gc 0)), (2, .ref (gA gm 0)), (3, .ref (gA gc 395)), (4, .int (nI i))] []) : VL p l e s m args below meth c Q gc gm cells slots hc hm 40 [(0, .ref b), (1, .ref (gA gc 0)), (2, .ref (gA gm 0)), (3, .ref (gA gc 395)), (4, .int (nI i))] [.int x] := l_tabIn (pc := 40) (tgt := 337) (off := 297) F dL_law_40 (by rw [hx]; decide) (by rw [hx]; decide) (by rw [hx]; rfl) (by decide) (ca_fault hT F hi hs hce kk)
set_option maxRecDepth 100000 in
theorem cb_3 (hT : l.stackTraces = false) (F : FL p s m args meth c gc gm b L xs) {i : Nat} {y : ST × ST} {x : Int32} (hx : x.toInt = 3) (hi : i + 6 ≤ L) (hs : s_count hc hm (xs (i + 1)) = some y) (hce : cells + 3 ≤ 601024 ∧ slots + 18 ≤ 7293034)
    (kk : VL p l e s m args below meth c Q gc gm (cells + 3) (slots + 18) y.1 y.2 2250 [(0, .ref b), (1, .ref (gA gc 0)), (2, .ref (gA gm 0)), (3, .ref (gA gc 395)), (4, .int (nI i))] []) : VL p l e s m args below meth c Q gc gm cells slots hc hm 40 [(0, .ref b), (1, .ref (gA gc 0)), (2, .ref (gA gm 0)), (3, .ref (gA gc 395)), (4, .int (nI i))] [.int x] := l_tabIn (pc := 40) (tgt := 350) (off := 310) F dL_law_40 (by rw [hx]; decide) (by rw [hx]; decide) (by rw [hx]; rfl) (by decide) (ca_count hT F hi hs hce kk)
set_option maxRecDepth 100000 in
theorem cb_4 (hT : l.stackTraces = false) (F : FL p s m args meth c gc gm b L xs) {i : Nat} {y : ST × ST} {x : Int32} (hx : x.toInt = 4) (hi : i + 6 ≤ L) (hs : s_room hc hm (xs (i + 1)) (xs (i + 2)) = some y) (hce : cells + 3 ≤ 601024 ∧ slots + 18 ≤ 7293034)
    (kk : VL p l e s m args below meth c Q gc gm (cells + 3) (slots + 18) y.1 y.2 2250 [(0, .ref b), (1, .ref (gA gc 0)), (2, .ref (gA gm 0)), (3, .ref (gA gc 395)), (4, .int (nI i))] []) : VL p l e s m args below meth c Q gc gm cells slots hc hm 40 [(0, .ref b), (1, .ref (gA gc 0)), (2, .ref (gA gm 0)), (3, .ref (gA gc 395)), (4, .int (nI i))] [.int x] := l_tabIn (pc := 40) (tgt := 406) (off := 366) F dL_law_40 (by rw [hx]; decide) (by rw [hx]; decide) (by rw [hx]; rfl) (by decide) (ca_room hT F hi hs hce kk)
set_option maxRecDepth 100000 in
theorem cb_5 (hT : l.stackTraces = false) (F : FL p s m args meth c gc gm b L xs) {i : Nat} {y : ST × ST} {x : Int32} (hx : x.toInt = 5) (hi : i + 6 ≤ L) (hs : s_far hc hm (xs (i + 1)) (xs (i + 2)) = some y) (hce : cells + 3 ≤ 601024 ∧ slots + 18 ≤ 7293034)
    (kk : VL p l e s m args below meth c Q gc gm (cells + 3) (slots + 18) y.1 y.2 2250 [(0, .ref b), (1, .ref (gA gc 0)), (2, .ref (gA gm 0)), (3, .ref (gA gc 395)), (4, .int (nI i))] []) : VL p l e s m args below meth c Q gc gm cells slots hc hm 40 [(0, .ref b), (1, .ref (gA gc 0)), (2, .ref (gA gm 0)), (3, .ref (gA gc 395)), (4, .int (nI i))] [.int x] := l_tabIn (pc := 40) (tgt := 474) (off := 434) F dL_law_40 (by rw [hx]; decide) (by rw [hx]; decide) (by rw [hx]; rfl) (by decide) (ca_far hT F hi hs hce kk)
set_option maxRecDepth 100000 in
theorem cb_6 (hT : l.stackTraces = false) (F : FL p s m args meth c gc gm b L xs) {i : Nat} {y : ST × ST} {x : Int32} (hx : x.toInt = 6) (hi : i + 6 ≤ L) (hs : s_near hc hm (xs (i + 1)) (xs (i + 2)) = some y) (hce : cells + 3 ≤ 601024 ∧ slots + 18 ≤ 7293034)
    (kk : VL p l e s m args below meth c Q gc gm (cells + 3) (slots + 18) y.1 y.2 2250 [(0, .ref b), (1, .ref (gA gc 0)), (2, .ref (gA gm 0)), (3, .ref (gA gc 395)), (4, .int (nI i))] []) : VL p l e s m args below meth c Q gc gm cells slots hc hm 40 [(0, .ref b), (1, .ref (gA gc 0)), (2, .ref (gA gm 0)), (3, .ref (gA gc 395)), (4, .int (nI i))] [.int x] := l_tabIn (pc := 40) (tgt := 542) (off := 502) F dL_law_40 (by rw [hx]; decide) (by rw [hx]; decide) (by rw [hx]; rfl) (by decide) (ca_near hT F hi hs hce kk)
set_option maxRecDepth 100000 in
theorem cb_7 (hT : l.stackTraces = false) (F : FL p s m args meth c gc gm b L xs) {i : Nat} {y : ST × ST} {x : Int32} (hx : x.toInt = 7) (hi : i + 6 ≤ L) (hs : s_blow hc hm (xs (i + 1)) (xs (i + 2)) (xs (i + 3)) = some y) (hce : cells + 3 ≤ 601024 ∧ slots + 18 ≤ 7293034)
    (kk : VL p l e s m args below meth c Q gc gm (cells + 3) (slots + 18) y.1 y.2 2250 [(0, .ref b), (1, .ref (gA gc 0)), (2, .ref (gA gm 0)), (3, .ref (gA gc 395)), (4, .int (nI i))] []) : VL p l e s m args below meth c Q gc gm cells slots hc hm 40 [(0, .ref b), (1, .ref (gA gc 0)), (2, .ref (gA gm 0)), (3, .ref (gA gc 395)), (4, .int (nI i))] [.int x] := l_tabIn (pc := 40) (tgt := 610) (off := 570) F dL_law_40 (by rw [hx]; decide) (by rw [hx]; decide) (by rw [hx]; rfl) (by decide) (ca_blow hT F hi hs hce kk)
set_option maxRecDepth 100000 in
theorem cb_8 (hT : l.stackTraces = false) (F : FL p s m args meth c gc gm b L xs) {i : Nat} {y : ST × ST} {x : Int32} (hx : x.toInt = 8) (hi : i + 6 ≤ L) (hs : s_wind hc hm (xs (i + 1)) = some y) (hce : cells + 3 ≤ 601024 ∧ slots + 18 ≤ 7293034)
    (kk : VL p l e s m args below meth c Q gc gm (cells + 3) (slots + 18) y.1 y.2 2250 [(0, .ref b), (1, .ref (gA gc 0)), (2, .ref (gA gm 0)), (3, .ref (gA gc 395)), (4, .int (nI i))] []) : VL p l e s m args below meth c Q gc gm cells slots hc hm 40 [(0, .ref b), (1, .ref (gA gc 0)), (2, .ref (gA gm 0)), (3, .ref (gA gc 395)), (4, .int (nI i))] [.int x] := l_tabIn (pc := 40) (tgt := 690) (off := 650) F dL_law_40 (by rw [hx]; decide) (by rw [hx]; decide) (by rw [hx]; rfl) (by decide) (ca_wind hT F hi hs hce kk)
set_option maxRecDepth 100000 in
theorem cb_9 (hT : l.stackTraces = false) (F : FL p s m args meth c gc gm b L xs) {i : Nat} {y : ST × ST} {x : Int32} (hx : x.toInt = 9) (hi : i + 6 ≤ L) (hs : s_days hc hm (xs (i + 1)) = some y) (hce : cells + 3 ≤ 601024 ∧ slots + 18 ≤ 7293034)
    (kk : VL p l e s m args below meth c Q gc gm (cells + 3) (slots + 18) y.1 y.2 2250 [(0, .ref b), (1, .ref (gA gc 0)), (2, .ref (gA gm 0)), (3, .ref (gA gc 395)), (4, .int (nI i))] []) : VL p l e s m args below meth c Q gc gm cells slots hc hm 40 [(0, .ref b), (1, .ref (gA gc 0)), (2, .ref (gA gm 0)), (3, .ref (gA gc 395)), (4, .int (nI i))] [.int x] := l_tabIn (pc := 40) (tgt := 746) (off := 706) F dL_law_40 (by rw [hx]; decide) (by rw [hx]; decide) (by rw [hx]; rfl) (by decide) (ca_days hT F hi hs hce kk)
set_option maxRecDepth 100000 in
theorem cb_10 (hT : l.stackTraces = false) (F : FL p s m args meth c gc gm b L xs) {i : Nat} {y : ST × ST} {x : Int32} (hx : x.toInt = 10) (hi : i + 6 ≤ L) (hs : s_sweep hc hm (xs (i + 1)) (xs (i + 2)) (xs (i + 3)) = some y) (hce : cells + 3 ≤ 601024 ∧ slots + 18 ≤ 7293034)
    (kk : VL p l e s m args below meth c Q gc gm (cells + 3) (slots + 18) y.1 y.2 2250 [(0, .ref b), (1, .ref (gA gc 0)), (2, .ref (gA gm 0)), (3, .ref (gA gc 395)), (4, .int (nI i))] []) : VL p l e s m args below meth c Q gc gm cells slots hc hm 40 [(0, .ref b), (1, .ref (gA gc 0)), (2, .ref (gA gm 0)), (3, .ref (gA gc 395)), (4, .int (nI i))] [.int x] := l_tabIn (pc := 40) (tgt := 771) (off := 731) F dL_law_40 (by rw [hx]; decide) (by rw [hx]; decide) (by rw [hx]; rfl) (by decide) (ca_sweep hT F hi hs hce kk)
set_option maxRecDepth 100000 in
theorem cb_11 (hT : l.stackTraces = false) (F : FL p s m args meth c gc gm b L xs) {i : Nat} {y : ST × ST} {x : Int32} (hx : x.toInt = 11) (hi : i + 6 ≤ L) (hs : s_shake hc hm (xs (i + 1)) (xs (i + 2)) = some y) (hce : cells + 3 ≤ 601024 ∧ slots + 18 ≤ 7293034)
    (kk : VL p l e s m args below meth c Q gc gm (cells + 3) (slots + 18) y.1 y.2 2250 [(0, .ref b), (1, .ref (gA gc 0)), (2, .ref (gA gm 0)), (3, .ref (gA gc 395)), (4, .int (nI i))] []) : VL p l e s m args below meth c Q gc gm cells slots hc hm 40 [(0, .ref b), (1, .ref (gA gc 0)), (2, .ref (gA gm 0)), (3, .ref (gA gc 395)), (4, .int (nI i))] [.int x] := l_tabIn (pc := 40) (tgt := 851) (off := 811) F dL_law_40 (by rw [hx]; decide) (by rw [hx]; decide) (by rw [hx]; rfl) (by decide) (ca_shake hT F hi hs hce kk)
set_option maxRecDepth 100000 in
theorem cb_12 (hT : l.stackTraces = false) (F : FL p s m args meth c gc gm b L xs) {i : Nat} {y : ST × ST} {x : Int32} (hx : x.toInt = 12) (hi : i + 6 ≤ L) (hs : s_sneeze hc hm (xs (i + 1)) (xs (i + 2)) = some y) (hce : cells + 3 ≤ 601024 ∧ slots + 18 ≤ 7293034)
    (kk : VL p l e s m args below meth c Q gc gm (cells + 3) (slots + 18) y.1 y.2 2250 [(0, .ref b), (1, .ref (gA gc 0)), (2, .ref (gA gm 0)), (3, .ref (gA gc 395)), (4, .int (nI i))] []) : VL p l e s m args below meth c Q gc gm cells slots hc hm 40 [(0, .ref b), (1, .ref (gA gc 0)), (2, .ref (gA gm 0)), (3, .ref (gA gc 395)), (4, .int (nI i))] [.int x] := l_tabIn (pc := 40) (tgt := 919) (off := 879) F dL_law_40 (by rw [hx]; decide) (by rw [hx]; decide) (by rw [hx]; rfl) (by decide) (ca_sneeze hT F hi hs hce kk)
set_option maxRecDepth 100000 in
theorem cb_13 (hT : l.stackTraces = false) (F : FL p s m args meth c gc gm b L xs) {i : Nat} {y : ST × ST} {x : Int32} (hx : x.toInt = 13) (hi : i + 6 ≤ L) (hs : s_plan hc hm (xs (i + 1)) (xs (i + 2)) = some y) (hce : cells + 3 ≤ 601024 ∧ slots + 18 ≤ 7293034)
    (kk : VL p l e s m args below meth c Q gc gm (cells + 3) (slots + 18) y.1 y.2 2250 [(0, .ref b), (1, .ref (gA gc 0)), (2, .ref (gA gm 0)), (3, .ref (gA gc 395)), (4, .int (nI i))] []) : VL p l e s m args below meth c Q gc gm cells slots hc hm 40 [(0, .ref b), (1, .ref (gA gc 0)), (2, .ref (gA gm 0)), (3, .ref (gA gc 395)), (4, .int (nI i))] [.int x] := l_tabIn (pc := 40) (tgt := 987) (off := 947) F dL_law_40 (by rw [hx]; decide) (by rw [hx]; decide) (by rw [hx]; rfl) (by decide) (ca_plan hT F hi hs hce kk)
set_option maxRecDepth 100000 in
theorem cb_14 (hT : l.stackTraces = false) (F : FL p s m args meth c gc gm b L xs) {i : Nat} {y : ST × ST} {x : Int32} (hx : x.toInt = 14) (hi : i + 6 ≤ L) (hs : s_undo hc hm = some y) (hce : cells + 3 ≤ 601024 ∧ slots + 18 ≤ 7293034)
    (kk : VL p l e s m args below meth c Q gc gm (cells + 3) (slots + 18) y.1 y.2 2250 [(0, .ref b), (1, .ref (gA gc 0)), (2, .ref (gA gm 0)), (3, .ref (gA gc 395)), (4, .int (nI i))] []) : VL p l e s m args below meth c Q gc gm cells slots hc hm 40 [(0, .ref b), (1, .ref (gA gc 0)), (2, .ref (gA gm 0)), (3, .ref (gA gc 395)), (4, .int (nI i))] [.int x] := l_tabIn (pc := 40) (tgt := 1024) (off := 984) F dL_law_40 (by rw [hx]; decide) (by rw [hx]; decide) (by rw [hx]; rfl) (by decide) (ca_undo hT F hi hs hce kk)
set_option maxRecDepth 100000 in
theorem cb_15 (hT : l.stackTraces = false) (F : FL p s m args meth c gc gm b L xs) {i : Nat} {y : ST × ST} {x : Int32} (hx : x.toInt = 15) (hi : i + 6 ≤ L) (hs : s_then hc hm (xs (i + 1)) (xs (i + 2)) = some y) (hce : cells + 3 ≤ 601024 ∧ slots + 18 ≤ 7293034)
    (kk : VL p l e s m args below meth c Q gc gm (cells + 3) (slots + 18) y.1 y.2 2250 [(0, .ref b), (1, .ref (gA gc 0)), (2, .ref (gA gm 0)), (3, .ref (gA gc 395)), (4, .int (nI i))] []) : VL p l e s m args below meth c Q gc gm cells slots hc hm 40 [(0, .ref b), (1, .ref (gA gc 0)), (2, .ref (gA gm 0)), (3, .ref (gA gc 395)), (4, .int (nI i))] [.int x] := l_tabIn (pc := 40) (tgt := 1037) (off := 997) F dL_law_40 (by rw [hx]; decide) (by rw [hx]; decide) (by rw [hx]; rfl) (by decide) (ca_then hT F hi hs hce kk)
set_option maxRecDepth 100000 in
theorem cb_16 (hT : l.stackTraces = false) (F : FL p s m args meth c gc gm b L xs) {i : Nat} {y : ST × ST} {x : Int32} (hx : x.toInt = 16) (hi : i + 6 ≤ L) (hs : s_taken hc hm (xs (i + 1)) = some y) (hce : cells + 3 ≤ 601024 ∧ slots + 18 ≤ 7293034)
    (kk : VL p l e s m args below meth c Q gc gm (cells + 3) (slots + 18) y.1 y.2 2250 [(0, .ref b), (1, .ref (gA gc 0)), (2, .ref (gA gm 0)), (3, .ref (gA gc 395)), (4, .int (nI i))] []) : VL p l e s m args below meth c Q gc gm cells slots hc hm 40 [(0, .ref b), (1, .ref (gA gc 0)), (2, .ref (gA gm 0)), (3, .ref (gA gc 395)), (4, .int (nI i))] [.int x] := l_tabIn (pc := 40) (tgt := 1105) (off := 1065) F dL_law_40 (by rw [hx]; decide) (by rw [hx]; decide) (by rw [hx]; rfl) (by decide) (ca_taken hT F hi hs hce kk)
set_option maxRecDepth 100000 in
theorem cb_17 (hT : l.stackTraces = false) (F : FL p s m args meth c gc gm b L xs) {i : Nat} {y : ST × ST} {x : Int32} (hx : x.toInt = 17) (hi : i + 6 ≤ L) (hs : s_thick hc hm (xs (i + 1)) (xs (i + 2)) = some y) (hce : cells + 3 ≤ 601024 ∧ slots + 18 ≤ 7293034)
    (kk : VL p l e s m args below meth c Q gc gm (cells + 3) (slots + 18) y.1 y.2 2250 [(0, .ref b), (1, .ref (gA gc 0)), (2, .ref (gA gm 0)), (3, .ref (gA gc 395)), (4, .int (nI i))] []) : VL p l e s m args below meth c Q gc gm cells slots hc hm 40 [(0, .ref b), (1, .ref (gA gc 0)), (2, .ref (gA gm 0)), (3, .ref (gA gc 395)), (4, .int (nI i))] [.int x] := l_tabIn (pc := 40) (tgt := 1161) (off := 1121) F dL_law_40 (by rw [hx]; decide) (by rw [hx]; decide) (by rw [hx]; rfl) (by decide) (ca_thick hT F hi hs hce kk)
set_option maxRecDepth 100000 in
theorem cb_18 (hT : l.stackTraces = false) (F : FL p s m args meth c gc gm b L xs) {i : Nat} {y : ST × ST} {x : Int32} (hx : x.toInt = 18) (hi : i + 6 ≤ L) (hs : s_heresy hc hm = some y) (hce : cells + 3 ≤ 601024 ∧ slots + 18 ≤ 7293034)
    (kk : VL p l e s m args below meth c Q gc gm (cells + 3) (slots + 18) y.1 y.2 2250 [(0, .ref b), (1, .ref (gA gc 0)), (2, .ref (gA gm 0)), (3, .ref (gA gc 395)), (4, .int (nI i))] []) : VL p l e s m args below meth c Q gc gm cells slots hc hm 40 [(0, .ref b), (1, .ref (gA gc 0)), (2, .ref (gA gm 0)), (3, .ref (gA gc 395)), (4, .int (nI i))] [.int x] := l_tabIn (pc := 40) (tgt := 1229) (off := 1189) F dL_law_40 (by rw [hx]; decide) (by rw [hx]; decide) (by rw [hx]; rfl) (by decide) (ca_heresy hT F hi hs hce kk)
set_option maxRecDepth 100000 in
theorem cb_19 (hT : l.stackTraces = false) (F : FL p s m args meth c gc gm b L xs) {i : Nat} {y : ST × ST} {x : Int32} (hx : x.toInt = 19) (hi : i + 6 ≤ L) (hs : s_order hc hm (xs (i + 1)) (xs (i + 2)) = some y) (hce : cells + 3 ≤ 601024 ∧ slots + 18 ≤ 7293034)
    (kk : VL p l e s m args below meth c Q gc gm (cells + 3) (slots + 18) y.1 y.2 2250 [(0, .ref b), (1, .ref (gA gc 0)), (2, .ref (gA gm 0)), (3, .ref (gA gc 395)), (4, .int (nI i))] []) : VL p l e s m args below meth c Q gc gm cells slots hc hm 40 [(0, .ref b), (1, .ref (gA gc 0)), (2, .ref (gA gm 0)), (3, .ref (gA gc 395)), (4, .int (nI i))] [.int x] := l_tabIn (pc := 40) (tgt := 1242) (off := 1202) F dL_law_40 (by rw [hx]; decide) (by rw [hx]; decide) (by rw [hx]; rfl) (by decide) (ca_order hT F hi hs hce kk)
set_option maxRecDepth 100000 in
theorem cb_20 (hT : l.stackTraces = false) (F : FL p s m args meth c gc gm b L xs) {i : Nat} {y : ST × ST} {x : Int32} (hx : x.toInt = 20) (hi : i + 6 ≤ L) (hs : s_alms hc hm = some y) (hce : cells + 3 ≤ 601024 ∧ slots + 18 ≤ 7293034)
    (kk : VL p l e s m args below meth c Q gc gm (cells + 3) (slots + 18) y.1 y.2 2250 [(0, .ref b), (1, .ref (gA gc 0)), (2, .ref (gA gm 0)), (3, .ref (gA gc 395)), (4, .int (nI i))] []) : VL p l e s m args below meth c Q gc gm cells slots hc hm 40 [(0, .ref b), (1, .ref (gA gc 0)), (2, .ref (gA gm 0)), (3, .ref (gA gc 395)), (4, .int (nI i))] [.int x] := l_tabIn (pc := 40) (tgt := 1310) (off := 1270) F dL_law_40 (by rw [hx]; decide) (by rw [hx]; decide) (by rw [hx]; rfl) (by decide) (ca_alms hT F hi hs hce kk)
set_option maxRecDepth 100000 in
theorem cb_21 (hT : l.stackTraces = false) (F : FL p s m args meth c gc gm b L xs) {i : Nat} {y : ST × ST} {x : Int32} (hx : x.toInt = 21) (hi : i + 6 ≤ L) (hs : s_round hc hm (xs (i + 1)) (xs (i + 2)) = some y) (hce : cells + 3 ≤ 601024 ∧ slots + 18 ≤ 7293034)
    (kk : VL p l e s m args below meth c Q gc gm (cells + 3) (slots + 18) y.1 y.2 2250 [(0, .ref b), (1, .ref (gA gc 0)), (2, .ref (gA gm 0)), (3, .ref (gA gc 395)), (4, .int (nI i))] []) : VL p l e s m args below meth c Q gc gm cells slots hc hm 40 [(0, .ref b), (1, .ref (gA gc 0)), (2, .ref (gA gm 0)), (3, .ref (gA gc 395)), (4, .int (nI i))] [.int x] := l_tabIn (pc := 40) (tgt := 1323) (off := 1283) F dL_law_40 (by rw [hx]; decide) (by rw [hx]; decide) (by rw [hx]; rfl) (by decide) (ca_round hT F hi hs hce kk)
set_option maxRecDepth 100000 in
theorem cb_22 (hT : l.stackTraces = false) (F : FL p s m args meth c gc gm b L xs) {i : Nat} {y : ST × ST} {x : Int32} (hx : x.toInt = 22) (hi : i + 6 ≤ L) (hs : s_shares hc hm (xs (i + 1)) = some y) (hce : cells + 3 ≤ 601024 ∧ slots + 18 ≤ 7293034)
    (kk : VL p l e s m args below meth c Q gc gm (cells + 3) (slots + 18) y.1 y.2 2250 [(0, .ref b), (1, .ref (gA gc 0)), (2, .ref (gA gm 0)), (3, .ref (gA gc 395)), (4, .int (nI i))] []) : VL p l e s m args below meth c Q gc gm cells slots hc hm 40 [(0, .ref b), (1, .ref (gA gc 0)), (2, .ref (gA gm 0)), (3, .ref (gA gc 395)), (4, .int (nI i))] [.int x] := l_tabIn (pc := 40) (tgt := 1391) (off := 1351) F dL_law_40 (by rw [hx]; decide) (by rw [hx]; decide) (by rw [hx]; rfl) (by decide) (ca_shares hT F hi hs hce kk)
set_option maxRecDepth 100000 in
theorem cb_23 (hT : l.stackTraces = false) (F : FL p s m args meth c gc gm b L xs) {i : Nat} {y : ST × ST} {x : Int32} (hx : x.toInt = 23) (hi : i + 6 ≤ L) (hs : s_from hc hm (xs (i + 1)) (xs (i + 2)) (xs (i + 3)) = some y) (hce : cells + 3 ≤ 601024 ∧ slots + 18 ≤ 7293034)
    (kk : VL p l e s m args below meth c Q gc gm (cells + 3) (slots + 18) y.1 y.2 2250 [(0, .ref b), (1, .ref (gA gc 0)), (2, .ref (gA gm 0)), (3, .ref (gA gc 395)), (4, .int (nI i))] []) : VL p l e s m args below meth c Q gc gm cells slots hc hm 40 [(0, .ref b), (1, .ref (gA gc 0)), (2, .ref (gA gm 0)), (3, .ref (gA gc 395)), (4, .int (nI i))] [.int x] := l_tabIn (pc := 40) (tgt := 1447) (off := 1407) F dL_law_40 (by rw [hx]; decide) (by rw [hx]; decide) (by rw [hx]; rfl) (by decide) (ca_from hT F hi hs hce kk)
set_option maxRecDepth 100000 in
theorem cb_24 (hT : l.stackTraces = false) (F : FL p s m args meth c gc gm b L xs) {i : Nat} {y : ST × ST} {x : Int32} (hx : x.toInt = 24) (hi : i + 6 ≤ L) (hs : s_poorest hc hm (xs (i + 1)) = some y) (hce : cells + 3 ≤ 601024 ∧ slots + 18 ≤ 7293034)
    (kk : VL p l e s m args below meth c Q gc gm (cells + 3) (slots + 18) y.1 y.2 2250 [(0, .ref b), (1, .ref (gA gc 0)), (2, .ref (gA gm 0)), (3, .ref (gA gc 395)), (4, .int (nI i))] []) : VL p l e s m args below meth c Q gc gm cells slots hc hm 40 [(0, .ref b), (1, .ref (gA gc 0)), (2, .ref (gA gm 0)), (3, .ref (gA gc 395)), (4, .int (nI i))] [.int x] := l_tabIn (pc := 40) (tgt := 1527) (off := 1487) F dL_law_40 (by rw [hx]; decide) (by rw [hx]; decide) (by rw [hx]; rfl) (by decide) (ca_poorest hT F hi hs hce kk)
set_option maxRecDepth 100000 in
theorem cb_25 (hT : l.stackTraces = false) (F : FL p s m args meth c gc gm b L xs) {i : Nat} {y : ST × ST} {x : Int32} (hx : x.toInt = 25) (hi : i + 6 ≤ L) (hs : s_fullest hc hm (xs (i + 1)) = some y) (hce : cells + 3 ≤ 601024 ∧ slots + 18 ≤ 7293034)
    (kk : VL p l e s m args below meth c Q gc gm (cells + 3) (slots + 18) y.1 y.2 2250 [(0, .ref b), (1, .ref (gA gc 0)), (2, .ref (gA gm 0)), (3, .ref (gA gc 395)), (4, .int (nI i))] []) : VL p l e s m args below meth c Q gc gm cells slots hc hm 40 [(0, .ref b), (1, .ref (gA gc 0)), (2, .ref (gA gm 0)), (3, .ref (gA gc 395)), (4, .int (nI i))] [.int x] := l_tabIn (pc := 40) (tgt := 1583) (off := 1543) F dL_law_40 (by rw [hx]; decide) (by rw [hx]; decide) (by rw [hx]; rfl) (by decide) (ca_fullest hT F hi hs hce kk)
set_option maxRecDepth 100000 in
theorem cb_26 (hT : l.stackTraces = false) (F : FL p s m args meth c gc gm b L xs) {i : Nat} {y : ST × ST} {x : Int32} (hx : x.toInt = 26) (hi : i + 6 ≤ L) (hs : s_change hc hm (xs (i + 1)) = some y) (hce : cells + 3 ≤ 601024 ∧ slots + 18 ≤ 7293034)
    (kk : VL p l e s m args below meth c Q gc gm (cells + 3) (slots + 18) y.1 y.2 2250 [(0, .ref b), (1, .ref (gA gc 0)), (2, .ref (gA gm 0)), (3, .ref (gA gc 395)), (4, .int (nI i))] []) : VL p l e s m args below meth c Q gc gm cells slots hc hm 40 [(0, .ref b), (1, .ref (gA gc 0)), (2, .ref (gA gm 0)), (3, .ref (gA gc 395)), (4, .int (nI i))] [.int x] := l_tabIn (pc := 40) (tgt := 1639) (off := 1599) F dL_law_40 (by rw [hx]; decide) (by rw [hx]; decide) (by rw [hx]; rfl) (by decide) (ca_change hT F hi hs hce kk)
set_option maxRecDepth 100000 in
theorem cb_27 (hT : l.stackTraces = false) (F : FL p s m args meth c gc gm b L xs) {i : Nat} {y : ST × ST} {x : Int32} (hx : x.toInt = 27) (hi : i + 6 ≤ L) (hs : s_lend hc hm (xs (i + 1)) = some y) (hce : cells + 3 ≤ 601024 ∧ slots + 18 ≤ 7293034)
    (kk : VL p l e s m args below meth c Q gc gm (cells + 3) (slots + 18) y.1 y.2 2250 [(0, .ref b), (1, .ref (gA gc 0)), (2, .ref (gA gm 0)), (3, .ref (gA gc 395)), (4, .int (nI i))] []) : VL p l e s m args below meth c Q gc gm cells slots hc hm 40 [(0, .ref b), (1, .ref (gA gc 0)), (2, .ref (gA gm 0)), (3, .ref (gA gc 395)), (4, .int (nI i))] [.int x] := l_tabIn (pc := 40) (tgt := 1695) (off := 1655) F dL_law_40 (by rw [hx]; decide) (by rw [hx]; decide) (by rw [hx]; rfl) (by decide) (ca_lend hT F hi hs hce kk)
set_option maxRecDepth 100000 in
theorem cb_28 (hT : l.stackTraces = false) (F : FL p s m args meth c gc gm b L xs) {i : Nat} {y : ST × ST} {x : Int32} (hx : x.toInt = 28) (hi : i + 6 ≤ L) (hs : s_often hc hm (xs (i + 1)) = some y) (hce : cells + 3 ≤ 601024 ∧ slots + 18 ≤ 7293034)
    (kk : VL p l e s m args below meth c Q gc gm (cells + 3) (slots + 18) y.1 y.2 2250 [(0, .ref b), (1, .ref (gA gc 0)), (2, .ref (gA gm 0)), (3, .ref (gA gc 395)), (4, .int (nI i))] []) : VL p l e s m args below meth c Q gc gm cells slots hc hm 40 [(0, .ref b), (1, .ref (gA gc 0)), (2, .ref (gA gm 0)), (3, .ref (gA gc 395)), (4, .int (nI i))] [.int x] := l_tabIn (pc := 40) (tgt := 1751) (off := 1711) F dL_law_40 (by rw [hx]; decide) (by rw [hx]; decide) (by rw [hx]; rfl) (by decide) (ca_often hT F hi hs hce kk)
set_option maxRecDepth 100000 in
theorem cb_29 (hT : l.stackTraces = false) (F : FL p s m args meth c gc gm b L xs) {i : Nat} {y : ST × ST} {x : Int32} (hx : x.toInt = 29) (hi : i + 6 ≤ L) (hs : s_riches hc hm (xs (i + 1)) = some y) (hce : cells + 3 ≤ 601024 ∧ slots + 18 ≤ 7293034)
    (kk : VL p l e s m args below meth c Q gc gm (cells + 3) (slots + 18) y.1 y.2 2250 [(0, .ref b), (1, .ref (gA gc 0)), (2, .ref (gA gm 0)), (3, .ref (gA gc 395)), (4, .int (nI i))] []) : VL p l e s m args below meth c Q gc gm cells slots hc hm 40 [(0, .ref b), (1, .ref (gA gc 0)), (2, .ref (gA gm 0)), (3, .ref (gA gc 395)), (4, .int (nI i))] [.int x] := l_tabIn (pc := 40) (tgt := 1807) (off := 1767) F dL_law_40 (by rw [hx]; decide) (by rw [hx]; decide) (by rw [hx]; rfl) (by decide) (ca_riches hT F hi hs hce kk)
set_option maxRecDepth 100000 in
theorem cb_30 (hT : l.stackTraces = false) (F : FL p s m args meth c gc gm b L xs) {i : Nat} {y : ST × ST} {x : Int32} (hx : x.toInt = 30) (hi : i + 6 ≤ L) (hs : s_lost hc hm (xs (i + 1)) = some y) (hce : cells + 3 ≤ 601024 ∧ slots + 18 ≤ 7293034)
    (kk : VL p l e s m args below meth c Q gc gm (cells + 3) (slots + 18) y.1 y.2 2250 [(0, .ref b), (1, .ref (gA gc 0)), (2, .ref (gA gm 0)), (3, .ref (gA gc 395)), (4, .int (nI i))] []) : VL p l e s m args below meth c Q gc gm cells slots hc hm 40 [(0, .ref b), (1, .ref (gA gc 0)), (2, .ref (gA gm 0)), (3, .ref (gA gc 395)), (4, .int (nI i))] [.int x] := l_tabIn (pc := 40) (tgt := 1863) (off := 1823) F dL_law_40 (by rw [hx]; decide) (by rw [hx]; decide) (by rw [hx]; rfl) (by decide) (ca_lost hT F hi hs hce kk)
set_option maxRecDepth 100000 in
theorem cb_31 (hT : l.stackTraces = false) (F : FL p s m args meth c gc gm b L xs) {i : Nat} {y : ST × ST} {x : Int32} (hx : x.toInt = 31) (hi : i + 6 ≤ L) (hs : s_see hc hm (xs (i + 1)) (xs (i + 2)) (xs (i + 3)) = some y) (hce : cells + 3 ≤ 601024 ∧ slots + 18 ≤ 7293034)
    (kk : VL p l e s m args below meth c Q gc gm (cells + 3) (slots + 18) y.1 y.2 2250 [(0, .ref b), (1, .ref (gA gc 0)), (2, .ref (gA gm 0)), (3, .ref (gA gc 395)), (4, .int (nI i))] []) : VL p l e s m args below meth c Q gc gm cells slots hc hm 40 [(0, .ref b), (1, .ref (gA gc 0)), (2, .ref (gA gm 0)), (3, .ref (gA gc 395)), (4, .int (nI i))] [.int x] := l_tabIn (pc := 40) (tgt := 1919) (off := 1879) F dL_law_40 (by rw [hx]; decide) (by rw [hx]; decide) (by rw [hx]; rfl) (by decide) (ca_see hT F hi hs hce kk)
set_option maxRecDepth 100000 in
theorem cb_32 (hT : l.stackTraces = false) (F : FL p s m args meth c gc gm b L xs) {i : Nat} {y : ST × ST} {x : Int32} (hx : x.toInt = 32) (hi : i + 6 ≤ L) (hs : s_hand hc hm (xs (i + 1)) = some y) (hce : cells + 3 ≤ 601024 ∧ slots + 18 ≤ 7293034)
    (kk : VL p l e s m args below meth c Q gc gm (cells + 3) (slots + 18) y.1 y.2 2250 [(0, .ref b), (1, .ref (gA gc 0)), (2, .ref (gA gm 0)), (3, .ref (gA gc 395)), (4, .int (nI i))] []) : VL p l e s m args below meth c Q gc gm cells slots hc hm 40 [(0, .ref b), (1, .ref (gA gc 0)), (2, .ref (gA gm 0)), (3, .ref (gA gc 395)), (4, .int (nI i))] [.int x] := l_tabIn (pc := 40) (tgt := 1999) (off := 1959) F dL_law_40 (by rw [hx]; decide) (by rw [hx]; decide) (by rw [hx]; rfl) (by decide) (ca_hand hT F hi hs hce kk)
set_option maxRecDepth 100000 in
theorem cb_33 (hT : l.stackTraces = false) (F : FL p s m args meth c gc gm b L xs) {i : Nat} {y : ST × ST} {x : Int32} (hx : x.toInt = 33) (hi : i + 6 ≤ L) (hs : s_forget hc hm = some y) (hce : cells + 3 ≤ 601024 ∧ slots + 18 ≤ 7293034)
    (kk : VL p l e s m args below meth c Q gc gm (cells + 3) (slots + 18) y.1 y.2 2250 [(0, .ref b), (1, .ref (gA gc 0)), (2, .ref (gA gm 0)), (3, .ref (gA gc 395)), (4, .int (nI i))] []) : VL p l e s m args below meth c Q gc gm cells slots hc hm 40 [(0, .ref b), (1, .ref (gA gc 0)), (2, .ref (gA gm 0)), (3, .ref (gA gc 395)), (4, .int (nI i))] [.int x] := l_tabIn (pc := 40) (tgt := 2055) (off := 2015) F dL_law_40 (by rw [hx]; decide) (by rw [hx]; decide) (by rw [hx]; rfl) (by decide) (ca_forget hT F hi hs hce kk)
set_option maxRecDepth 100000 in
theorem cb_34 (hT : l.stackTraces = false) (F : FL p s m args meth c gc gm b L xs) {i : Nat} {y : ST × ST} {x : Int32} (hx : x.toInt = 34) (hi : i + 6 ≤ L) (hs : s_game hc hm (xs (i + 1)) (xs (i + 2)) (xs (i + 3)) = some y) (hce : cells + 3 ≤ 601024 ∧ slots + 18 ≤ 7293034)
    (kk : VL p l e s m args below meth c Q gc gm (cells + 3) (slots + 18) y.1 y.2 2250 [(0, .ref b), (1, .ref (gA gc 0)), (2, .ref (gA gm 0)), (3, .ref (gA gc 395)), (4, .int (nI i))] []) : VL p l e s m args below meth c Q gc gm cells slots hc hm 40 [(0, .ref b), (1, .ref (gA gc 0)), (2, .ref (gA gm 0)), (3, .ref (gA gc 395)), (4, .int (nI i))] [.int x] := l_tabIn (pc := 40) (tgt := 2066) (off := 2026) F dL_law_40 (by rw [hx]; decide) (by rw [hx]; decide) (by rw [hx]; rfl) (by decide) (ca_game hT F hi hs hce kk)
set_option maxRecDepth 100000 in
theorem cb_35 (hT : l.stackTraces = false) (F : FL p s m args meth c gc gm b L xs) {i : Nat} {y : ST × ST} {x : Int32} (hx : x.toInt = 35) (hi : i + 6 ≤ L) (hs : s_years hc hm (xs (i + 1)) (xs (i + 2)) (xs (i + 3)) = some y) (hce : cells + 3 ≤ 601024 ∧ slots + 18 ≤ 7293034)
    (kk : VL p l e s m args below meth c Q gc gm (cells + 3) (slots + 18) y.1 y.2 2250 [(0, .ref b), (1, .ref (gA gc 0)), (2, .ref (gA gm 0)), (3, .ref (gA gc 395)), (4, .int (nI i))] []) : VL p l e s m args below meth c Q gc gm cells slots hc hm 40 [(0, .ref b), (1, .ref (gA gc 0)), (2, .ref (gA gm 0)), (3, .ref (gA gc 395)), (4, .int (nI i))] [.int x] := l_tabIn (pc := 40) (tgt := 2146) (off := 2106) F dL_law_40 (by rw [hx]; decide) (by rw [hx]; decide) (by rw [hx]; rfl) (by decide) (ca_years hT F hi hs hce kk)
set_option maxRecDepth 100000 in
theorem cb_36 (hT : l.stackTraces = false) (F : FL p s m args meth c gc gm b L xs) {i : Nat} {y : ST × ST} {x : Int32} (hx : x.toInt = 36) (hi : i + 6 ≤ L) (hs : s_image hc hm = some y) (hce : cells + 3 ≤ 601024 ∧ slots + 18 ≤ 7293034)
    (kk : VL p l e s m args below meth c Q gc gm (cells + 3) (slots + 18) y.1 y.2 2250 [(0, .ref b), (1, .ref (gA gc 0)), (2, .ref (gA gm 0)), (3, .ref (gA gc 395)), (4, .int (nI i))] []) : VL p l e s m args below meth c Q gc gm cells slots hc hm 40 [(0, .ref b), (1, .ref (gA gc 0)), (2, .ref (gA gm 0)), (3, .ref (gA gc 395)), (4, .int (nI i))] [.int x] := l_tabIn (pc := 40) (tgt := 2226) (off := 2186) F dL_law_40 (by rw [hx]; decide) (by rw [hx]; decide) (by rw [hx]; rfl) (by decide) (ca_image hT F hi hs hce kk)
set_option maxRecDepth 100000 in
theorem cb_37 (hT : l.stackTraces = false) (F : FL p s m args meth c gc gm b L xs) {i : Nat} {y : ST × ST} {x : Int32} (hx : x.toInt = 37) (hi : i + 6 ≤ L) (hs : s_restore hc hm = some y) (hce : cells + 3 ≤ 601024 ∧ slots + 18 ≤ 7293034)
    (kk : VL p l e s m args below meth c Q gc gm (cells + 3) (slots + 18) y.1 y.2 2250 [(0, .ref b), (1, .ref (gA gc 0)), (2, .ref (gA gm 0)), (3, .ref (gA gc 395)), (4, .int (nI i))] []) : VL p l e s m args below meth c Q gc gm cells slots hc hm 40 [(0, .ref b), (1, .ref (gA gc 0)), (2, .ref (gA gm 0)), (3, .ref (gA gc 395)), (4, .int (nI i))] [.int x] := l_tabIn (pc := 40) (tgt := 2237) (off := 2197) F dL_law_40 (by rw [hx]; decide) (by rw [hx]; decide) (by rw [hx]; rfl) (by decide) (ca_restore hT F hi hs hce kk)
theorem lawStep_out {k : Nat} {hc hm : ST} {a1 a2 a3 a4 a5 : Int32} (h : 38 ≤ k) : lawStep k hc hm a1 a2 a3 a4 a5 = some (hc, hm) := by
  obtain ⟨r, rfl⟩ : ∃ r, k = r + 38 := ⟨k - 38, by omega⟩
  rfl
set_option maxRecDepth 100000 in
set_option maxHeartbeats 4000000 in
theorem ca_all (hT : l.stackTraces = false) (F : FL p s m args meth c gc gm b L xs) {i : Nat} {y : ST × ST} (hi : i + 6 ≤ L) (hs : lawStep (opc (xs i)) hc hm (xs (i + 1)) (xs (i + 2)) (xs (i + 3)) (xs (i + 4)) (xs (i + 5)) = some y) (hce : cells + 3 ≤ 601024 ∧ slots + 18 ≤ 7293034)
    (kk : VL p l e s m args below meth c Q gc gm (cells + 3) (slots + 18) y.1 y.2 2250 [(0, .ref b), (1, .ref (gA gc 0)), (2, .ref (gA gm 0)), (3, .ref (gA gc 395)), (4, .int (nI i))] []) : VL p l e s m args below meth c Q gc gm cells slots hc hm 40 [(0, .ref b), (1, .ref (gA gc 0)), (2, .ref (gA gm 0)), (3, .ref (gA gc 395)), (4, .int (nI i))] [.int (xs i &&& 63)] := by
  obtain ⟨k, hk, hx⟩ := and63 (xs i)
  have ho : opc (xs i) = k := by unfold opc; rw [hx]; rfl
  rw [ho] at hs
  by_cases h38 : 38 ≤ k
  · rw [lawStep_out h38] at hs
    have hs := Option.some.inj hs
    subst hs
    exact l_tabOut (pc := 40) (tgt := 2250) F dL_law_40 (Or.inr (by rw [hx]; omega)) (by decide) (VL_widen (by omega) (by omega) kk)
  by_cases h0 : k = 0
  · subst h0; exact cb_0 hT F hx hi hs hce kk
  by_cases h1 : k = 1
  · subst h1; exact cb_1 hT F hx hi hs hce kk
  by_cases h2 : k = 2
  · subst h2; exact cb_2 hT F hx hi hs hce kk
  by_cases h3 : k = 3
  · subst h3; exact cb_3 hT F hx hi hs hce kk
  by_cases h4 : k = 4
  · subst h4; exact cb_4 hT F hx hi hs hce kk
  by_cases h5 : k = 5
  · subst h5; exact cb_5 hT F hx hi hs hce kk
  by_cases h6 : k = 6
  · subst h6; exact cb_6 hT F hx hi hs hce kk
  by_cases h7 : k = 7
  · subst h7; exact cb_7 hT F hx hi hs hce kk
  by_cases h8 : k = 8
  · subst h8; exact cb_8 hT F hx hi hs hce kk
  by_cases h9 : k = 9
  · subst h9; exact cb_9 hT F hx hi hs hce kk
  by_cases h10 : k = 10
  · subst h10; exact cb_10 hT F hx hi hs hce kk
  by_cases h11 : k = 11
  · subst h11; exact cb_11 hT F hx hi hs hce kk
  by_cases h12 : k = 12
  · subst h12; exact cb_12 hT F hx hi hs hce kk
  by_cases h13 : k = 13
  · subst h13; exact cb_13 hT F hx hi hs hce kk
  by_cases h14 : k = 14
  · subst h14; exact cb_14 hT F hx hi hs hce kk
  by_cases h15 : k = 15
  · subst h15; exact cb_15 hT F hx hi hs hce kk
  by_cases h16 : k = 16
  · subst h16; exact cb_16 hT F hx hi hs hce kk
  by_cases h17 : k = 17
  · subst h17; exact cb_17 hT F hx hi hs hce kk
  by_cases h18 : k = 18
  · subst h18; exact cb_18 hT F hx hi hs hce kk
  by_cases h19 : k = 19
  · subst h19; exact cb_19 hT F hx hi hs hce kk
  by_cases h20 : k = 20
  · subst h20; exact cb_20 hT F hx hi hs hce kk
  by_cases h21 : k = 21
  · subst h21; exact cb_21 hT F hx hi hs hce kk
  by_cases h22 : k = 22
  · subst h22; exact cb_22 hT F hx hi hs hce kk
  by_cases h23 : k = 23
  · subst h23; exact cb_23 hT F hx hi hs hce kk
  by_cases h24 : k = 24
  · subst h24; exact cb_24 hT F hx hi hs hce kk
  by_cases h25 : k = 25
  · subst h25; exact cb_25 hT F hx hi hs hce kk
  by_cases h26 : k = 26
  · subst h26; exact cb_26 hT F hx hi hs hce kk
  by_cases h27 : k = 27
  · subst h27; exact cb_27 hT F hx hi hs hce kk
  by_cases h28 : k = 28
  · subst h28; exact cb_28 hT F hx hi hs hce kk
  by_cases h29 : k = 29
  · subst h29; exact cb_29 hT F hx hi hs hce kk
  by_cases h30 : k = 30
  · subst h30; exact cb_30 hT F hx hi hs hce kk
  by_cases h31 : k = 31
  · subst h31; exact cb_31 hT F hx hi hs hce kk
  by_cases h32 : k = 32
  · subst h32; exact cb_32 hT F hx hi hs hce kk
  by_cases h33 : k = 33
  · subst h33; exact cb_33 hT F hx hi hs hce kk
  by_cases h34 : k = 34
  · subst h34; exact cb_34 hT F hx hi hs hce kk
  by_cases h35 : k = 35
  · subst h35; exact cb_35 hT F hx hi hs hce kk
  by_cases h36 : k = 36
  · subst h36; exact cb_36 hT F hx hi hs hce kk
  by_cases h37 : k = 37
  · subst h37; exact cb_37 hT F hx hi hs hce kk
  exact absurd h38 (by omega)
set_option maxRecDepth 100000 in
set_option maxHeartbeats 4000000 in
theorem law_loop (hT : l.stackTraces = false) (F : FL p s m args meth c gc gm b L xs) (Inv : Nat → ST → ST → Prop)
    (hstep : ∀ n hc hm k a1 a2 a3 a4 a5, n < 512 → Inv n hc hm → ∃ y, lawStep k hc hm a1 a2 a3 a4 a5 = some y ∧ Inv (n + 1) y.1 y.2)
    (hend : ∀ cells slots hc hm i, cells ≤ 601024 → slots ≤ 7293034 → VL p l e s m args below meth c Q gc gm cells slots hc hm 2256 [(0, .ref b), (1, .ref (gA gc 0)), (2, .ref (gA gm 0)), (3, .ref (gA gc 395)), (4, .int (nI i))] []) :
    ∀ r n hc hm, L = 6 * n + r → Inv n hc hm → VL p l e s m args below meth c Q gc gm (500 + 3 * n) (21000 + 18 * n) hc hm 23 [(0, .ref b), (1, .ref (gA gc 0)), (2, .ref (gA gm 0)), (3, .ref (gA gc 395)), (4, .int (nI (6 * n)))] [] := by
  intro r
  induction r using Nat.strongRecOn with
  | _ r ih =>
  intro n hc hm hr hI
  have hL := F.2.2.2.2.2.2.2.2.2.2.2.2
  refine l_iload (pc := 23) (j := 4) F dL_law_23 rfl ?_
  refine l_aload_n (pc := 25) (j := 0) F dL_law_25 rfl rfl ?_
  refine l_slen (pc := 26) F dL_law_26 ?_
  refine l_bipush (pc := 27) (v := 6) F dL_law_27 (by decide) ?_
  refine l_isub (pc := 29) F dL_law_29 ?_
  have hLt : (Int32.ofNat L).toInt = (L : Int) := nI_toInt (by omega)
  have h6 : (Int32.ofNat L - 6).toInt = (L : Int) - 6 := by
    rw [Int32.toInt_sub, hLt]
    show Int.bmod ((L : Int) - 6) (2 ^ 32) = _
    exact Int.bmod_eq_of_le (by omega) (by omega)
  have hn6 : (nI (6 * n)).toInt = ((6 * n : Nat) : Int) := nI_toInt (by omega)
  refine l_icmp_gt (pc := 30) (tgt := 2256) F dL_law_30 (by decide) (fun _ => hend _ _ _ _ _ (by omega) (by omega)) (fun hq => ?_)
  have hr6 : 6 ≤ r := by
    have h1 := Int32.not_lt.mp hq
    rw [Int32.le_iff_toInt_le, h6, hn6] at h1
    omega
  obtain ⟨y, hy, hI'⟩ := hstep n hc hm (opc (xs (6 * n))) (xs (6 * n + 1)) (xs (6 * n + 2)) (xs (6 * n + 3)) (xs (6 * n + 4)) (xs (6 * n + 5)) (by omega) hI
  refine l_aload_n (pc := 33) (j := 0) F dL_law_33 rfl rfl ?_
  refine l_iload (pc := 34) (j := 4) F dL_law_34 rfl ?_
  refine l_sld (pc := 36) F (vp_in_nI (by omega) (by omega)) dL_law_36 ?_
  rw [nI_clamp (by omega)]
  refine l_bipush (pc := 37) (v := 63) F dL_law_37 (by decide) ?_
  refine l_iand (pc := 39) F dL_law_39 ?_
  refine ca_all hT F (i := 6 * n) (by omega) hy ⟨by omega, by omega⟩ ?_
  refine l_iinc (pc := 2250) (j := 4) (v := nI (6 * (n + 1))) (lv' := [(0, .ref b), (1, .ref (gA gc 0)), (2, .ref (gA gm 0)), (3, .ref (gA gc 395)), (4, .int (nI (6 * (n + 1))))]) F dL_law_2250 rfl (nI_add (6 * n) 6) (by decide) rfl ?_
  refine l_goto (pc := 2253) (tgt := 23) F dL_law_2253 (by decide) ?_
  exact ih (r - 6) (by omega) (n + 1) y.1 y.2 (by omega) hI'
end LC
