set_option maxHeartbeats 4000000 in
set_option maxRecDepth 100000 in
theorem L_as {p : Program} {l : Launch} {e : Env} {s : State} {m : MethodId} {below : List Frame} {meth : Method} {c0 : Code} {cells slots : Nat} {Q : State → Prop} {N : ckN} {A : Nat → Prop} {b L i : Nat} {xs : Nat → Int32} {ls : Array Slot} {ad am : Nat → Nat} {shp : Nat → Option Nat} {H : Heap} {locs : List Loc} {c ch cs : Nat → Nat → Int32} {nn bt ct ns : Nat → Nat} {ii : Nat → Int32} {stf : Nat → Option Nat} {sl : Nat → va_W} {w : Nat → List Nat} {cm : Nat → Nat → Int32} {mn : Nat} (hC : LC p s m c0 cells slots N A b L i xs ls ad am) (K : LK p l e s m below meth c0 cells slots Q N A b ls ad am shp) (hJ : Jv N ad shp c ch nn bt ct ii stf sl w cm) (hP : va_P N.1 vwCl (CW N ad shp c ch cs nn bt ct ns ii stf sl ++ MW N am cm (nn 2) (nn 3) (ii 1) mn) H) (hD : va_D A (CW N ad shp c ch cs nn bt ct ns ii stf sl ++ MW N am cm (nn 2) (nn 3) (ii 1) mn)) (hS : va_S A s.heap H locs) : W p l e room_1 s m #[Value.ref b] below meth c0 H locs cells slots Q (F0 m 243 ls []) := by
  obtain ⟨hx, hb, C0, hX, hbl, hbA, hi, hL4, hl, hcs1, hcs2⟩ := hC
  refine lv_aload_n hx hb dL_law_243 rfl (lv_at hl 1 rfl) ?_
  refine lw_rd 1 hx hb hX hbl hbA hS hl hi hL4 (by decide) (by decide) dL_law_244 dL_law_245 dL_law_246 dL_law_247 dL_law_248 ?_
  refine lw_rd 2 hx hb hX hbl hbA hS hl hi hL4 (by decide) (by decide) dL_law_249 dL_law_250 dL_law_251 dL_law_252 dL_law_253 ?_
  refine ck_Vi (As := [.int (xs (i + 1)), .int (xs (i + 2))]) (rest := []) (wr := MW N am cm (nn 2) (nn 3) (ii 1) mn) C0 hP hD hS (u_X10_as l N ad shp c ch cs nn bt ct ns ii stf sl (xs (i + 1)) (xs (i + 2))  (iA_air hJ.1.2.1)) myX10_as k2_93 ⟨Nat.le_of_ble_eq_true rfl, Nat.le_of_ble_eq_true rfl⟩ _ _ (ckX_L _ _) 0 rfl rfl rfl rfl hl.1 rfl (Nat.le_of_ble_eq_true rfl) dL_law_254 ⟨by show cells + 0 ≤ 600000; omega, by show slots + 0 ≤ 7302250; omega⟩ (fun r1 u H locs hw hP hD hS => ?_)
  obtain ⟨fd2, hp1, rfl⟩ := hw
  have hP : va_P N.1 vwCl (MW N am cm (nn 2) (nn 3) (ii 1) mn ++ CW N ad shp c ch cs nn bt ct ns (up1 ii 1 fd2) stf sl) H := hP
  have hD : va_D A (MW N am cm (nn 2) (nn 3) (ii 1) mn ++ CW N ad shp c ch cs nn bt ct ns (up1 ii 1 fd2) stf sl) := hD
  refine lv_aload_n hx hb dL_law_257 rfl (lv_at hl 2 rfl) ?_
  refine lw_rd 1 hx hb hX hbl hbA hS hl hi hL4 (by decide) (by decide) dL_law_258 dL_law_259 dL_law_260 dL_law_261 dL_law_262 ?_
  refine lw_rd 2 hx hb hX hbl hbA hS hl hi hL4 (by decide) (by decide) dL_law_263 dL_law_264 dL_law_265 dL_law_266 dL_law_267 ?_
  refine ck_Vi (As := [.int (xs (i + 1)), .int (xs (i + 2))]) (rest := [.int r1]) (wr := CW N ad shp c ch cs nn bt ct ns (up1 ii 1 fd2) stf sl) C0 hP hD hS (u_X11_as l N am cm (nn 2) (nn 3) (ii 1) mn (nn 0) (nn 1) (ii 0) (c 0) (c 1) (c 2) w (c 6) (c 9) (c 8) (c 7) (fun i => ix (c 0 (i * 8 + 0))) (fun i => ix (c 0 (i * 8 + 3))) (fun j => ix (c 1 j)) (xs (i + 1)) (xs (i + 2)) hJ.1.2.2.2 (iA_air hJ.1.2.1)) myX11_as k4_88 ⟨Nat.le_of_ble_eq_true rfl, Nat.le_of_ble_eq_true rfl⟩ _ _ (ckX_L _ _) 0 rfl rfl rfl rfl hl.1 rfl (Nat.le_of_ble_eq_true rfl) dL_law_268 ⟨by show cells + 0 + 0 ≤ 600000; omega, by show slots + 0 + 0 ≤ 7302250; omega⟩ (fun r2 v H locs hw hP hD hS => ?_)
  obtain ⟨fd2m, hp2, rfl⟩ := hw
  have hP : va_P N.1 vwCl (CW N ad shp c ch cs nn bt ct ns (up1 ii 1 fd2) stf sl ++ MW N am cm (nn 2) (nn 3) fd2m mn) H := hP
  have hD : va_D A (CW N ad shp c ch cs nn bt ct ns (up1 ii 1 fd2) stf sl ++ MW N am cm (nn 2) (nn 3) fd2m mn) := hD
  obtain ⟨er, ef⟩ := ckRd_eq hp1 hp2
  subst ef
  refine lv_icmp_eq (tgt := 1238) hx hb dL_law_271 (by decide) (fun _ => ?_) (fun q => absurd er q)
  refine W.widen (k := cells + 16) (n := slots + 596) (by show cells + 0 + 0 ≤ cells + 16; omega) (by show slots + 0 + 0 ≤ slots + 596; omega) ?_
  exact K c ch cs nn bt ct ns (up1 ii 1 fd2) stf sl w cm mn H locs ⟨⟨hJ.1.1, hJ.1.2.1, hJ.1.2.2.1, hJ.1.2.2.2⟩, hJ.2.1, hJ.2.2.1, hJ.2.2.2.1, hJ.2.2.2.2⟩ hP hD hS
set_option maxHeartbeats 4000000 in
set_option maxRecDepth 100000 in
theorem L_of {p : Program} {l : Launch} {e : Env} {s : State} {m : MethodId} {below : List Frame} {meth : Method} {c0 : Code} {cells slots : Nat} {Q : State → Prop} {N : ckN} {A : Nat → Prop} {b L i : Nat} {xs : Nat → Int32} {ls : Array Slot} {ad am : Nat → Nat} {shp : Nat → Option Nat} {H : Heap} {locs : List Loc} {c ch cs : Nat → Nat → Int32} {nn bt ct ns : Nat → Nat} {ii : Nat → Int32} {stf : Nat → Option Nat} {sl : Nat → va_W} {w : Nat → List Nat} {cm : Nat → Nat → Int32} {mn : Nat} (hC : LC p s m c0 cells slots N A b L i xs ls ad am) (K : LK p l e s m below meth c0 cells slots Q N A b ls ad am shp) (hJ : Jv N ad shp c ch nn bt ct ii stf sl w cm) (hP : va_P N.1 vwCl (CW N ad shp c ch cs nn bt ct ns ii stf sl ++ MW N am cm (nn 2) (nn 3) (ii 1) mn) H) (hD : va_D A (CW N ad shp c ch cs nn bt ct ns ii stf sl ++ MW N am cm (nn 2) (nn 3) (ii 1) mn)) (hS : va_S A s.heap H locs) : W p l e room_1 s m #[Value.ref b] below meth c0 H locs cells slots Q (F0 m 276 ls []) := by
  obtain ⟨hx, hb, C0, hX, hbl, hbA, hi, hL4, hl, hcs1, hcs2⟩ := hC
  refine lv_aload_n hx hb dL_law_276 rfl (lv_at hl 1 rfl) ?_
  refine lw_rd 1 hx hb hX hbl hbA hS hl hi hL4 (by decide) (by decide) dL_law_277 dL_law_278 dL_law_279 dL_law_280 dL_law_281 ?_
  refine lw_rd 2 hx hb hX hbl hbA hS hl hi hL4 (by decide) (by decide) dL_law_282 dL_law_283 dL_law_284 dL_law_285 dL_law_286 ?_
  refine ck_Vi (As := [.int (xs (i + 1)), .int (xs (i + 2))]) (rest := []) (wr := MW N am cm (nn 2) (nn 3) (ii 1) mn) C0 hP hD hS (u_X10_of l N ad shp c ch cs nn bt ct ns ii stf sl (xs (i + 1)) (xs (i + 2))  hJ.1.2.1.1) myX10_of k2_111 ⟨Nat.le_of_ble_eq_true rfl, Nat.le_of_ble_eq_true rfl⟩ _ _ (ckX_L _ _) 0 rfl rfl rfl rfl hl.1 rfl (Nat.le_of_ble_eq_true rfl) dL_law_287 ⟨by show cells + 0 ≤ 600000; omega, by show slots + 0 ≤ 7302250; omega⟩ (fun r1 u H locs hw hP hD hS => ?_)
  obtain ⟨fd2, hp1, rfl⟩ := hw
  have hP : va_P N.1 vwCl (MW N am cm (nn 2) (nn 3) (ii 1) mn ++ CW N ad shp c ch cs nn bt ct ns (up1 ii 1 fd2) stf sl) H := hP
  have hD : va_D A (MW N am cm (nn 2) (nn 3) (ii 1) mn ++ CW N ad shp c ch cs nn bt ct ns (up1 ii 1 fd2) stf sl) := hD
  refine lv_aload_n hx hb dL_law_290 rfl (lv_at hl 2 rfl) ?_
  refine lw_rd 1 hx hb hX hbl hbA hS hl hi hL4 (by decide) (by decide) dL_law_291 dL_law_292 dL_law_293 dL_law_294 dL_law_295 ?_
  refine lw_rd 2 hx hb hX hbl hbA hS hl hi hL4 (by decide) (by decide) dL_law_296 dL_law_297 dL_law_298 dL_law_299 dL_law_300 ?_
  refine ck_Vi (As := [.int (xs (i + 1)), .int (xs (i + 2))]) (rest := [.int r1]) (wr := CW N ad shp c ch cs nn bt ct ns (up1 ii 1 fd2) stf sl) C0 hP hD hS (u_X11_of l N am cm (nn 2) (nn 3) (ii 1) mn (nn 0) (nn 1) (ii 0) (c 0) (c 1) (c 2) w (c 6) (c 9) (c 8) (c 7) (xs (i + 1)) (xs (i + 2)) hJ.1.2.2.2 hJ.1.2.1.1) myX11_of k4_101 ⟨Nat.le_of_ble_eq_true rfl, Nat.le_of_ble_eq_true rfl⟩ _ _ (ckX_L _ _) 0 rfl rfl rfl rfl hl.1 rfl (Nat.le_of_ble_eq_true rfl) dL_law_301 ⟨by show cells + 0 + 0 ≤ 600000; omega, by show slots + 0 + 0 ≤ 7302250; omega⟩ (fun r2 v H locs hw hP hD hS => ?_)
  obtain ⟨fd2m, hp2, rfl⟩ := hw
  have hP : va_P N.1 vwCl (CW N ad shp c ch cs nn bt ct ns (up1 ii 1 fd2) stf sl ++ MW N am cm (nn 2) (nn 3) fd2m mn) H := hP
  have hD : va_D A (CW N ad shp c ch cs nn bt ct ns (up1 ii 1 fd2) stf sl ++ MW N am cm (nn 2) (nn 3) fd2m mn) := hD
  obtain ⟨er, ef⟩ := ckRd_eq hp1 hp2
  subst ef
  refine lv_icmp_eq (tgt := 1238) hx hb dL_law_304 (by decide) (fun _ => ?_) (fun q => absurd er q)
  refine W.widen (k := cells + 16) (n := slots + 596) (by show cells + 0 + 0 ≤ cells + 16; omega) (by show slots + 0 + 0 ≤ slots + 596; omega) ?_
  exact K c ch cs nn bt ct ns (up1 ii 1 fd2) stf sl w cm mn H locs ⟨⟨hJ.1.1, hJ.1.2.1, hJ.1.2.2.1, hJ.1.2.2.2⟩, hJ.2.1, hJ.2.2.1, hJ.2.2.2.1, hJ.2.2.2.2⟩ hP hD hS
set_option maxHeartbeats 4000000 in
set_option maxRecDepth 100000 in
theorem L_windAt {p : Program} {l : Launch} {e : Env} {s : State} {m : MethodId} {below : List Frame} {meth : Method} {c0 : Code} {cells slots : Nat} {Q : State → Prop} {N : ckN} {A : Nat → Prop} {b L i : Nat} {xs : Nat → Int32} {ls : Array Slot} {ad am : Nat → Nat} {shp : Nat → Option Nat} {H : Heap} {locs : List Loc} {c ch cs : Nat → Nat → Int32} {nn bt ct ns : Nat → Nat} {ii : Nat → Int32} {stf : Nat → Option Nat} {sl : Nat → va_W} {w : Nat → List Nat} {cm : Nat → Nat → Int32} {mn : Nat} (hC : LC p s m c0 cells slots N A b L i xs ls ad am) (K : LK p l e s m below meth c0 cells slots Q N A b ls ad am shp) (hJ : Jv N ad shp c ch nn bt ct ii stf sl w cm) (hP : va_P N.1 vwCl (CW N ad shp c ch cs nn bt ct ns ii stf sl ++ MW N am cm (nn 2) (nn 3) (ii 1) mn) H) (hD : va_D A (CW N ad shp c ch cs nn bt ct ns ii stf sl ++ MW N am cm (nn 2) (nn 3) (ii 1) mn)) (hS : va_S A s.heap H locs) : W p l e room_1 s m #[Value.ref b] below meth c0 H locs cells slots Q (F0 m 428 ls []) := by
  obtain ⟨hx, hb, C0, hX, hbl, hbA, hi, hL4, hl, hcs1, hcs2⟩ := hC
  refine lv_aload_n hx hb dL_law_428 rfl (lv_at hl 1 rfl) ?_
  refine lw_rd 1 hx hb hX hbl hbA hS hl hi hL4 (by decide) (by decide) dL_law_429 dL_law_430 dL_law_431 dL_law_432 dL_law_433 ?_
  refine lw_rd 2 hx hb hX hbl hbA hS hl hi hL4 (by decide) (by decide) dL_law_434 dL_law_435 dL_law_436 dL_law_437 dL_law_438 ?_
  refine lw_rd 3 hx hb hX hbl hbA hS hl hi hL4 (by decide) (by decide) dL_law_439 dL_law_440 dL_law_441 dL_law_442 dL_law_443 ?_
  refine lw_nz hx hb dL_law_444 dL_law_447 dL_law_448 dL_law_451 ?_
  refine ck_Vi (As := [.int (xs (i + 1)), .int (xs (i + 2)), .int (b2i (decide (xs (i + 3) ≠ 0)))]) (rest := []) (wr := MW N am cm (nn 2) (nn 3) (ii 1) mn) C0 hP hD hS (u_X10_windAt l N ad shp c ch cs nn bt ct ns ii stf sl (xs (i + 1)) (xs (i + 2)) (decide (xs (i + 3) ≠ 0))  ) myX10_windAt k2_145 ⟨Nat.le_of_ble_eq_true rfl, Nat.le_of_ble_eq_true rfl⟩ _ _ (ckX_L _ _) 0 rfl rfl rfl rfl hl.1 rfl (Nat.le_of_ble_eq_true rfl) dL_law_452 ⟨by show cells + 0 ≤ 600000; omega, by show slots + 0 ≤ 7302250; omega⟩ (fun r1 u H locs hw hP hD hS => ?_)
  obtain ⟨fd2, hp1, rfl⟩ := hw
  have hP : va_P N.1 vwCl (MW N am cm (nn 2) (nn 3) (ii 1) mn ++ CW N ad shp c ch cs nn bt ct ns (up1 ii 1 fd2) stf sl) H := hP
  have hD : va_D A (MW N am cm (nn 2) (nn 3) (ii 1) mn ++ CW N ad shp c ch cs nn bt ct ns (up1 ii 1 fd2) stf sl) := hD
  refine lv_aload_n hx hb dL_law_455 rfl (lv_at hl 2 rfl) ?_
  refine lw_rd 1 hx hb hX hbl hbA hS hl hi hL4 (by decide) (by decide) dL_law_456 dL_law_457 dL_law_458 dL_law_459 dL_law_460 ?_
  refine lw_rd 2 hx hb hX hbl hbA hS hl hi hL4 (by decide) (by decide) dL_law_461 dL_law_462 dL_law_463 dL_law_464 dL_law_465 ?_
  refine lw_rd 3 hx hb hX hbl hbA hS hl hi hL4 (by decide) (by decide) dL_law_466 dL_law_467 dL_law_468 dL_law_469 dL_law_470 ?_
  refine lw_nz hx hb dL_law_471 dL_law_474 dL_law_475 dL_law_478 ?_
  refine ck_Vi (As := [.int (xs (i + 1)), .int (xs (i + 2)), .int (b2i (decide (xs (i + 3) ≠ 0)))]) (rest := [.int r1]) (wr := CW N ad shp c ch cs nn bt ct ns (up1 ii 1 fd2) stf sl) C0 hP hD hS (u_X11_windAt l N am cm (nn 2) (nn 3) (ii 1) mn (nn 0) (nn 1) (ii 0) (c 0) (c 1) (c 2) w (c 6) (c 9) (c 8) (c 7) (xs (i + 1)) (xs (i + 2)) (decide (xs (i + 3) ≠ 0)) hJ.1.2.2.2) myX11_windAt k4_123 ⟨Nat.le_of_ble_eq_true rfl, Nat.le_of_ble_eq_true rfl⟩ _ _ (ckX_L _ _) 0 rfl rfl rfl rfl hl.1 rfl (Nat.le_of_ble_eq_true rfl) dL_law_479 ⟨by show cells + 0 + 0 ≤ 600000; omega, by show slots + 0 + 0 ≤ 7302250; omega⟩ (fun r2 v H locs hw hP hD hS => ?_)
  obtain ⟨fd2m, hp2, rfl⟩ := hw
  have hP : va_P N.1 vwCl (CW N ad shp c ch cs nn bt ct ns (up1 ii 1 fd2) stf sl ++ MW N am cm (nn 2) (nn 3) fd2m mn) H := hP
  have hD : va_D A (CW N ad shp c ch cs nn bt ct ns (up1 ii 1 fd2) stf sl ++ MW N am cm (nn 2) (nn 3) fd2m mn) := hD
  obtain ⟨er, ef⟩ := ckRd_eq hp1 hp2
  subst ef
  refine lv_icmp_eq (tgt := 1238) hx hb dL_law_482 (by decide) (fun _ => ?_) (fun q => absurd er q)
  refine W.widen (k := cells + 16) (n := slots + 596) (by show cells + 0 + 0 ≤ cells + 16; omega) (by show slots + 0 + 0 ≤ slots + 596; omega) ?_
  exact K c ch cs nn bt ct ns (up1 ii 1 fd2) stf sl w cm mn H locs ⟨⟨hJ.1.1, hJ.1.2.1, hJ.1.2.2.1, hJ.1.2.2.2⟩, hJ.2.1, hJ.2.2.1, hJ.2.2.2.1, hJ.2.2.2.2⟩ hP hD hS
set_option maxHeartbeats 4000000 in
set_option maxRecDepth 100000 in
theorem L_flies {p : Program} {l : Launch} {e : Env} {s : State} {m : MethodId} {below : List Frame} {meth : Method} {c0 : Code} {cells slots : Nat} {Q : State → Prop} {N : ckN} {A : Nat → Prop} {b L i : Nat} {xs : Nat → Int32} {ls : Array Slot} {ad am : Nat → Nat} {shp : Nat → Option Nat} {H : Heap} {locs : List Loc} {c ch cs : Nat → Nat → Int32} {nn bt ct ns : Nat → Nat} {ii : Nat → Int32} {stf : Nat → Option Nat} {sl : Nat → va_W} {w : Nat → List Nat} {cm : Nat → Nat → Int32} {mn : Nat} (hC : LC p s m c0 cells slots N A b L i xs ls ad am) (K : LK p l e s m below meth c0 cells slots Q N A b ls ad am shp) (hJ : Jv N ad shp c ch nn bt ct ii stf sl w cm) (hP : va_P N.1 vwCl (CW N ad shp c ch cs nn bt ct ns ii stf sl ++ MW N am cm (nn 2) (nn 3) (ii 1) mn) H) (hD : va_D A (CW N ad shp c ch cs nn bt ct ns ii stf sl ++ MW N am cm (nn 2) (nn 3) (ii 1) mn)) (hS : va_S A s.heap H locs) : W p l e room_1 s m #[Value.ref b] below meth c0 H locs cells slots Q (F0 m 487 ls []) := by
  obtain ⟨hx, hb, C0, hX, hbl, hbA, hi, hL4, hl, hcs1, hcs2⟩ := hC
  refine lv_aload_n hx hb dL_law_487 rfl (lv_at hl 1 rfl) ?_
  refine lw_rd 1 hx hb hX hbl hbA hS hl hi hL4 (by decide) (by decide) dL_law_488 dL_law_489 dL_law_490 dL_law_491 dL_law_492 ?_
  refine lw_rd 2 hx hb hX hbl hbA hS hl hi hL4 (by decide) (by decide) dL_law_493 dL_law_494 dL_law_495 dL_law_496 dL_law_497 ?_
  refine ck_Vi (As := [.int (xs (i + 1)), .int (xs (i + 2))]) (rest := []) (wr := MW N am cm (nn 2) (nn 3) (ii 1) mn) C0 hP hD hS (u_X10_flies l N ad shp c ch cs nn bt ct ns ii stf sl (xs (i + 1)) (xs (i + 2))  (iA_air hJ.1.2.1)) myX10_flies k2_157 ⟨Nat.le_of_ble_eq_true rfl, Nat.le_of_ble_eq_true rfl⟩ _ _ (ckX_L _ _) 0 rfl rfl rfl rfl hl.1 rfl (Nat.le_of_ble_eq_true rfl) dL_law_498 ⟨by show cells + 0 ≤ 600000; omega, by show slots + 0 ≤ 7302250; omega⟩ (fun r1 u H locs hw hP hD hS => ?_)
  obtain ⟨fd2, hp1, rfl⟩ := hw
  have hP : va_P N.1 vwCl (MW N am cm (nn 2) (nn 3) (ii 1) mn ++ CW N ad shp c ch cs nn bt ct ns (up1 ii 1 fd2) stf sl) H := hP
  have hD : va_D A (MW N am cm (nn 2) (nn 3) (ii 1) mn ++ CW N ad shp c ch cs nn bt ct ns (up1 ii 1 fd2) stf sl) := hD
  refine lv_aload_n hx hb dL_law_501 rfl (lv_at hl 2 rfl) ?_
  refine lw_rd 1 hx hb hX hbl hbA hS hl hi hL4 (by decide) (by decide) dL_law_502 dL_law_503 dL_law_504 dL_law_505 dL_law_506 ?_
  refine lw_rd 2 hx hb hX hbl hbA hS hl hi hL4 (by decide) (by decide) dL_law_507 dL_law_508 dL_law_509 dL_law_510 dL_law_511 ?_
  refine ck_Vi (As := [.int (xs (i + 1)), .int (xs (i + 2))]) (rest := [.int r1]) (wr := CW N ad shp c ch cs nn bt ct ns (up1 ii 1 fd2) stf sl) C0 hP hD hS (u_X11_flies l N am cm (nn 2) (nn 3) (ii 1) mn (nn 0) (nn 1) (ii 0) (c 0) (c 1) (c 2) w (c 6) (c 9) (c 8) (c 7) (fun i => ix (c 0 (i * 8 + 0))) (fun i => ix (c 0 (i * 8 + 3))) (fun j => ix (c 1 j)) (xs (i + 1)) (xs (i + 2)) hJ.1.2.2.2 (iA_air hJ.1.2.1) hJ.1.2.1.2.2.2.2) myX11_flies k4_127 ⟨Nat.le_of_ble_eq_true rfl, Nat.le_of_ble_eq_true rfl⟩ _ _ (ckX_L _ _) 0 rfl rfl rfl rfl hl.1 rfl (Nat.le_of_ble_eq_true rfl) dL_law_512 ⟨by show cells + 0 + 0 ≤ 600000; omega, by show slots + 0 + 0 ≤ 7302250; omega⟩ (fun r2 v H locs hw hP hD hS => ?_)
  obtain ⟨fd2m, hp2, rfl⟩ := hw
  have hP : va_P N.1 vwCl (CW N ad shp c ch cs nn bt ct ns (up1 ii 1 fd2) stf sl ++ MW N am cm (nn 2) (nn 3) fd2m mn) H := hP
  have hD : va_D A (CW N ad shp c ch cs nn bt ct ns (up1 ii 1 fd2) stf sl ++ MW N am cm (nn 2) (nn 3) fd2m mn) := hD
  obtain ⟨er, ef⟩ := ckRd_eq hp1 hp2
  subst ef
  refine lv_icmp_eq (tgt := 1238) hx hb dL_law_515 (by decide) (fun _ => ?_) (fun q => absurd er q)
  refine W.widen (k := cells + 16) (n := slots + 596) (by show cells + 0 + 0 ≤ cells + 16; omega) (by show slots + 0 + 0 ≤ slots + 596; omega) ?_
  exact K c ch cs nn bt ct ns (up1 ii 1 fd2) stf sl w cm mn H locs ⟨⟨hJ.1.1, hJ.1.2.1, hJ.1.2.2.1, hJ.1.2.2.2⟩, hJ.2.1, hJ.2.2.1, hJ.2.2.2.1, hJ.2.2.2.2⟩ hP hD hS
set_option maxHeartbeats 4000000 in
set_option maxRecDepth 100000 in
theorem L_kite {p : Program} {l : Launch} {e : Env} {s : State} {m : MethodId} {below : List Frame} {meth : Method} {c0 : Code} {cells slots : Nat} {Q : State → Prop} {N : ckN} {A : Nat → Prop} {b L i : Nat} {xs : Nat → Int32} {ls : Array Slot} {ad am : Nat → Nat} {shp : Nat → Option Nat} {H : Heap} {locs : List Loc} {c ch cs : Nat → Nat → Int32} {nn bt ct ns : Nat → Nat} {ii : Nat → Int32} {stf : Nat → Option Nat} {sl : Nat → va_W} {w : Nat → List Nat} {cm : Nat → Nat → Int32} {mn : Nat} (hC : LC p s m c0 cells slots N A b L i xs ls ad am) (K : LK p l e s m below meth c0 cells slots Q N A b ls ad am shp) (hJ : Jv N ad shp c ch nn bt ct ii stf sl w cm) (hP : va_P N.1 vwCl (CW N ad shp c ch cs nn bt ct ns ii stf sl ++ MW N am cm (nn 2) (nn 3) (ii 1) mn) H) (hD : va_D A (CW N ad shp c ch cs nn bt ct ns ii stf sl ++ MW N am cm (nn 2) (nn 3) (ii 1) mn)) (hS : va_S A s.heap H locs) : W p l e room_1 s m #[Value.ref b] below meth c0 H locs cells slots Q (F0 m 520 ls []) := by
  obtain ⟨hx, hb, C0, hX, hbl, hbA, hi, hL4, hl, hcs1, hcs2⟩ := hC
  refine lv_aload_n hx hb dL_law_520 rfl (lv_at hl 1 rfl) ?_
  refine lw_rd 1 hx hb hX hbl hbA hS hl hi hL4 (by decide) (by decide) dL_law_521 dL_law_522 dL_law_523 dL_law_524 dL_law_525 ?_
  refine lw_rd 2 hx hb hX hbl hbA hS hl hi hL4 (by decide) (by decide) dL_law_526 dL_law_527 dL_law_528 dL_law_529 dL_law_530 ?_
  refine lw_rd 3 hx hb hX hbl hbA hS hl hi hL4 (by decide) (by decide) dL_law_531 dL_law_532 dL_law_533 dL_law_534 dL_law_535 ?_
  refine lw_nz hx hb dL_law_536 dL_law_539 dL_law_540 dL_law_543 ?_
  refine ck_Vi (As := [.int (xs (i + 1)), .int (xs (i + 2)), .int (b2i (decide (xs (i + 3) ≠ 0)))]) (rest := []) (wr := MW N am cm (nn 2) (nn 3) (ii 1) mn) C0 hP hD hS (u_X10_kite l N ad shp c ch cs nn bt ct ns ii stf sl (xs (i + 1)) (xs (i + 2)) (decide (xs (i + 3) ≠ 0))  (iA_air hJ.1.2.1)) myX10_kite k2_178 ⟨Nat.le_of_ble_eq_true rfl, Nat.le_of_ble_eq_true rfl⟩ _ _ (ckX_L _ _) 0 rfl rfl rfl rfl hl.1 rfl (Nat.le_of_ble_eq_true rfl) dL_law_544 ⟨by show cells + 0 ≤ 600000; omega, by show slots + 0 ≤ 7302250; omega⟩ (fun r1 u H locs hw hP hD hS => ?_)
  obtain ⟨fd2, hp1, rfl⟩ := hw
  have hP : va_P N.1 vwCl (MW N am cm (nn 2) (nn 3) (ii 1) mn ++ CW N ad shp c ch cs nn bt ct ns (up1 ii 1 fd2) stf sl) H := hP
  have hD : va_D A (MW N am cm (nn 2) (nn 3) (ii 1) mn ++ CW N ad shp c ch cs nn bt ct ns (up1 ii 1 fd2) stf sl) := hD
  refine lv_aload_n hx hb dL_law_547 rfl (lv_at hl 2 rfl) ?_
  refine lw_rd 1 hx hb hX hbl hbA hS hl hi hL4 (by decide) (by decide) dL_law_548 dL_law_549 dL_law_550 dL_law_551 dL_law_552 ?_
  refine lw_rd 2 hx hb hX hbl hbA hS hl hi hL4 (by decide) (by decide) dL_law_553 dL_law_554 dL_law_555 dL_law_556 dL_law_557 ?_
  refine lw_rd 3 hx hb hX hbl hbA hS hl hi hL4 (by decide) (by decide) dL_law_558 dL_law_559 dL_law_560 dL_law_561 dL_law_562 ?_
  refine lw_nz hx hb dL_law_563 dL_law_566 dL_law_567 dL_law_570 ?_
  refine ck_Vi (As := [.int (xs (i + 1)), .int (xs (i + 2)), .int (b2i (decide (xs (i + 3) ≠ 0)))]) (rest := [.int r1]) (wr := CW N ad shp c ch cs nn bt ct ns (up1 ii 1 fd2) stf sl) C0 hP hD hS (u_X11_kite l N am cm (nn 2) (nn 3) (ii 1) mn (nn 0) (nn 1) (ii 0) (c 0) (c 1) (c 2) w (c 6) (c 9) (c 8) (c 7) (fun i => ix (c 0 (i * 8 + 0))) (fun i => ix (c 0 (i * 8 + 3))) (fun j => ix (c 1 j)) (xs (i + 1)) (xs (i + 2)) (decide (xs (i + 3) ≠ 0)) hJ.1.2.2.2 (iA_air hJ.1.2.1) hJ.1.2.1.2.2.2.2 hJ.2.2.2.2.1 hJ.2.2.2.2.2) myX11_kite k4_139 ⟨Nat.le_of_ble_eq_true rfl, Nat.le_of_ble_eq_true rfl⟩ _ _ (ckX_L _ _) 0 rfl rfl rfl rfl hl.1 rfl (Nat.le_of_ble_eq_true rfl) dL_law_571 ⟨by show cells + 0 + 0 ≤ 600000; omega, by show slots + 0 + 0 ≤ 7302250; omega⟩ (fun r2 v H locs hw hP hD hS => ?_)
  obtain ⟨fd2m, hp2, rfl⟩ := hw
  have hP : va_P N.1 vwCl (CW N ad shp c ch cs nn bt ct ns (up1 ii 1 fd2) stf sl ++ MW N am cm (nn 2) (nn 3) fd2m mn) H := hP
  have hD : va_D A (CW N ad shp c ch cs nn bt ct ns (up1 ii 1 fd2) stf sl ++ MW N am cm (nn 2) (nn 3) fd2m mn) := hD
  obtain ⟨er, ef⟩ := ckRd_eq hp1 hp2
  subst ef
  refine lv_icmp_eq (tgt := 1238) hx hb dL_law_574 (by decide) (fun _ => ?_) (fun q => absurd er q)
  refine W.widen (k := cells + 16) (n := slots + 596) (by show cells + 0 + 0 ≤ cells + 16; omega) (by show slots + 0 + 0 ≤ slots + 596; omega) ?_
  exact K c ch cs nn bt ct ns (up1 ii 1 fd2) stf sl w cm mn H locs ⟨⟨hJ.1.1, hJ.1.2.1, hJ.1.2.2.1, hJ.1.2.2.2⟩, hJ.2.1, hJ.2.2.1, hJ.2.2.2.1, hJ.2.2.2.2⟩ hP hD hS
set_option maxHeartbeats 4000000 in
set_option maxRecDepth 100000 in
theorem L_meet {p : Program} {l : Launch} {e : Env} {s : State} {m : MethodId} {below : List Frame} {meth : Method} {c0 : Code} {cells slots : Nat} {Q : State → Prop} {N : ckN} {A : Nat → Prop} {b L i : Nat} {xs : Nat → Int32} {ls : Array Slot} {ad am : Nat → Nat} {shp : Nat → Option Nat} {H : Heap} {locs : List Loc} {c ch cs : Nat → Nat → Int32} {nn bt ct ns : Nat → Nat} {ii : Nat → Int32} {stf : Nat → Option Nat} {sl : Nat → va_W} {w : Nat → List Nat} {cm : Nat → Nat → Int32} {mn : Nat} (hC : LC p s m c0 cells slots N A b L i xs ls ad am) (K : LK p l e s m below meth c0 cells slots Q N A b ls ad am shp) (hJ : Jv N ad shp c ch nn bt ct ii stf sl w cm) (hP : va_P N.1 vwCl (CW N ad shp c ch cs nn bt ct ns ii stf sl ++ MW N am cm (nn 2) (nn 3) (ii 1) mn) H) (hD : va_D A (CW N ad shp c ch cs nn bt ct ns ii stf sl ++ MW N am cm (nn 2) (nn 3) (ii 1) mn)) (hS : va_S A s.heap H locs) : W p l e room_1 s m #[Value.ref b] below meth c0 H locs cells slots Q (F0 m 579 ls []) := by
  obtain ⟨hx, hb, C0, hX, hbl, hbA, hi, hL4, hl, hcs1, hcs2⟩ := hC
  refine lv_aload_n hx hb dL_law_579 rfl (lv_at hl 1 rfl) ?_
  refine lw_rd 1 hx hb hX hbl hbA hS hl hi hL4 (by decide) (by decide) dL_law_580 dL_law_581 dL_law_582 dL_law_583 dL_law_584 ?_
  refine lw_rd 2 hx hb hX hbl hbA hS hl hi hL4 (by decide) (by decide) dL_law_585 dL_law_586 dL_law_587 dL_law_588 dL_law_589 ?_
  refine lw_rd 3 hx hb hX hbl hbA hS hl hi hL4 (by decide) (by decide) dL_law_590 dL_law_591 dL_law_592 dL_law_593 dL_law_594 ?_
  refine ck_Vi (As := [.int (xs (i + 1)), .int (xs (i + 2)), .int (xs (i + 3))]) (rest := []) (wr := MW N am cm (nn 2) (nn 3) (ii 1) mn) C0 hP hD hS (u_X10_meet l N ad shp c ch cs nn bt ct ns ii stf sl (xs (i + 1)) (xs (i + 2)) (xs (i + 3))  (iA_air hJ.1.2.1)) myX10_meet k2_200 ⟨Nat.le_of_ble_eq_true rfl, Nat.le_of_ble_eq_true rfl⟩ _ _ (ckX_L _ _) 0 rfl rfl rfl rfl hl.1 rfl (Nat.le_of_ble_eq_true rfl) dL_law_595 ⟨by show cells + 0 ≤ 600000; omega, by show slots + 0 ≤ 7302250; omega⟩ (fun r1 u H locs hw hP hD hS => ?_)
  obtain ⟨fd2, hp1, rfl⟩ := hw
  have hP : va_P N.1 vwCl (MW N am cm (nn 2) (nn 3) (ii 1) mn ++ CW N ad shp c ch cs nn bt ct ns (up1 ii 1 fd2) stf sl) H := hP
  have hD : va_D A (MW N am cm (nn 2) (nn 3) (ii 1) mn ++ CW N ad shp c ch cs nn bt ct ns (up1 ii 1 fd2) stf sl) := hD
  refine lv_aload_n hx hb dL_law_598 rfl (lv_at hl 2 rfl) ?_
  refine lw_rd 1 hx hb hX hbl hbA hS hl hi hL4 (by decide) (by decide) dL_law_599 dL_law_600 dL_law_601 dL_law_602 dL_law_603 ?_
  refine lw_rd 2 hx hb hX hbl hbA hS hl hi hL4 (by decide) (by decide) dL_law_604 dL_law_605 dL_law_606 dL_law_607 dL_law_608 ?_
  refine lw_rd 3 hx hb hX hbl hbA hS hl hi hL4 (by decide) (by decide) dL_law_609 dL_law_610 dL_law_611 dL_law_612 dL_law_613 ?_
  refine ck_Vi (As := [.int (xs (i + 1)), .int (xs (i + 2)), .int (xs (i + 3))]) (rest := [.int r1]) (wr := CW N ad shp c ch cs nn bt ct ns (up1 ii 1 fd2) stf sl) C0 hP hD hS (u_X11_meet l N am cm (nn 2) (nn 3) (ii 1) mn (nn 0) (nn 1) (ii 0) (c 0) (c 1) (c 2) w (c 6) (c 9) (c 8) (c 7) (fun i => ix (c 0 (i * 8 + 0))) (fun i => ix (c 0 (i * 8 + 3))) (fun j => ix (c 1 j)) (xs (i + 1)) (xs (i + 2)) (xs (i + 3)) hJ.1.2.2.2 (iA_air hJ.1.2.1) hJ.1.2.1.2.2.1 hJ.1.2.1.2.2.2.2 hJ.2.2.2.2.1 hJ.2.2.2.2.2) myX11_meet k4_147 ⟨Nat.le_of_ble_eq_true rfl, Nat.le_of_ble_eq_true rfl⟩ _ _ (ckX_L _ _) 0 rfl rfl rfl rfl hl.1 rfl (Nat.le_of_ble_eq_true rfl) dL_law_614 ⟨by show cells + 0 + 0 ≤ 600000; omega, by show slots + 0 + 0 ≤ 7302250; omega⟩ (fun r2 v H locs hw hP hD hS => ?_)
  obtain ⟨fd2m, hp2, rfl⟩ := hw
  have hP : va_P N.1 vwCl (CW N ad shp c ch cs nn bt ct ns (up1 ii 1 fd2) stf sl ++ MW N am cm (nn 2) (nn 3) fd2m mn) H := hP
  have hD : va_D A (CW N ad shp c ch cs nn bt ct ns (up1 ii 1 fd2) stf sl ++ MW N am cm (nn 2) (nn 3) fd2m mn) := hD
  obtain ⟨er, ef⟩ := ckRd_eq hp1 hp2
  subst ef
  refine lv_icmp_eq (tgt := 1238) hx hb dL_law_617 (by decide) (fun _ => ?_) (fun q => absurd er q)
  refine W.widen (k := cells + 16) (n := slots + 596) (by show cells + 0 + 0 ≤ cells + 16; omega) (by show slots + 0 + 0 ≤ slots + 596; omega) ?_
  exact K c ch cs nn bt ct ns (up1 ii 1 fd2) stf sl w cm mn H locs ⟨⟨hJ.1.1, hJ.1.2.1, hJ.1.2.2.1, hJ.1.2.2.2⟩, hJ.2.1, hJ.2.2.1, hJ.2.2.2.1, hJ.2.2.2.2⟩ hP hD hS
set_option maxHeartbeats 4000000 in
set_option maxRecDepth 100000 in
theorem L_meets {p : Program} {l : Launch} {e : Env} {s : State} {m : MethodId} {below : List Frame} {meth : Method} {c0 : Code} {cells slots : Nat} {Q : State → Prop} {N : ckN} {A : Nat → Prop} {b L i : Nat} {xs : Nat → Int32} {ls : Array Slot} {ad am : Nat → Nat} {shp : Nat → Option Nat} {H : Heap} {locs : List Loc} {c ch cs : Nat → Nat → Int32} {nn bt ct ns : Nat → Nat} {ii : Nat → Int32} {stf : Nat → Option Nat} {sl : Nat → va_W} {w : Nat → List Nat} {cm : Nat → Nat → Int32} {mn : Nat} (hC : LC p s m c0 cells slots N A b L i xs ls ad am) (K : LK p l e s m below meth c0 cells slots Q N A b ls ad am shp) (hJ : Jv N ad shp c ch nn bt ct ii stf sl w cm) (hP : va_P N.1 vwCl (CW N ad shp c ch cs nn bt ct ns ii stf sl ++ MW N am cm (nn 2) (nn 3) (ii 1) mn) H) (hD : va_D A (CW N ad shp c ch cs nn bt ct ns ii stf sl ++ MW N am cm (nn 2) (nn 3) (ii 1) mn)) (hS : va_S A s.heap H locs) : W p l e room_1 s m #[Value.ref b] below meth c0 H locs cells slots Q (F0 m 622 ls []) := by
  obtain ⟨hx, hb, C0, hX, hbl, hbA, hi, hL4, hl, hcs1, hcs2⟩ := hC
  refine lv_aload_n hx hb dL_law_622 rfl (lv_at hl 1 rfl) ?_
  refine lw_rd 1 hx hb hX hbl hbA hS hl hi hL4 (by decide) (by decide) dL_law_623 dL_law_624 dL_law_625 dL_law_626 dL_law_627 ?_
  refine ck_Vi (As := [.int (xs (i + 1))]) (rest := []) (wr := MW N am cm (nn 2) (nn 3) (ii 1) mn) C0 hP hD hS (u_X10_meets l N ad shp c ch cs nn bt ct ns ii stf sl (xs (i + 1))  (iA_air hJ.1.2.1)) myX10_meets k2_211 ⟨Nat.le_of_ble_eq_true rfl, Nat.le_of_ble_eq_true rfl⟩ _ _ (ckX_L _ _) 0 rfl rfl rfl rfl hl.1 rfl (Nat.le_of_ble_eq_true rfl) dL_law_628 ⟨by show cells + 0 ≤ 600000; omega, by show slots + 0 ≤ 7302250; omega⟩ (fun r1 u H locs hw hP hD hS => ?_)
  obtain ⟨fd2, hp1, rfl⟩ := hw
  have hP : va_P N.1 vwCl (MW N am cm (nn 2) (nn 3) (ii 1) mn ++ CW N ad shp c ch cs nn bt ct ns (up1 ii 1 fd2) stf sl) H := hP
  have hD : va_D A (MW N am cm (nn 2) (nn 3) (ii 1) mn ++ CW N ad shp c ch cs nn bt ct ns (up1 ii 1 fd2) stf sl) := hD
  refine lv_aload_n hx hb dL_law_631 rfl (lv_at hl 2 rfl) ?_
  refine lw_rd 1 hx hb hX hbl hbA hS hl hi hL4 (by decide) (by decide) dL_law_632 dL_law_633 dL_law_634 dL_law_635 dL_law_636 ?_
  refine ck_Vi (As := [.int (xs (i + 1))]) (rest := [.int r1]) (wr := CW N ad shp c ch cs nn bt ct ns (up1 ii 1 fd2) stf sl) C0 hP hD hS (u_X11_meets l N am cm (nn 2) (nn 3) (ii 1) mn (nn 0) (nn 1) (ii 0) (c 0) (c 1) (c 2) w (c 6) (c 9) (c 8) (c 7) (fun i => ix (c 0 (i * 8 + 0))) (fun i => ix (c 0 (i * 8 + 3))) (fun j => ix (c 1 j)) (xs (i + 1)) hJ.1.2.2.2 (iA_air hJ.1.2.1) hJ.1.2.1.2.2.1 hJ.1.2.1.2.2.2.2 hJ.2.2.2.2.1 hJ.2.2.2.2.2) myX11_meets k4_155 ⟨Nat.le_of_ble_eq_true rfl, Nat.le_of_ble_eq_true rfl⟩ _ _ (ckX_L _ _) 0 rfl rfl rfl rfl hl.1 rfl (Nat.le_of_ble_eq_true rfl) dL_law_637 ⟨by show cells + 0 + 0 ≤ 600000; omega, by show slots + 0 + 0 ≤ 7302250; omega⟩ (fun r2 v H locs hw hP hD hS => ?_)
  obtain ⟨fd2m, hp2, rfl⟩ := hw
  have hP : va_P N.1 vwCl (CW N ad shp c ch cs nn bt ct ns (up1 ii 1 fd2) stf sl ++ MW N am cm (nn 2) (nn 3) fd2m mn) H := hP
  have hD : va_D A (CW N ad shp c ch cs nn bt ct ns (up1 ii 1 fd2) stf sl ++ MW N am cm (nn 2) (nn 3) fd2m mn) := hD
  obtain ⟨er, ef⟩ := ckRd_eq hp1 hp2
  subst ef
  refine lv_icmp_eq (tgt := 1238) hx hb dL_law_640 (by decide) (fun _ => ?_) (fun q => absurd er q)
  refine W.widen (k := cells + 16) (n := slots + 596) (by show cells + 0 + 0 ≤ cells + 16; omega) (by show slots + 0 + 0 ≤ slots + 596; omega) ?_
  exact K c ch cs nn bt ct ns (up1 ii 1 fd2) stf sl w cm mn H locs ⟨⟨hJ.1.1, hJ.1.2.1, hJ.1.2.2.1, hJ.1.2.2.2⟩, hJ.2.1, hJ.2.2.1, hJ.2.2.2.1, hJ.2.2.2.2⟩ hP hD hS
set_option maxHeartbeats 4000000 in
set_option maxRecDepth 100000 in
theorem L_field {p : Program} {l : Launch} {e : Env} {s : State} {m : MethodId} {below : List Frame} {meth : Method} {c0 : Code} {cells slots : Nat} {Q : State → Prop} {N : ckN} {A : Nat → Prop} {b L i : Nat} {xs : Nat → Int32} {ls : Array Slot} {ad am : Nat → Nat} {shp : Nat → Option Nat} {H : Heap} {locs : List Loc} {c ch cs : Nat → Nat → Int32} {nn bt ct ns : Nat → Nat} {ii : Nat → Int32} {stf : Nat → Option Nat} {sl : Nat → va_W} {w : Nat → List Nat} {cm : Nat → Nat → Int32} {mn : Nat} (hC : LC p s m c0 cells slots N A b L i xs ls ad am) (K : LK p l e s m below meth c0 cells slots Q N A b ls ad am shp) (hJ : Jv N ad shp c ch nn bt ct ii stf sl w cm) (hP : va_P N.1 vwCl (CW N ad shp c ch cs nn bt ct ns ii stf sl ++ MW N am cm (nn 2) (nn 3) (ii 1) mn) H) (hD : va_D A (CW N ad shp c ch cs nn bt ct ns ii stf sl ++ MW N am cm (nn 2) (nn 3) (ii 1) mn)) (hS : va_S A s.heap H locs) : W p l e room_1 s m #[Value.ref b] below meth c0 H locs cells slots Q (F0 m 645 ls []) := by
  obtain ⟨hx, hb, C0, hX, hbl, hbA, hi, hL4, hl, hcs1, hcs2⟩ := hC
  refine lv_aload_n hx hb dL_law_645 rfl (lv_at hl 1 rfl) ?_
  refine lw_rd 1 hx hb hX hbl hbA hS hl hi hL4 (by decide) (by decide) dL_law_646 dL_law_647 dL_law_648 dL_law_649 dL_law_650 ?_
  refine ck_Vi (As := [.int (xs (i + 1))]) (rest := []) (wr := MW N am cm (nn 2) (nn 3) (ii 1) mn) C0 hP hD hS (u_X10_field l N ad shp c ch cs nn bt ct ns ii stf sl (xs (i + 1))  (iA_air hJ.1.2.1)) myX10_field k2_221 ⟨Nat.le_of_ble_eq_true rfl, Nat.le_of_ble_eq_true rfl⟩ _ _ (ckX_L _ _) 0 rfl rfl rfl rfl hl.1 rfl (Nat.le_of_ble_eq_true rfl) dL_law_651 ⟨by show cells + 0 ≤ 600000; omega, by show slots + 0 ≤ 7302250; omega⟩ (fun r1 u H locs hw hP hD hS => ?_)
  obtain ⟨fd2, ne2, hp1, rfl⟩ := hw
  have hP : va_P N.1 vwCl (MW N am cm (nn 2) (nn 3) (ii 1) mn ++ CW N ad shp (up1 c 3 ne2) ch cs nn bt ct ns (up1 ii 1 fd2) stf sl) H := hP
  have hD : va_D A (MW N am cm (nn 2) (nn 3) (ii 1) mn ++ CW N ad shp (up1 c 3 ne2) ch cs nn bt ct ns (up1 ii 1 fd2) stf sl) := hD
  refine lv_aload_n hx hb dL_law_654 rfl (lv_at hl 2 rfl) ?_
  refine lw_rd 1 hx hb hX hbl hbA hS hl hi hL4 (by decide) (by decide) dL_law_655 dL_law_656 dL_law_657 dL_law_658 dL_law_659 ?_
  refine ck_Vi (As := [.int (xs (i + 1))]) (rest := [.int r1]) (wr := CW N ad shp (up1 c 3 ne2) ch cs nn bt ct ns (up1 ii 1 fd2) stf sl) C0 hP hD hS (u_X11_field l N am cm (nn 2) (nn 3) (ii 1) mn (nn 0) (nn 1) (ii 0) (c 0) (c 1) (c 2) w (c 6) (c 9) (c 8) (c 7) (fun i => ix (c 0 (i * 8 + 0))) (fun i => ix (c 0 (i * 8 + 3))) (fun j => ix (c 1 j)) (xs (i + 1)) hJ.1.2.2.2 (iA_air hJ.1.2.1) hJ.1.2.1.2.2.1 hJ.1.2.1.2.2.2.2 hJ.2.2.2.2.1 hJ.2.2.2.2.2) myX11_field k4_159 ⟨Nat.le_of_ble_eq_true rfl, Nat.le_of_ble_eq_true rfl⟩ _ _ (ckX_L _ _) 0 rfl rfl rfl rfl hl.1 rfl (Nat.le_of_ble_eq_true rfl) dL_law_660 ⟨by show cells + 0 + 0 ≤ 600000; omega, by show slots + 0 + 0 ≤ 7302250; omega⟩ (fun r2 v H locs hw hP hD hS => ?_)
  obtain ⟨fd2m, ne2m, hp2, rfl⟩ := hw
  have hP : va_P N.1 vwCl (CW N ad shp (up1 c 3 ne2) ch cs nn bt ct ns (up1 ii 1 fd2) stf sl ++ MW N am (up1 cm 7 ne2m) (nn 2) (nn 3) fd2m mn) H := hP
  have hD : va_D A (CW N ad shp (up1 c 3 ne2) ch cs nn bt ct ns (up1 ii 1 fd2) stf sl ++ MW N am (up1 cm 7 ne2m) (nn 2) (nn 3) fd2m mn) := hD
  obtain ⟨er, ef⟩ := ckRd_eq hp1 hp2
  subst ef
  refine lv_icmp_eq (tgt := 1238) hx hb dL_law_663 (by decide) (fun _ => ?_) (fun q => absurd er q)
  refine W.widen (k := cells + 16) (n := slots + 596) (by show cells + 0 + 0 ≤ cells + 16; omega) (by show slots + 0 + 0 ≤ slots + 596; omega) ?_
  exact K (up1 c 3 ne2) ch cs nn bt ct ns (up1 ii 1 fd2) stf sl w (up1 cm 7 ne2m) mn H locs ⟨⟨hJ.1.1, hJ.1.2.1, hJ.1.2.2.1, hJ.1.2.2.2⟩, hJ.2.1, hJ.2.2.1, hJ.2.2.2.1, hJ.2.2.2.2⟩ hP hD hS
set_option maxHeartbeats 4000000 in
set_option maxRecDepth 100000 in
theorem L_best {p : Program} {l : Launch} {e : Env} {s : State} {m : MethodId} {below : List Frame} {meth : Method} {c0 : Code} {cells slots : Nat} {Q : State → Prop} {N : ckN} {A : Nat → Prop} {b L i : Nat} {xs : Nat → Int32} {ls : Array Slot} {ad am : Nat → Nat} {shp : Nat → Option Nat} {H : Heap} {locs : List Loc} {c ch cs : Nat → Nat → Int32} {nn bt ct ns : Nat → Nat} {ii : Nat → Int32} {stf : Nat → Option Nat} {sl : Nat → va_W} {w : Nat → List Nat} {cm : Nat → Nat → Int32} {mn : Nat} (hC : LC p s m c0 cells slots N A b L i xs ls ad am) (K : LK p l e s m below meth c0 cells slots Q N A b ls ad am shp) (hJ : Jv N ad shp c ch nn bt ct ii stf sl w cm) (hP : va_P N.1 vwCl (CW N ad shp c ch cs nn bt ct ns ii stf sl ++ MW N am cm (nn 2) (nn 3) (ii 1) mn) H) (hD : va_D A (CW N ad shp c ch cs nn bt ct ns ii stf sl ++ MW N am cm (nn 2) (nn 3) (ii 1) mn)) (hS : va_S A s.heap H locs) : W p l e room_1 s m #[Value.ref b] below meth c0 H locs cells slots Q (F0 m 668 ls []) := by
  obtain ⟨hx, hb, C0, hX, hbl, hbA, hi, hL4, hl, hcs1, hcs2⟩ := hC
  refine lv_aload_n hx hb dL_law_668 rfl (lv_at hl 1 rfl) ?_
  refine lw_rd 1 hx hb hX hbl hbA hS hl hi hL4 (by decide) (by decide) dL_law_669 dL_law_670 dL_law_671 dL_law_672 dL_law_673 ?_
  refine lw_rd 2 hx hb hX hbl hbA hS hl hi hL4 (by decide) (by decide) dL_law_674 dL_law_675 dL_law_676 dL_law_677 dL_law_678 ?_
  refine ck_Vi (As := [.int (xs (i + 1)), .int (xs (i + 2))]) (rest := []) (wr := MW N am cm (nn 2) (nn 3) (ii 1) mn) C0 hP hD hS (u_X10_best l N ad shp c ch cs nn bt ct ns ii stf sl (xs (i + 1)) (xs (i + 2))  (iA_air hJ.1.2.1)) myX10_best k3_3 ⟨Nat.le_of_ble_eq_true rfl, Nat.le_of_ble_eq_true rfl⟩ _ _ (ckX_L _ _) 0 rfl rfl rfl rfl hl.1 rfl (Nat.le_of_ble_eq_true rfl) dL_law_679 ⟨by show cells + 0 ≤ 600000; omega, by show slots + 0 ≤ 7302250; omega⟩ (fun r1 u H locs hw hP hD hS => ?_)
  obtain ⟨fd2, ne2, hp1, rfl⟩ := hw
  have hP : va_P N.1 vwCl (MW N am cm (nn 2) (nn 3) (ii 1) mn ++ CW N ad shp (up1 c 3 ne2) ch cs nn bt ct ns (up1 ii 1 fd2) stf sl) H := hP
  have hD : va_D A (MW N am cm (nn 2) (nn 3) (ii 1) mn ++ CW N ad shp (up1 c 3 ne2) ch cs nn bt ct ns (up1 ii 1 fd2) stf sl) := hD
  refine lv_aload_n hx hb dL_law_682 rfl (lv_at hl 2 rfl) ?_
  refine lw_rd 1 hx hb hX hbl hbA hS hl hi hL4 (by decide) (by decide) dL_law_683 dL_law_684 dL_law_685 dL_law_686 dL_law_687 ?_
  refine lw_rd 2 hx hb hX hbl hbA hS hl hi hL4 (by decide) (by decide) dL_law_688 dL_law_689 dL_law_690 dL_law_691 dL_law_692 ?_
  refine ck_Vi (As := [.int (xs (i + 1)), .int (xs (i + 2))]) (rest := [.int r1]) (wr := CW N ad shp (up1 c 3 ne2) ch cs nn bt ct ns (up1 ii 1 fd2) stf sl) C0 hP hD hS (u_X11_best l N am cm (nn 2) (nn 3) (ii 1) mn (nn 0) (nn 1) (ii 0) (c 0) (c 1) (c 2) w (c 6) (c 9) (c 8) (c 7) (fun i => ix (c 0 (i * 8 + 0))) (fun i => ix (c 0 (i * 8 + 3))) (fun j => ix (c 1 j)) (xs (i + 1)) (xs (i + 2)) hJ.1.2.2.2 (iA_air hJ.1.2.1) hJ.1.2.1.2.2.1 hJ.1.2.1.2.2.2.2 hJ.2.2.2.2.1 hJ.2.2.2.2.2) myX11_best k4_170 ⟨Nat.le_of_ble_eq_true rfl, Nat.le_of_ble_eq_true rfl⟩ _ _ (ckX_L _ _) 0 rfl rfl rfl rfl hl.1 rfl (Nat.le_of_ble_eq_true rfl) dL_law_693 ⟨by show cells + 0 + 0 ≤ 600000; omega, by show slots + 0 + 0 ≤ 7302250; omega⟩ (fun r2 v H locs hw hP hD hS => ?_)
  obtain ⟨fd2m, ne2m, hp2, rfl⟩ := hw
  have hP : va_P N.1 vwCl (CW N ad shp (up1 c 3 ne2) ch cs nn bt ct ns (up1 ii 1 fd2) stf sl ++ MW N am (up1 cm 7 ne2m) (nn 2) (nn 3) fd2m mn) H := hP
  have hD : va_D A (CW N ad shp (up1 c 3 ne2) ch cs nn bt ct ns (up1 ii 1 fd2) stf sl ++ MW N am (up1 cm 7 ne2m) (nn 2) (nn 3) fd2m mn) := hD
  obtain ⟨er, ef⟩ := ckRd_eq hp1 hp2
  subst ef
  refine lv_icmp_eq (tgt := 1238) hx hb dL_law_696 (by decide) (fun _ => ?_) (fun q => absurd er q)
  refine W.widen (k := cells + 16) (n := slots + 596) (by show cells + 0 + 0 ≤ cells + 16; omega) (by show slots + 0 + 0 ≤ slots + 596; omega) ?_
  exact K (up1 c 3 ne2) ch cs nn bt ct ns (up1 ii 1 fd2) stf sl w (up1 cm 7 ne2m) mn H locs ⟨⟨hJ.1.1, hJ.1.2.1, hJ.1.2.2.1, hJ.1.2.2.2⟩, hJ.2.1, hJ.2.2.1, hJ.2.2.2.1, hJ.2.2.2.2⟩ hP hD hS
set_option maxHeartbeats 4000000 in
set_option maxRecDepth 100000 in
theorem L_at {p : Program} {l : Launch} {e : Env} {s : State} {m : MethodId} {below : List Frame} {meth : Method} {c0 : Code} {cells slots : Nat} {Q : State → Prop} {N : ckN} {A : Nat → Prop} {b L i : Nat} {xs : Nat → Int32} {ls : Array Slot} {ad am : Nat → Nat} {shp : Nat → Option Nat} {H : Heap} {locs : List Loc} {c ch cs : Nat → Nat → Int32} {nn bt ct ns : Nat → Nat} {ii : Nat → Int32} {stf : Nat → Option Nat} {sl : Nat → va_W} {w : Nat → List Nat} {cm : Nat → Nat → Int32} {mn : Nat} (hC : LC p s m c0 cells slots N A b L i xs ls ad am) (K : LK p l e s m below meth c0 cells slots Q N A b ls ad am shp) (hJ : Jv N ad shp c ch nn bt ct ii stf sl w cm) (hP : va_P N.1 vwCl (CW N ad shp c ch cs nn bt ct ns ii stf sl ++ MW N am cm (nn 2) (nn 3) (ii 1) mn) H) (hD : va_D A (CW N ad shp c ch cs nn bt ct ns ii stf sl ++ MW N am cm (nn 2) (nn 3) (ii 1) mn)) (hS : va_S A s.heap H locs) : W p l e room_1 s m #[Value.ref b] below meth c0 H locs cells slots Q (F0 m 773 ls []) := by
  obtain ⟨hx, hb, C0, hX, hbl, hbA, hi, hL4, hl, hcs1, hcs2⟩ := hC
  refine lv_aload_n hx hb dL_law_773 rfl (lv_at hl 1 rfl) ?_
  refine lw_rd 1 hx hb hX hbl hbA hS hl hi hL4 (by decide) (by decide) dL_law_774 dL_law_775 dL_law_776 dL_law_777 dL_law_778 ?_
  refine ck_Vi (As := [.int (xs (i + 1))]) (rest := []) (wr := MW N am cm (nn 2) (nn 3) (ii 1) mn) C0 hP hD hS (u_X10_at l N ad shp c ch cs nn bt ct ns ii stf sl (xs (i + 1))  hJ.1.2.2.1.2.1) myX10_at k3_80 ⟨Nat.le_of_ble_eq_true rfl, Nat.le_of_ble_eq_true rfl⟩ _ _ (ckX_L _ _) 0 rfl rfl rfl rfl hl.1 rfl (Nat.le_of_ble_eq_true rfl) dL_law_779 ⟨by show cells + 0 ≤ 600000; omega, by show slots + 0 ≤ 7302250; omega⟩ (fun r1 u H locs hw hP hD hS => ?_)
  obtain ⟨fd2, hp1, rfl⟩ := hw
  have hP : va_P N.1 vwCl (MW N am cm (nn 2) (nn 3) (ii 1) mn ++ CW N ad shp c ch cs nn bt ct ns (up1 ii 1 fd2) stf sl) H := hP
  have hD : va_D A (MW N am cm (nn 2) (nn 3) (ii 1) mn ++ CW N ad shp c ch cs nn bt ct ns (up1 ii 1 fd2) stf sl) := hD
  refine lv_aload_n hx hb dL_law_782 rfl (lv_at hl 2 rfl) ?_
  refine lw_rd 1 hx hb hX hbl hbA hS hl hi hL4 (by decide) (by decide) dL_law_783 dL_law_784 dL_law_785 dL_law_786 dL_law_787 ?_
  refine ck_Vi (As := [.int (xs (i + 1))]) (rest := [.int r1]) (wr := CW N ad shp c ch cs nn bt ct ns (up1 ii 1 fd2) stf sl) C0 hP hD hS (u_X11_at l N am cm (nn 2) (nn 3) (ii 1) mn (nn 0) (nn 1) (ii 0) (c 0) (c 1) (c 2) w (c 6) (c 9) (c 8) (c 7) (xs (i + 1)) hJ.1.2.2.2 hJ.1.2.2.1.2.1) myX11_at k4_218 ⟨Nat.le_of_ble_eq_true rfl, Nat.le_of_ble_eq_true rfl⟩ _ _ (ckX_L _ _) 0 rfl rfl rfl rfl hl.1 rfl (Nat.le_of_ble_eq_true rfl) dL_law_788 ⟨by show cells + 0 + 0 ≤ 600000; omega, by show slots + 0 + 0 ≤ 7302250; omega⟩ (fun r2 v H locs hw hP hD hS => ?_)
  obtain ⟨fd2m, hp2, rfl⟩ := hw
  have hP : va_P N.1 vwCl (CW N ad shp c ch cs nn bt ct ns (up1 ii 1 fd2) stf sl ++ MW N am cm (nn 2) (nn 3) fd2m mn) H := hP
  have hD : va_D A (CW N ad shp c ch cs nn bt ct ns (up1 ii 1 fd2) stf sl ++ MW N am cm (nn 2) (nn 3) fd2m mn) := hD
  obtain ⟨er, ef⟩ := ckRd_eq hp1 hp2
  subst ef
  refine lv_icmp_eq (tgt := 1238) hx hb dL_law_791 (by decide) (fun _ => ?_) (fun q => absurd er q)
  refine W.widen (k := cells + 16) (n := slots + 596) (by show cells + 0 + 0 ≤ cells + 16; omega) (by show slots + 0 + 0 ≤ slots + 596; omega) ?_
  exact K c ch cs nn bt ct ns (up1 ii 1 fd2) stf sl w cm mn H locs ⟨⟨hJ.1.1, hJ.1.2.1, hJ.1.2.2.1, hJ.1.2.2.2⟩, hJ.2.1, hJ.2.2.1, hJ.2.2.2.1, hJ.2.2.2.2⟩ hP hD hS
set_option maxHeartbeats 4000000 in
set_option maxRecDepth 100000 in
theorem L_letter {p : Program} {l : Launch} {e : Env} {s : State} {m : MethodId} {below : List Frame} {meth : Method} {c0 : Code} {cells slots : Nat} {Q : State → Prop} {N : ckN} {A : Nat → Prop} {b L i : Nat} {xs : Nat → Int32} {ls : Array Slot} {ad am : Nat → Nat} {shp : Nat → Option Nat} {H : Heap} {locs : List Loc} {c ch cs : Nat → Nat → Int32} {nn bt ct ns : Nat → Nat} {ii : Nat → Int32} {stf : Nat → Option Nat} {sl : Nat → va_W} {w : Nat → List Nat} {cm : Nat → Nat → Int32} {mn : Nat} (hC : LC p s m c0 cells slots N A b L i xs ls ad am) (K : LK p l e s m below meth c0 cells slots Q N A b ls ad am shp) (hJ : Jv N ad shp c ch nn bt ct ii stf sl w cm) (hP : va_P N.1 vwCl (CW N ad shp c ch cs nn bt ct ns ii stf sl ++ MW N am cm (nn 2) (nn 3) (ii 1) mn) H) (hD : va_D A (CW N ad shp c ch cs nn bt ct ns ii stf sl ++ MW N am cm (nn 2) (nn 3) (ii 1) mn)) (hS : va_S A s.heap H locs) : W p l e room_1 s m #[Value.ref b] below meth c0 H locs cells slots Q (F0 m 796 ls []) := by
  obtain ⟨hx, hb, C0, hX, hbl, hbA, hi, hL4, hl, hcs1, hcs2⟩ := hC
  refine lv_aload_n hx hb dL_law_796 rfl (lv_at hl 1 rfl) ?_
  refine lw_rd 1 hx hb hX hbl hbA hS hl hi hL4 (by decide) (by decide) dL_law_797 dL_law_798 dL_law_799 dL_law_800 dL_law_801 ?_
  refine lw_rd 2 hx hb hX hbl hbA hS hl hi hL4 (by decide) (by decide) dL_law_802 dL_law_803 dL_law_804 dL_law_805 dL_law_806 ?_
  refine ck_Vi (As := [.int (xs (i + 1)), .int (xs (i + 2))]) (rest := []) (wr := MW N am cm (nn 2) (nn 3) (ii 1) mn) C0 hP hD hS (u_X10_letter l N ad shp c ch cs nn bt ct ns ii stf sl w (xs (i + 1)) (xs (i + 2))  hJ.1.2.2.1.2.1 hJ.1.1) myX10_letter k3_88 ⟨Nat.le_of_ble_eq_true rfl, Nat.le_of_ble_eq_true rfl⟩ _ _ (ckX_L _ _) 0 rfl rfl rfl rfl hl.1 rfl (Nat.le_of_ble_eq_true rfl) dL_law_807 ⟨by show cells + 0 ≤ 600000; omega, by show slots + 0 ≤ 7302250; omega⟩ (fun r1 u H locs hw hP hD hS => ?_)
  obtain ⟨fd2, hp1, rfl⟩ := hw
  have hP : va_P N.1 vwCl (MW N am cm (nn 2) (nn 3) (ii 1) mn ++ CW N ad shp c ch cs nn bt ct ns (up1 ii 1 fd2) stf sl) H := hP
  have hD : va_D A (MW N am cm (nn 2) (nn 3) (ii 1) mn ++ CW N ad shp c ch cs nn bt ct ns (up1 ii 1 fd2) stf sl) := hD
  refine lv_aload_n hx hb dL_law_810 rfl (lv_at hl 2 rfl) ?_
  refine lw_rd 1 hx hb hX hbl hbA hS hl hi hL4 (by decide) (by decide) dL_law_811 dL_law_812 dL_law_813 dL_law_814 dL_law_815 ?_
  refine lw_rd 2 hx hb hX hbl hbA hS hl hi hL4 (by decide) (by decide) dL_law_816 dL_law_817 dL_law_818 dL_law_819 dL_law_820 ?_
  refine ck_Vi (As := [.int (xs (i + 1)), .int (xs (i + 2))]) (rest := [.int r1]) (wr := CW N ad shp c ch cs nn bt ct ns (up1 ii 1 fd2) stf sl) C0 hP hD hS (u_X11_letter l N am cm (nn 2) (nn 3) (ii 1) mn (nn 0) (nn 1) (ii 0) (c 0) (c 1) (c 2) w (c 6) (c 9) (c 8) (c 7) (xs (i + 1)) (xs (i + 2)) hJ.1.2.2.2 hJ.1.2.2.1.2.1) myX11_letter k4_226 ⟨Nat.le_of_ble_eq_true rfl, Nat.le_of_ble_eq_true rfl⟩ _ _ (ckX_L _ _) 0 rfl rfl rfl rfl hl.1 rfl (Nat.le_of_ble_eq_true rfl) dL_law_821 ⟨by show cells + 0 + 0 ≤ 600000; omega, by show slots + 0 + 0 ≤ 7302250; omega⟩ (fun r2 v H locs hw hP hD hS => ?_)
  obtain ⟨fd2m, hp2, rfl⟩ := hw
  have hP : va_P N.1 vwCl (CW N ad shp c ch cs nn bt ct ns (up1 ii 1 fd2) stf sl ++ MW N am cm (nn 2) (nn 3) fd2m mn) H := hP
  have hD : va_D A (CW N ad shp c ch cs nn bt ct ns (up1 ii 1 fd2) stf sl ++ MW N am cm (nn 2) (nn 3) fd2m mn) := hD
  obtain ⟨er, ef⟩ := ckRd_eq hp1 hp2
  subst ef
  refine lv_icmp_eq (tgt := 1238) hx hb dL_law_824 (by decide) (fun _ => ?_) (fun q => absurd er q)
  refine W.widen (k := cells + 16) (n := slots + 596) (by show cells + 0 + 0 ≤ cells + 16; omega) (by show slots + 0 + 0 ≤ slots + 596; omega) ?_
  exact K c ch cs nn bt ct ns (up1 ii 1 fd2) stf sl w cm mn H locs ⟨⟨hJ.1.1, hJ.1.2.1, hJ.1.2.2.1, hJ.1.2.2.2⟩, hJ.2.1, hJ.2.2.1, hJ.2.2.2.1, hJ.2.2.2.2⟩ hP hD hS
set_option maxHeartbeats 4000000 in
set_option maxRecDepth 100000 in
theorem L_tangle {p : Program} {l : Launch} {e : Env} {s : State} {m : MethodId} {below : List Frame} {meth : Method} {c0 : Code} {cells slots : Nat} {Q : State → Prop} {N : ckN} {A : Nat → Prop} {b L i : Nat} {xs : Nat → Int32} {ls : Array Slot} {ad am : Nat → Nat} {shp : Nat → Option Nat} {H : Heap} {locs : List Loc} {c ch cs : Nat → Nat → Int32} {nn bt ct ns : Nat → Nat} {ii : Nat → Int32} {stf : Nat → Option Nat} {sl : Nat → va_W} {w : Nat → List Nat} {cm : Nat → Nat → Int32} {mn : Nat} (hC : LC p s m c0 cells slots N A b L i xs ls ad am) (K : LK p l e s m below meth c0 cells slots Q N A b ls ad am shp) (hJ : Jv N ad shp c ch nn bt ct ii stf sl w cm) (hP : va_P N.1 vwCl (CW N ad shp c ch cs nn bt ct ns ii stf sl ++ MW N am cm (nn 2) (nn 3) (ii 1) mn) H) (hD : va_D A (CW N ad shp c ch cs nn bt ct ns ii stf sl ++ MW N am cm (nn 2) (nn 3) (ii 1) mn)) (hS : va_S A s.heap H locs) : W p l e room_1 s m #[Value.ref b] below meth c0 H locs cells slots Q (F0 m 829 ls []) := by
  obtain ⟨hx, hb, C0, hX, hbl, hbA, hi, hL4, hl, hcs1, hcs2⟩ := hC
  refine lv_aload_n hx hb dL_law_829 rfl (lv_at hl 1 rfl) ?_
  refine ck_Vi (As := []) (rest := []) (wr := MW N am cm (nn 2) (nn 3) (ii 1) mn) C0 hP hD hS (u_X10_tangle l N ad shp c ch cs nn bt ct ns ii stf sl w  hJ.1.2.2.1.2.1 hJ.1.1) myX10_tangle k3_93 ⟨Nat.le_of_ble_eq_true rfl, Nat.le_of_ble_eq_true rfl⟩ _ _ (ckX_L _ _) 0 rfl rfl rfl rfl hl.1 rfl (Nat.le_of_ble_eq_true rfl) dL_law_830 ⟨by show cells + 0 ≤ 600000; omega, by show slots + 0 ≤ 7302250; omega⟩ (fun r1 u H locs hw hP hD hS => ?_)
  obtain ⟨fd2, hp1, rfl⟩ := hw
  have hP : va_P N.1 vwCl (MW N am cm (nn 2) (nn 3) (ii 1) mn ++ CW N ad shp c ch cs nn bt ct ns (up1 ii 1 fd2) stf sl) H := hP
  have hD : va_D A (MW N am cm (nn 2) (nn 3) (ii 1) mn ++ CW N ad shp c ch cs nn bt ct ns (up1 ii 1 fd2) stf sl) := hD
  refine lv_aload_n hx hb dL_law_833 rfl (lv_at hl 2 rfl) ?_
  refine ck_Vi (As := []) (rest := [.int r1]) (wr := CW N ad shp c ch cs nn bt ct ns (up1 ii 1 fd2) stf sl) C0 hP hD hS (u_X11_tangle l N am cm (nn 2) (nn 3) (ii 1) mn (nn 0) (nn 1) (ii 0) (c 0) (c 1) (c 2) w (c 6) (c 9) (c 8) (c 7) hJ.1.2.2.2 hJ.1.2.2.1.2.1) myX11_tangle k4_230 ⟨Nat.le_of_ble_eq_true rfl, Nat.le_of_ble_eq_true rfl⟩ _ _ (ckX_L _ _) 0 rfl rfl rfl rfl hl.1 rfl (Nat.le_of_ble_eq_true rfl) dL_law_834 ⟨by show cells + 0 + 0 ≤ 600000; omega, by show slots + 0 + 0 ≤ 7302250; omega⟩ (fun r2 v H locs hw hP hD hS => ?_)
  obtain ⟨fd2m, hp2, rfl⟩ := hw
  have hP : va_P N.1 vwCl (CW N ad shp c ch cs nn bt ct ns (up1 ii 1 fd2) stf sl ++ MW N am cm (nn 2) (nn 3) fd2m mn) H := hP
  have hD : va_D A (CW N ad shp c ch cs nn bt ct ns (up1 ii 1 fd2) stf sl ++ MW N am cm (nn 2) (nn 3) fd2m mn) := hD
  obtain ⟨er, ef⟩ := ckRd_eq hp1 hp2
  subst ef
  refine lv_icmp_eq (tgt := 1238) hx hb dL_law_837 (by decide) (fun _ => ?_) (fun q => absurd er q)
  refine W.widen (k := cells + 16) (n := slots + 596) (by show cells + 0 + 0 ≤ cells + 16; omega) (by show slots + 0 + 0 ≤ slots + 596; omega) ?_
  exact K c ch cs nn bt ct ns (up1 ii 1 fd2) stf sl w cm mn H locs ⟨⟨hJ.1.1, hJ.1.2.1, hJ.1.2.2.1, hJ.1.2.2.2⟩, hJ.2.1, hJ.2.2.1, hJ.2.2.2.1, hJ.2.2.2.2⟩ hP hD hS
set_option maxHeartbeats 4000000 in
set_option maxRecDepth 100000 in
theorem L_twist {p : Program} {l : Launch} {e : Env} {s : State} {m : MethodId} {below : List Frame} {meth : Method} {c0 : Code} {cells slots : Nat} {Q : State → Prop} {N : ckN} {A : Nat → Prop} {b L i : Nat} {xs : Nat → Int32} {ls : Array Slot} {ad am : Nat → Nat} {shp : Nat → Option Nat} {H : Heap} {locs : List Loc} {c ch cs : Nat → Nat → Int32} {nn bt ct ns : Nat → Nat} {ii : Nat → Int32} {stf : Nat → Option Nat} {sl : Nat → va_W} {w : Nat → List Nat} {cm : Nat → Nat → Int32} {mn : Nat} (hC : LC p s m c0 cells slots N A b L i xs ls ad am) (K : LK p l e s m below meth c0 cells slots Q N A b ls ad am shp) (hJ : Jv N ad shp c ch nn bt ct ii stf sl w cm) (hP : va_P N.1 vwCl (CW N ad shp c ch cs nn bt ct ns ii stf sl ++ MW N am cm (nn 2) (nn 3) (ii 1) mn) H) (hD : va_D A (CW N ad shp c ch cs nn bt ct ns ii stf sl ++ MW N am cm (nn 2) (nn 3) (ii 1) mn)) (hS : va_S A s.heap H locs) : W p l e room_1 s m #[Value.ref b] below meth c0 H locs cells slots Q (F0 m 842 ls []) := by
  obtain ⟨hx, hb, C0, hX, hbl, hbA, hi, hL4, hl, hcs1, hcs2⟩ := hC
  refine lv_aload_n hx hb dL_law_842 rfl (lv_at hl 1 rfl) ?_
  refine lw_rd 1 hx hb hX hbl hbA hS hl hi hL4 (by decide) (by decide) dL_law_843 dL_law_844 dL_law_845 dL_law_846 dL_law_847 ?_
  refine lw_rd 2 hx hb hX hbl hbA hS hl hi hL4 (by decide) (by decide) dL_law_848 dL_law_849 dL_law_850 dL_law_851 dL_law_852 ?_
  refine ck_Vi (As := [.int (xs (i + 1)), .int (xs (i + 2))]) (rest := []) (wr := MW N am cm (nn 2) (nn 3) (ii 1) mn) C0 hP hD hS (u_X10_twist l N ad shp c ch cs nn bt ct ns ii stf sl (xs (i + 1)) (xs (i + 2))  hJ.1.2.2.1.2.1) myX10_twist k3_97 ⟨Nat.le_of_ble_eq_true rfl, Nat.le_of_ble_eq_true rfl⟩ _ _ (ckX_L _ _) 0 rfl rfl rfl rfl hl.1 rfl (Nat.le_of_ble_eq_true rfl) dL_law_853 ⟨by show cells + 0 ≤ 600000; omega, by show slots + 0 ≤ 7302250; omega⟩ (fun r1 u H locs hw hP hD hS => ?_)
  obtain ⟨fd2, hp1, rfl⟩ := hw
  have hP : va_P N.1 vwCl (MW N am cm (nn 2) (nn 3) (ii 1) mn ++ CW N ad shp c ch cs nn bt ct ns (up1 ii 1 fd2) stf sl) H := hP
  have hD : va_D A (MW N am cm (nn 2) (nn 3) (ii 1) mn ++ CW N ad shp c ch cs nn bt ct ns (up1 ii 1 fd2) stf sl) := hD
  refine lv_aload_n hx hb dL_law_856 rfl (lv_at hl 2 rfl) ?_
  refine lw_rd 1 hx hb hX hbl hbA hS hl hi hL4 (by decide) (by decide) dL_law_857 dL_law_858 dL_law_859 dL_law_860 dL_law_861 ?_
  refine lw_rd 2 hx hb hX hbl hbA hS hl hi hL4 (by decide) (by decide) dL_law_862 dL_law_863 dL_law_864 dL_law_865 dL_law_866 ?_
  refine ck_Vi (As := [.int (xs (i + 1)), .int (xs (i + 2))]) (rest := [.int r1]) (wr := CW N ad shp c ch cs nn bt ct ns (up1 ii 1 fd2) stf sl) C0 hP hD hS (u_X11_twist l N am cm (nn 2) (nn 3) (ii 1) mn (nn 0) (nn 1) (ii 0) (c 0) (c 1) (c 2) w (c 6) (c 9) (c 8) (c 7) (xs (i + 1)) (xs (i + 2)) hJ.1.2.2.2 hJ.1.2.2.1.2.1) myX11_twist k4_234 ⟨Nat.le_of_ble_eq_true rfl, Nat.le_of_ble_eq_true rfl⟩ _ _ (ckX_L _ _) 0 rfl rfl rfl rfl hl.1 rfl (Nat.le_of_ble_eq_true rfl) dL_law_867 ⟨by show cells + 0 + 0 ≤ 600000; omega, by show slots + 0 + 0 ≤ 7302250; omega⟩ (fun r2 v H locs hw hP hD hS => ?_)
  obtain ⟨fd2m, hp2, rfl⟩ := hw
  have hP : va_P N.1 vwCl (CW N ad shp c ch cs nn bt ct ns (up1 ii 1 fd2) stf sl ++ MW N am cm (nn 2) (nn 3) fd2m mn) H := hP
  have hD : va_D A (CW N ad shp c ch cs nn bt ct ns (up1 ii 1 fd2) stf sl ++ MW N am cm (nn 2) (nn 3) fd2m mn) := hD
  obtain ⟨er, ef⟩ := ckRd_eq hp1 hp2
  subst ef
  refine lv_icmp_eq (tgt := 1238) hx hb dL_law_870 (by decide) (fun _ => ?_) (fun q => absurd er q)
  refine W.widen (k := cells + 16) (n := slots + 596) (by show cells + 0 + 0 ≤ cells + 16; omega) (by show slots + 0 + 0 ≤ slots + 596; omega) ?_
  exact K c ch cs nn bt ct ns (up1 ii 1 fd2) stf sl w cm mn H locs ⟨⟨hJ.1.1, hJ.1.2.1, hJ.1.2.2.1, hJ.1.2.2.2⟩, hJ.2.1, hJ.2.2.1, hJ.2.2.2.1, hJ.2.2.2.2⟩ hP hD hS
set_option maxHeartbeats 4000000 in
set_option maxRecDepth 100000 in
theorem L_fewest {p : Program} {l : Launch} {e : Env} {s : State} {m : MethodId} {below : List Frame} {meth : Method} {c0 : Code} {cells slots : Nat} {Q : State → Prop} {N : ckN} {A : Nat → Prop} {b L i : Nat} {xs : Nat → Int32} {ls : Array Slot} {ad am : Nat → Nat} {shp : Nat → Option Nat} {H : Heap} {locs : List Loc} {c ch cs : Nat → Nat → Int32} {nn bt ct ns : Nat → Nat} {ii : Nat → Int32} {stf : Nat → Option Nat} {sl : Nat → va_W} {w : Nat → List Nat} {cm : Nat → Nat → Int32} {mn : Nat} (hC : LC p s m c0 cells slots N A b L i xs ls ad am) (K : LK p l e s m below meth c0 cells slots Q N A b ls ad am shp) (hJ : Jv N ad shp c ch nn bt ct ii stf sl w cm) (hP : va_P N.1 vwCl (CW N ad shp c ch cs nn bt ct ns ii stf sl ++ MW N am cm (nn 2) (nn 3) (ii 1) mn) H) (hD : va_D A (CW N ad shp c ch cs nn bt ct ns ii stf sl ++ MW N am cm (nn 2) (nn 3) (ii 1) mn)) (hS : va_S A s.heap H locs) : W p l e room_1 s m #[Value.ref b] below meth c0 H locs cells slots Q (F0 m 875 ls []) := by
  obtain ⟨hx, hb, C0, hX, hbl, hbA, hi, hL4, hl, hcs1, hcs2⟩ := hC
  refine lv_aload_n hx hb dL_law_875 rfl (lv_at hl 1 rfl) ?_
  refine lw_rd 1 hx hb hX hbl hbA hS hl hi hL4 (by decide) (by decide) dL_law_876 dL_law_877 dL_law_878 dL_law_879 dL_law_880 ?_
  refine ck_Vi (As := [.int (xs (i + 1))]) (rest := []) (wr := MW N am cm (nn 2) (nn 3) (ii 1) mn) C0 hP hD hS (u_X10_fewest l N ad shp c ch cs nn bt ct ns ii stf sl w (xs (i + 1))  hJ.1.1 hJ.1.2.2.1.2.2.1 hJ.1.2.2.1.1 hJ.1.2.2.1.2.1) myX10_fewest k3_105 ⟨Nat.le_of_ble_eq_true rfl, Nat.le_of_ble_eq_true rfl⟩ _ _ (ckX_L _ _) 0 rfl rfl rfl rfl hl.1 rfl (Nat.le_of_ble_eq_true rfl) dL_law_881 ⟨by show cells + 0 ≤ 600000; omega, by show slots + 0 ≤ 7302250; omega⟩ (fun r1 u H locs hw hP hD hS => ?_)
  obtain ⟨fd2, tlf2, tgf2, tn2, jl2, jn2, wf2, hp1, rfl⟩ := hw
  have hP : va_P N.1 vwCl (MW N am cm (nn 2) (nn 3) (ii 1) mn ++ CW N ad shp c ch (up1 (up1 (up1 (up1 cs 2 tlf2) 3 tgf2) 0 jl2) 1 wf2) nn bt ct (up1 ns 0 tn2) (up1 (up1 ii 1 fd2) 2 jn2) stf sl) H := hP
  have hD : va_D A (MW N am cm (nn 2) (nn 3) (ii 1) mn ++ CW N ad shp c ch (up1 (up1 (up1 (up1 cs 2 tlf2) 3 tgf2) 0 jl2) 1 wf2) nn bt ct (up1 ns 0 tn2) (up1 (up1 ii 1 fd2) 2 jn2) stf sl) := hD
  refine lv_aload_n hx hb dL_law_884 rfl (lv_at hl 2 rfl) ?_
  refine lw_rd 1 hx hb hX hbl hbA hS hl hi hL4 (by decide) (by decide) dL_law_885 dL_law_886 dL_law_887 dL_law_888 dL_law_889 ?_
  refine ck_Vi (As := [.int (xs (i + 1))]) (rest := [.int r1]) (wr := CW N ad shp c ch (up1 (up1 (up1 (up1 cs 2 tlf2) 3 tgf2) 0 jl2) 1 wf2) nn bt ct (up1 ns 0 tn2) (up1 (up1 ii 1 fd2) 2 jn2) stf sl) C0 hP hD hS (u_X11_fewest l N am cm (nn 2) (nn 3) (ii 1) mn (nn 0) (nn 1) (ii 0) (c 0) (c 1) (c 2) w (c 6) (c 9) (c 8) (c 7) (xs (i + 1)) hJ.1.2.2.2 hJ.1.2.2.1.2.2.1 hJ.1.2.2.1.1 hJ.1.2.2.1.2.1) myX11_fewest k4_238 ⟨Nat.le_of_ble_eq_true rfl, Nat.le_of_ble_eq_true rfl⟩ _ _ (ckX_L _ _) 0 rfl rfl rfl rfl hl.1 rfl (Nat.le_of_ble_eq_true rfl) dL_law_890 ⟨by show cells + 0 + 0 ≤ 600000; omega, by show slots + 0 + 0 ≤ 7302250; omega⟩ (fun r2 v H locs hw hP hD hS => ?_)
  obtain ⟨fd2m, lo9m, bk9m, md9m, mn9m, fw9m, hp2, rfl⟩ := hw
  have hP : va_P N.1 vwCl (CW N ad shp c ch (up1 (up1 (up1 (up1 cs 2 tlf2) 3 tgf2) 0 jl2) 1 wf2) nn bt ct (up1 ns 0 tn2) (up1 (up1 ii 1 fd2) 2 jn2) stf sl ++ MW N am (up1 (up1 (up1 (up1 cm 9 lo9m) 8 bk9m) 10 md9m) 11 fw9m) (nn 2) (nn 3) fd2m mn9m) H := hP
  have hD : va_D A (CW N ad shp c ch (up1 (up1 (up1 (up1 cs 2 tlf2) 3 tgf2) 0 jl2) 1 wf2) nn bt ct (up1 ns 0 tn2) (up1 (up1 ii 1 fd2) 2 jn2) stf sl ++ MW N am (up1 (up1 (up1 (up1 cm 9 lo9m) 8 bk9m) 10 md9m) 11 fw9m) (nn 2) (nn 3) fd2m mn9m) := hD
  obtain ⟨er, ef⟩ := ckRd_eq hp1 hp2
  subst ef
  refine lv_icmp_eq (tgt := 1238) hx hb dL_law_893 (by decide) (fun _ => ?_) (fun q => absurd er q)
  refine W.widen (k := cells + 16) (n := slots + 596) (by show cells + 0 + 0 ≤ cells + 16; omega) (by show slots + 0 + 0 ≤ slots + 596; omega) ?_
  exact K c ch (up1 (up1 (up1 (up1 cs 2 tlf2) 3 tgf2) 0 jl2) 1 wf2) nn bt ct (up1 ns 0 tn2) (up1 (up1 ii 1 fd2) 2 jn2) stf sl w (up1 (up1 (up1 (up1 cm 9 lo9m) 8 bk9m) 10 md9m) 11 fw9m) mn9m H locs ⟨⟨hJ.1.1, hJ.1.2.1, hJ.1.2.2.1, hJ.1.2.2.2⟩, hJ.2.1, hJ.2.2.1, hJ.2.2.2.1, hJ.2.2.2.2⟩ hP hD hS
set_option maxHeartbeats 4000000 in
set_option maxRecDepth 100000 in
theorem L_wear {p : Program} {l : Launch} {e : Env} {s : State} {m : MethodId} {below : List Frame} {meth : Method} {c0 : Code} {cells slots : Nat} {Q : State → Prop} {N : ckN} {A : Nat → Prop} {b L i : Nat} {xs : Nat → Int32} {ls : Array Slot} {ad am : Nat → Nat} {shp : Nat → Option Nat} {H : Heap} {locs : List Loc} {c ch cs : Nat → Nat → Int32} {nn bt ct ns : Nat → Nat} {ii : Nat → Int32} {stf : Nat → Option Nat} {sl : Nat → va_W} {w : Nat → List Nat} {cm : Nat → Nat → Int32} {mn : Nat} (hC : LC p s m c0 cells slots N A b L i xs ls ad am) (K : LK p l e s m below meth c0 cells slots Q N A b ls ad am shp) (hJ : Jv N ad shp c ch nn bt ct ii stf sl w cm) (hP : va_P N.1 vwCl (CW N ad shp c ch cs nn bt ct ns ii stf sl ++ MW N am cm (nn 2) (nn 3) (ii 1) mn) H) (hD : va_D A (CW N ad shp c ch cs nn bt ct ns ii stf sl ++ MW N am cm (nn 2) (nn 3) (ii 1) mn)) (hS : va_S A s.heap H locs) : W p l e room_1 s m #[Value.ref b] below meth c0 H locs cells slots Q (F0 m 974 ls []) := by
  obtain ⟨hx, hb, C0, hX, hbl, hbA, hi, hL4, hl, hcs1, hcs2⟩ := hC
  refine lv_aload_n hx hb dL_law_974 rfl (lv_at hl 1 rfl) ?_
  refine lw_rd 1 hx hb hX hbl hbA hS hl hi hL4 (by decide) (by decide) dL_law_975 dL_law_976 dL_law_977 dL_law_978 dL_law_979 ?_
  refine ck_Vi (As := [.int (xs (i + 1))]) (rest := []) (wr := MW N am cm (nn 2) (nn 3) (ii 1) mn) C0 hP hD hS (u_X10_wear l N ad shp c ch cs nn bt ct ns ii stf sl (xs (i + 1))  hJ.1.2.2.1.2.1) myX10_wear k3_182 ⟨Nat.le_of_ble_eq_true rfl, Nat.le_of_ble_eq_true rfl⟩ _ _ (ckX_L _ _) 0 rfl rfl rfl rfl hl.1 rfl (Nat.le_of_ble_eq_true rfl) dL_law_980 ⟨by show cells + 0 ≤ 600000; omega, by show slots + 0 ≤ 7302250; omega⟩ (fun r1 u H locs hw hP hD hS => ?_)
  obtain ⟨fd2, hp1, rfl⟩ := hw
  have hP : va_P N.1 vwCl (MW N am cm (nn 2) (nn 3) (ii 1) mn ++ CW N ad shp c ch cs nn bt ct ns (up1 ii 1 fd2) stf sl) H := hP
  have hD : va_D A (MW N am cm (nn 2) (nn 3) (ii 1) mn ++ CW N ad shp c ch cs nn bt ct ns (up1 ii 1 fd2) stf sl) := hD
  refine lv_aload_n hx hb dL_law_983 rfl (lv_at hl 2 rfl) ?_
  refine lw_rd 1 hx hb hX hbl hbA hS hl hi hL4 (by decide) (by decide) dL_law_984 dL_law_985 dL_law_986 dL_law_987 dL_law_988 ?_
  refine ck_Vi (As := [.int (xs (i + 1))]) (rest := [.int r1]) (wr := CW N ad shp c ch cs nn bt ct ns (up1 ii 1 fd2) stf sl) C0 hP hD hS (u_X11_wear l N am cm (nn 2) (nn 3) (ii 1) mn (nn 0) (nn 1) (ii 0) (c 0) (c 1) (c 2) w (c 6) (c 9) (c 8) (c 7) (xs (i + 1)) hJ.1.2.2.2 hJ.1.2.2.1.2.1) myX11_wear k5_30 ⟨Nat.le_of_ble_eq_true rfl, Nat.le_of_ble_eq_true rfl⟩ _ _ (ckX_L _ _) 0 rfl rfl rfl rfl hl.1 rfl (Nat.le_of_ble_eq_true rfl) dL_law_989 ⟨by show cells + 0 + 0 ≤ 600000; omega, by show slots + 0 + 0 ≤ 7302250; omega⟩ (fun r2 v H locs hw hP hD hS => ?_)
  obtain ⟨fd2m, hp2, rfl⟩ := hw
  have hP : va_P N.1 vwCl (CW N ad shp c ch cs nn bt ct ns (up1 ii 1 fd2) stf sl ++ MW N am cm (nn 2) (nn 3) fd2m mn) H := hP
  have hD : va_D A (CW N ad shp c ch cs nn bt ct ns (up1 ii 1 fd2) stf sl ++ MW N am cm (nn 2) (nn 3) fd2m mn) := hD
  obtain ⟨er, ef⟩ := ckRd_eq hp1 hp2
  subst ef
  refine lv_icmp_eq (tgt := 1238) hx hb dL_law_992 (by decide) (fun _ => ?_) (fun q => absurd er q)
  refine W.widen (k := cells + 16) (n := slots + 596) (by show cells + 0 + 0 ≤ cells + 16; omega) (by show slots + 0 + 0 ≤ slots + 596; omega) ?_
  exact K c ch cs nn bt ct ns (up1 ii 1 fd2) stf sl w cm mn H locs ⟨⟨hJ.1.1, hJ.1.2.1, hJ.1.2.2.1, hJ.1.2.2.2⟩, hJ.2.1, hJ.2.2.1, hJ.2.2.2.1, hJ.2.2.2.2⟩ hP hD hS
set_option maxHeartbeats 4000000 in
set_option maxRecDepth 100000 in
theorem L_lost {p : Program} {l : Launch} {e : Env} {s : State} {m : MethodId} {below : List Frame} {meth : Method} {c0 : Code} {cells slots : Nat} {Q : State → Prop} {N : ckN} {A : Nat → Prop} {b L i : Nat} {xs : Nat → Int32} {ls : Array Slot} {ad am : Nat → Nat} {shp : Nat → Option Nat} {H : Heap} {locs : List Loc} {c ch cs : Nat → Nat → Int32} {nn bt ct ns : Nat → Nat} {ii : Nat → Int32} {stf : Nat → Option Nat} {sl : Nat → va_W} {w : Nat → List Nat} {cm : Nat → Nat → Int32} {mn : Nat} (hC : LC p s m c0 cells slots N A b L i xs ls ad am) (K : LK p l e s m below meth c0 cells slots Q N A b ls ad am shp) (hJ : Jv N ad shp c ch nn bt ct ii stf sl w cm) (hP : va_P N.1 vwCl (CW N ad shp c ch cs nn bt ct ns ii stf sl ++ MW N am cm (nn 2) (nn 3) (ii 1) mn) H) (hD : va_D A (CW N ad shp c ch cs nn bt ct ns ii stf sl ++ MW N am cm (nn 2) (nn 3) (ii 1) mn)) (hS : va_S A s.heap H locs) : W p l e room_1 s m #[Value.ref b] below meth c0 H locs cells slots Q (F0 m 997 ls []) := by
  obtain ⟨hx, hb, C0, hX, hbl, hbA, hi, hL4, hl, hcs1, hcs2⟩ := hC
  refine lv_aload_n hx hb dL_law_997 rfl (lv_at hl 1 rfl) ?_
  refine ck_Vi (As := []) (rest := []) (wr := MW N am cm (nn 2) (nn 3) (ii 1) mn) C0 hP hD hS (u_X10_lost l N ad shp c ch cs nn bt ct ns ii stf sl   hJ.1.2.2.1.2.1) myX10_lost k3_186 ⟨Nat.le_of_ble_eq_true rfl, Nat.le_of_ble_eq_true rfl⟩ _ _ (ckX_L _ _) 0 rfl rfl rfl rfl hl.1 rfl (Nat.le_of_ble_eq_true rfl) dL_law_998 ⟨by show cells + 0 ≤ 600000; omega, by show slots + 0 ≤ 7302250; omega⟩ (fun r1 u H locs hw hP hD hS => ?_)
  obtain ⟨fd2, hp1, rfl⟩ := hw
  have hP : va_P N.1 vwCl (MW N am cm (nn 2) (nn 3) (ii 1) mn ++ CW N ad shp c ch cs nn bt ct ns (up1 ii 1 fd2) stf sl) H := hP
  have hD : va_D A (MW N am cm (nn 2) (nn 3) (ii 1) mn ++ CW N ad shp c ch cs nn bt ct ns (up1 ii 1 fd2) stf sl) := hD
  refine lv_aload_n hx hb dL_law_1001 rfl (lv_at hl 2 rfl) ?_
  refine ck_Vi (As := []) (rest := [.int r1]) (wr := CW N ad shp c ch cs nn bt ct ns (up1 ii 1 fd2) stf sl) C0 hP hD hS (u_X11_lost l N am cm (nn 2) (nn 3) (ii 1) mn (nn 0) (nn 1) (ii 0) (c 0) (c 1) (c 2) w (c 6) (c 9) (c 8) (c 7) hJ.1.2.2.2 hJ.1.2.2.1.2.1) myX11_lost k5_34 ⟨Nat.le_of_ble_eq_true rfl, Nat.le_of_ble_eq_true rfl⟩ _ _ (ckX_L _ _) 0 rfl rfl rfl rfl hl.1 rfl (Nat.le_of_ble_eq_true rfl) dL_law_1002 ⟨by show cells + 0 + 0 ≤ 600000; omega, by show slots + 0 + 0 ≤ 7302250; omega⟩ (fun r2 v H locs hw hP hD hS => ?_)
  obtain ⟨fd2m, hp2, rfl⟩ := hw
  have hP : va_P N.1 vwCl (CW N ad shp c ch cs nn bt ct ns (up1 ii 1 fd2) stf sl ++ MW N am cm (nn 2) (nn 3) fd2m mn) H := hP
  have hD : va_D A (CW N ad shp c ch cs nn bt ct ns (up1 ii 1 fd2) stf sl ++ MW N am cm (nn 2) (nn 3) fd2m mn) := hD
  obtain ⟨er, ef⟩ := ckRd_eq hp1 hp2
  subst ef
  refine lv_icmp_eq (tgt := 1238) hx hb dL_law_1005 (by decide) (fun _ => ?_) (fun q => absurd er q)
  refine W.widen (k := cells + 16) (n := slots + 596) (by show cells + 0 + 0 ≤ cells + 16; omega) (by show slots + 0 + 0 ≤ slots + 596; omega) ?_
  exact K c ch cs nn bt ct ns (up1 ii 1 fd2) stf sl w cm mn H locs ⟨⟨hJ.1.1, hJ.1.2.1, hJ.1.2.2.1, hJ.1.2.2.2⟩, hJ.2.1, hJ.2.2.1, hJ.2.2.2.1, hJ.2.2.2.2⟩ hP hD hS
set_option maxHeartbeats 4000000 in
set_option maxRecDepth 100000 in
theorem L_all {p : Program} {l : Launch} {e : Env} {s : State} {m : MethodId} {below : List Frame} {meth : Method} {c0 : Code} {cells slots : Nat} {Q : State → Prop} {N : ckN} {A : Nat → Prop} {b L i : Nat} {xs : Nat → Int32} {ls : Array Slot} {ad am : Nat → Nat} {shp : Nat → Option Nat} {H : Heap} {locs : List Loc} {c ch cs : Nat → Nat → Int32} {nn bt ct ns : Nat → Nat} {ii : Nat → Int32} {stf : Nat → Option Nat} {sl : Nat → va_W} {w : Nat → List Nat} {cm : Nat → Nat → Int32} {mn : Nat} (hC : LC p s m c0 cells slots N A b L i xs ls ad am) (K : LK p l e s m below meth c0 cells slots Q N A b ls ad am shp) (hJ : Jv N ad shp c ch nn bt ct ii stf sl w cm) (hP : va_P N.1 vwCl (CW N ad shp c ch cs nn bt ct ns ii stf sl ++ MW N am cm (nn 2) (nn 3) (ii 1) mn) H) (hD : va_D A (CW N ad shp c ch cs nn bt ct ns ii stf sl ++ MW N am cm (nn 2) (nn 3) (ii 1) mn)) (hS : va_S A s.heap H locs) : W p l e room_1 s m #[Value.ref b] below meth c0 H locs cells slots Q (F0 m 1215 ls []) := by
  obtain ⟨hx, hb, C0, hX, hbl, hbA, hi, hL4, hl, hcs1, hcs2⟩ := hC
  refine lv_aload_n hx hb dL_law_1215 rfl (lv_at hl 1 rfl) ?_
  refine lw_rd 1 hx hb hX hbl hbA hS hl hi hL4 (by decide) (by decide) dL_law_1216 dL_law_1217 dL_law_1218 dL_law_1219 dL_law_1220 ?_
  refine ck_Vi (As := [.int (xs (i + 1))]) (rest := []) (wr := MW N am cm (nn 2) (nn 3) (ii 1) mn) C0 hP hD hS (u_X10_all l N ad shp c ch cs nn bt ct ns ii stf sl w (xs (i + 1))  hJ.1.2.2.1.2.1 hJ.1.1) myX10_all k3_227 ⟨Nat.le_of_ble_eq_true rfl, Nat.le_of_ble_eq_true rfl⟩ _ _ (ckX_L _ _) 0 rfl rfl rfl rfl hl.1 rfl (Nat.le_of_ble_eq_true rfl) dL_law_1221 ⟨by show cells + 0 ≤ 600000; omega, by show slots + 0 ≤ 7302250; omega⟩ (fun r1 u H locs hw hP hD hS => ?_)
  obtain ⟨fd2, hp1, rfl⟩ := hw
  have hP : va_P N.1 vwCl (MW N am cm (nn 2) (nn 3) (ii 1) mn ++ CW N ad shp c ch cs nn bt ct ns (up1 ii 1 fd2) stf sl) H := hP
  have hD : va_D A (MW N am cm (nn 2) (nn 3) (ii 1) mn ++ CW N ad shp c ch cs nn bt ct ns (up1 ii 1 fd2) stf sl) := hD
  refine lv_aload_n hx hb dL_law_1224 rfl (lv_at hl 2 rfl) ?_
  refine lw_rd 1 hx hb hX hbl hbA hS hl hi hL4 (by decide) (by decide) dL_law_1225 dL_law_1226 dL_law_1227 dL_law_1228 dL_law_1229 ?_
  refine ck_Vi (As := [.int (xs (i + 1))]) (rest := [.int r1]) (wr := CW N ad shp c ch cs nn bt ct ns (up1 ii 1 fd2) stf sl) C0 hP hD hS (u_X11_all l N am cm (nn 2) (nn 3) (ii 1) mn (nn 0) (nn 1) (ii 0) (c 0) (c 1) (c 2) w (c 6) (c 9) (c 8) (c 7) (xs (i + 1)) hJ.1.2.2.2 hJ.1.2.2.1.2.1) myX11_all k5_54 ⟨Nat.le_of_ble_eq_true rfl, Nat.le_of_ble_eq_true rfl⟩ _ _ (ckX_L _ _) 0 rfl rfl rfl rfl hl.1 rfl (Nat.le_of_ble_eq_true rfl) dL_law_1230 ⟨by show cells + 0 + 0 ≤ 600000; omega, by show slots + 0 + 0 ≤ 7302250; omega⟩ (fun r2 v H locs hw hP hD hS => ?_)
  obtain ⟨fd2m, lo2m, bk2m, hp2, rfl⟩ := hw
  have hP : va_P N.1 vwCl (CW N ad shp c ch cs nn bt ct ns (up1 ii 1 fd2) stf sl ++ MW N am (up1 (up1 cm 9 lo2m) 8 bk2m) (nn 2) (nn 3) fd2m mn) H := hP
  have hD : va_D A (CW N ad shp c ch cs nn bt ct ns (up1 ii 1 fd2) stf sl ++ MW N am (up1 (up1 cm 9 lo2m) 8 bk2m) (nn 2) (nn 3) fd2m mn) := hD
  obtain ⟨er, ef⟩ := ckRd_eq hp1 hp2
  subst ef
  refine lv_icmp_eq (tgt := 1238) hx hb dL_law_1233 (by decide) (fun _ => ?_) (fun q => absurd er q)
  refine W.widen (k := cells + 16) (n := slots + 596) (by show cells + 0 + 0 ≤ cells + 16; omega) (by show slots + 0 + 0 ≤ slots + 596; omega) ?_
  exact K c ch cs nn bt ct ns (up1 ii 1 fd2) stf sl w (up1 (up1 cm 9 lo2m) 8 bk2m) mn H locs ⟨⟨hJ.1.1, hJ.1.2.1, hJ.1.2.2.1, hJ.1.2.2.2⟩, hJ.2.1, hJ.2.2.1, hJ.2.2.2.1, hJ.2.2.2.2⟩ hP hD hS
