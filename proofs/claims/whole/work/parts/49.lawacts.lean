set_option maxHeartbeats 4000000 in
set_option maxRecDepth 100000 in
theorem L_flyer {p : Program} {l : Launch} {e : Env} {s : State} {m : MethodId} {below : List Frame} {meth : Method} {c0 : Code} {cells slots : Nat} {Q : State → Prop} {N : ckN} {A : Nat → Prop} {b L i : Nat} {xs : Nat → Int32} {ls : Array Slot} {ad am : Nat → Nat} {shp : Nat → Option Nat} {H : Heap} {locs : List Loc} {c ch cs : Nat → Nat → Int32} {nn bt ct ns : Nat → Nat} {ii : Nat → Int32} {stf : Nat → Option Nat} {sl : Nat → va_W} {w : Nat → List Nat} {cm : Nat → Nat → Int32} {mn : Nat} (hC : LC p s m c0 cells slots N A b L i xs ls ad am) (K : LK p l e s m below meth c0 cells slots Q N A b ls ad am shp) (hJ : Jv N ad shp c ch nn bt ct ii stf sl w cm) (hP : va_P N.1 vwCl (CW N ad shp c ch cs nn bt ct ns ii stf sl ++ MW N am cm (nn 2) (nn 3) (ii 1) mn) H) (hD : va_D A (CW N ad shp c ch cs nn bt ct ns ii stf sl ++ MW N am cm (nn 2) (nn 3) (ii 1) mn)) (hS : va_S A s.heap H locs) : W p l e room_1 s m #[Value.ref b] below meth c0 H locs cells slots Q (F0 m 168 ls []) := by
  obtain ⟨hx, hb, C0, hX, hbl, hbA, hi, hL4, hl, hcs1, hcs2⟩ := hC
  refine lv_aload_n hx hb dL_law_168 rfl (lv_at hl 1 rfl) ?_
  refine lw_rd 1 hx hb hX hbl hbA hS hl hi hL4 (by decide) (by decide) dL_law_169 dL_law_170 dL_law_171 dL_law_172 dL_law_173 ?_
  refine lw_rd 2 hx hb hX hbl hbA hS hl hi hL4 (by decide) (by decide) dL_law_174 dL_law_175 dL_law_176 dL_law_177 dL_law_178 ?_
  refine lw_rd 3 hx hb hX hbl hbA hS hl hi hL4 (by decide) (by decide) dL_law_179 dL_law_180 dL_law_181 dL_law_182 dL_law_183 ?_
  refine lw_rd 4 hx hb hX hbl hbA hS hl hi hL4 (by decide) (by decide) dL_law_184 dL_law_185 dL_law_186 dL_law_187 dL_law_188 ?_
  refine lw_rd 5 hx hb hX hbl hbA hS hl hi hL4 (by decide) (by decide) dL_law_189 dL_law_190 dL_law_191 dL_law_192 dL_law_193 ?_
  refine lw_rd6 6 hx hb hX hbl hbA hS hl hi hL4 (by decide) (by decide) dL_law_194 dL_law_195 dL_law_196 dL_law_198 dL_law_199 ?_
  refine ck_Vi (As := [.int (xs (i + 1)), .int (xs (i + 2)), .int (xs (i + 3)), .int (xs (i + 4)), .int (xs (i + 5)), .int (xs (i + 6))]) (rest := []) (wr := MW N am cm (nn 2) (nn 3) (ii 1) mn) C0 hP hD hS (u_X10_flyer l N ad shp c ch cs nn bt ct ns ii stf sl w (xs (i + 1)) (xs (i + 2)) (xs (i + 3)) (xs (i + 4)) (xs (i + 5)) (xs (i + 6))  hJ.1.1 hJ.1.2.2.1.2.1 hJ.2.2.2.1.1 hJ.2.2.2.1.2 (hJ.2.1.1 _ hJ.2.2.2.1.1) hJ.1.2.1.1) myX10_flyer k2_1 ⟨Nat.le_of_ble_eq_true rfl, Nat.le_of_ble_eq_true rfl⟩ _ _ (ckX_L _ _) 0 rfl rfl rfl rfl hl.1 rfl (Nat.le_of_ble_eq_true rfl) dL_law_200 ⟨by show cells + 16 ≤ 600000; omega, by show slots + 596 ≤ 7302250; omega⟩ (fun r1 u H locs hw hP hD hS => ?_)
  obtain ⟨fd2, nx2, hc2, stf2, ex2, tr4, cf4, hp1, rfl⟩ := hw
  have hP : va_P N.1 vwCl (MW N am cm (nn 2) (nn 3) (ii 1) mn ++ CW N ad shp (up1 c 0 tr4) ch cs (up1 (up1 (up1 nn 2 nx2) 3 hc2) 0 cf4) bt ct ns (up1 ii 1 fd2) stf2 (up1 sl (nn 2) ex2)) H := hP
  have hD : va_D A (MW N am cm (nn 2) (nn 3) (ii 1) mn ++ CW N ad shp (up1 c 0 tr4) ch cs (up1 (up1 (up1 nn 2 nx2) 3 hc2) 0 cf4) bt ct ns (up1 ii 1 fd2) stf2 (up1 sl (nn 2) ex2)) := hD
  refine lv_aload_n hx hb dL_law_203 rfl (lv_at hl 2 rfl) ?_
  refine lw_rd 1 hx hb hX hbl hbA hS hl hi hL4 (by decide) (by decide) dL_law_204 dL_law_205 dL_law_206 dL_law_207 dL_law_208 ?_
  refine lw_rd 2 hx hb hX hbl hbA hS hl hi hL4 (by decide) (by decide) dL_law_209 dL_law_210 dL_law_211 dL_law_212 dL_law_213 ?_
  refine lw_rd 3 hx hb hX hbl hbA hS hl hi hL4 (by decide) (by decide) dL_law_214 dL_law_215 dL_law_216 dL_law_217 dL_law_218 ?_
  refine lw_rd 4 hx hb hX hbl hbA hS hl hi hL4 (by decide) (by decide) dL_law_219 dL_law_220 dL_law_221 dL_law_222 dL_law_223 ?_
  refine lw_rd 5 hx hb hX hbl hbA hS hl hi hL4 (by decide) (by decide) dL_law_224 dL_law_225 dL_law_226 dL_law_227 dL_law_228 ?_
  refine lw_rd6 6 hx hb hX hbl hbA hS hl hi hL4 (by decide) (by decide) dL_law_229 dL_law_230 dL_law_231 dL_law_233 dL_law_234 ?_
  refine ck_Vi (As := [.int (xs (i + 1)), .int (xs (i + 2)), .int (xs (i + 3)), .int (xs (i + 4)), .int (xs (i + 5)), .int (xs (i + 6))]) (rest := [.int r1]) (wr := CW N ad shp (up1 c 0 tr4) ch cs (up1 (up1 (up1 nn 2 nx2) 3 hc2) 0 cf4) bt ct ns (up1 ii 1 fd2) stf2 (up1 sl (nn 2) ex2)) C0 hP hD hS (u_X11_flyer l N am cm (nn 2) (nn 3) (ii 1) mn (nn 0) (nn 1) (ii 0) (c 0) (c 1) (c 2) w (c 6) (c 9) (c 8) (c 7) (xs (i + 1)) (xs (i + 2)) (xs (i + 3)) (xs (i + 4)) (xs (i + 5)) (xs (i + 6)) hJ.1.2.2.2 hJ.1.2.2.1.2.1 hJ.2.2.2.1.1 hJ.2.2.2.1.2 hJ.1.2.1.1) myX11_flyer k4_71 ⟨Nat.le_of_ble_eq_true rfl, Nat.le_of_ble_eq_true rfl⟩ _ _ (ckX_L _ _) 0 rfl rfl rfl rfl hl.1 rfl (Nat.le_of_ble_eq_true rfl) dL_law_235 ⟨by show cells + 16 + 0 ≤ 600000; omega, by show slots + 596 + 0 ≤ 7302250; omega⟩ (fun r2 v H locs hw hP hD hS => ?_)
  obtain ⟨fd2m, ke2m, kn2m, nw4m, kp4m, hp2, rfl⟩ := hw
  have hP : va_P N.1 vwCl (CW N ad shp (up1 c 0 tr4) ch cs (up1 (up1 (up1 nn 2 nx2) 3 hc2) 0 cf4) bt ct ns (up1 ii 1 fd2) stf2 (up1 sl (nn 2) ex2) ++ MW N am (up1 (up1 cm 0 nw4m) 1 kp4m) ke2m kn2m fd2m mn) H := hP
  have hD : va_D A (CW N ad shp (up1 c 0 tr4) ch cs (up1 (up1 (up1 nn 2 nx2) 3 hc2) 0 cf4) bt ct ns (up1 ii 1 fd2) stf2 (up1 sl (nn 2) ex2) ++ MW N am (up1 (up1 cm 0 nw4m) 1 kp4m) ke2m kn2m fd2m mn) := hD
  obtain ⟨hr1, ho1⟩ := hp1
  obtain ⟨hr2, ho2⟩ := hp2
  obtain ⟨er, ef⟩ := ckRd_eq hr1 hr2
  subst ef
  refine lv_icmp_eq (tgt := 1238) hx hb dL_law_238 (by decide) (fun _ => ?_) (fun q => absurd er q)
  refine W.widen (k := cells + 16) (n := slots + 596) (by show cells + 16 + 0 ≤ cells + 16; omega) (by show slots + 596 + 0 ≤ slots + 596; omega) ?_
  rcases ho1 with ⟨hF, rfl, rfl, hk, rfl, rfl⟩ | ⟨hF, rfl, rfl, rfl, rfl, rfl, rfl⟩
  · rcases ho2 with ⟨-, rfl, rfl, rfl, hV4⟩ | ⟨q, -⟩
    · exact K (up1 c 0 (fyT (c 0) (nn 0) (xs (i + 1)) (xs (i + 2)) (xs (i + 3)) (xs (i + 4)) (xs (i + 5)) (xs (i + 6)))) ch cs (up1 (up1 (up1 nn 2 (((nn 2) + 1) % 20)) 3 (min ((nn 3) + 1) 20)) 0 ((nn 0) + 1)) bt ct ns (up1 ii 1 fd2) stf2 (up1 sl (nn 2) ex2) w (up1 (up1 cm 0 nw4m) 1 (guT (cm 1) (572 * nn 2) (cm 0) 572)) mn H locs ⟨⟨hJ.1.1, iA_fy hJ.1.2.1 hF, hJ.1.2.2.1, hV4⟩, JK_keep hJ.2.1 hJ.2.2.2.1.1 hJ.1 hk, hJ.2.2.1, ⟨Nat.mod_lt _ (by decide), Nat.min_le_right _ _⟩, hJ.2.2.2.2⟩ hP hD hS
    · exact absurd hF q
  · rcases ho2 with ⟨q, -⟩ | ⟨-, rfl, rfl, rfl, rfl⟩
    · exact absurd q hF
    · exact K (up1 c 0 ((c 0))) ch cs (up1 (up1 (up1 nn 2 ((nn 2))) 3 ((nn 3))) 0 ((nn 0))) bt ct ns (up1 ii 1 fd2) _ (up1 sl (nn 2) ((sl (nn 2)))) w (up1 (up1 cm 0 (cm 0)) 1 (cm 1)) mn H locs ⟨⟨hJ.1.1, hJ.1.2.1, hJ.1.2.2.1, hJ.1.2.2.2⟩, by rw [up1_self]; exact hJ.2.1, hJ.2.2.1, hJ.2.2.2.1, hJ.2.2.2.2⟩ hP hD hS
set_option maxHeartbeats 4000000 in
set_option maxRecDepth 100000 in
theorem L_go {p : Program} {l : Launch} {e : Env} {s : State} {m : MethodId} {below : List Frame} {meth : Method} {c0 : Code} {cells slots : Nat} {Q : State → Prop} {N : ckN} {A : Nat → Prop} {b L i : Nat} {xs : Nat → Int32} {ls : Array Slot} {ad am : Nat → Nat} {shp : Nat → Option Nat} {H : Heap} {locs : List Loc} {c ch cs : Nat → Nat → Int32} {nn bt ct ns : Nat → Nat} {ii : Nat → Int32} {stf : Nat → Option Nat} {sl : Nat → va_W} {w : Nat → List Nat} {cm : Nat → Nat → Int32} {mn : Nat} (hC : LC p s m c0 cells slots N A b L i xs ls ad am) (K : LK p l e s m below meth c0 cells slots Q N A b ls ad am shp) (hJ : Jv N ad shp c ch nn bt ct ii stf sl w cm) (hP : va_P N.1 vwCl (CW N ad shp c ch cs nn bt ct ns ii stf sl ++ MW N am cm (nn 2) (nn 3) (ii 1) mn) H) (hD : va_D A (CW N ad shp c ch cs nn bt ct ns ii stf sl ++ MW N am cm (nn 2) (nn 3) (ii 1) mn)) (hS : va_S A s.heap H locs) : W p l e room_1 s m #[Value.ref b] below meth c0 H locs cells slots Q (F0 m 309 ls []) := by
  obtain ⟨hx, hb, C0, hX, hbl, hbA, hi, hL4, hl, hcs1, hcs2⟩ := hC
  refine lv_aload_n hx hb dL_law_309 rfl (lv_at hl 1 rfl) ?_
  refine lw_rd 1 hx hb hX hbl hbA hS hl hi hL4 (by decide) (by decide) dL_law_310 dL_law_311 dL_law_312 dL_law_313 dL_law_314 ?_
  refine lw_rd 2 hx hb hX hbl hbA hS hl hi hL4 (by decide) (by decide) dL_law_315 dL_law_316 dL_law_317 dL_law_318 dL_law_319 ?_
  refine ck_Vi (As := [.int (xs (i + 1)), .int (xs (i + 2))]) (rest := []) (wr := MW N am cm (nn 2) (nn 3) (ii 1) mn) C0 hP hD hS (u_X10_go l N ad shp c ch cs nn bt ct ns ii stf sl w (xs (i + 1)) (xs (i + 2))  hJ.1.1 hJ.1.2.2.1.2.1 hJ.2.2.2.1.1 hJ.2.2.2.1.2 (hJ.2.1.1 _ hJ.2.2.2.1.1) hJ.1.2.1.1) myX10_go k2_115 ⟨Nat.le_of_ble_eq_true rfl, Nat.le_of_ble_eq_true rfl⟩ _ _ (ckX_L _ _) 0 rfl rfl rfl rfl hl.1 rfl (Nat.le_of_ble_eq_true rfl) dL_law_320 ⟨by show cells + 16 ≤ 600000; omega, by show slots + 596 ≤ 7302250; omega⟩ (fun r1 u H locs hw hP hD hS => ?_)
  obtain ⟨fd2, nx2, hc2, stf2, ex2, tr4, hp1, rfl⟩ := hw
  have hP : va_P N.1 vwCl (MW N am cm (nn 2) (nn 3) (ii 1) mn ++ CW N ad shp (up1 c 0 tr4) ch cs (up1 (up1 nn 2 nx2) 3 hc2) bt ct ns (up1 ii 1 fd2) stf2 (up1 sl (nn 2) ex2)) H := hP
  have hD : va_D A (MW N am cm (nn 2) (nn 3) (ii 1) mn ++ CW N ad shp (up1 c 0 tr4) ch cs (up1 (up1 nn 2 nx2) 3 hc2) bt ct ns (up1 ii 1 fd2) stf2 (up1 sl (nn 2) ex2)) := hD
  refine lv_aload_n hx hb dL_law_323 rfl (lv_at hl 2 rfl) ?_
  refine lw_rd 1 hx hb hX hbl hbA hS hl hi hL4 (by decide) (by decide) dL_law_324 dL_law_325 dL_law_326 dL_law_327 dL_law_328 ?_
  refine lw_rd 2 hx hb hX hbl hbA hS hl hi hL4 (by decide) (by decide) dL_law_329 dL_law_330 dL_law_331 dL_law_332 dL_law_333 ?_
  refine ck_Vi (As := [.int (xs (i + 1)), .int (xs (i + 2))]) (rest := [.int r1]) (wr := CW N ad shp (up1 c 0 tr4) ch cs (up1 (up1 nn 2 nx2) 3 hc2) bt ct ns (up1 ii 1 fd2) stf2 (up1 sl (nn 2) ex2)) C0 hP hD hS (u_X11_go l N am cm (nn 2) (nn 3) (ii 1) mn (nn 0) (nn 1) (ii 0) (c 0) (c 1) (c 2) w (c 6) (c 9) (c 8) (c 7) (xs (i + 1)) (xs (i + 2)) hJ.1.2.2.2 hJ.1.2.2.1.2.1 hJ.2.2.2.1.1 hJ.2.2.2.1.2 hJ.1.2.1.1) myX11_go k4_105 ⟨Nat.le_of_ble_eq_true rfl, Nat.le_of_ble_eq_true rfl⟩ _ _ (ckX_L _ _) 0 rfl rfl rfl rfl hl.1 rfl (Nat.le_of_ble_eq_true rfl) dL_law_334 ⟨by show cells + 16 + 0 ≤ 600000; omega, by show slots + 596 + 0 ≤ 7302250; omega⟩ (fun r2 v H locs hw hP hD hS => ?_)
  obtain ⟨fd2m, ke2m, kn2m, nw4m, kp4m, hp2, rfl⟩ := hw
  have hP : va_P N.1 vwCl (CW N ad shp (up1 c 0 tr4) ch cs (up1 (up1 nn 2 nx2) 3 hc2) bt ct ns (up1 ii 1 fd2) stf2 (up1 sl (nn 2) ex2) ++ MW N am (up1 (up1 cm 0 nw4m) 1 kp4m) ke2m kn2m fd2m mn) H := hP
  have hD : va_D A (CW N ad shp (up1 c 0 tr4) ch cs (up1 (up1 nn 2 nx2) 3 hc2) bt ct ns (up1 ii 1 fd2) stf2 (up1 sl (nn 2) ex2) ++ MW N am (up1 (up1 cm 0 nw4m) 1 kp4m) ke2m kn2m fd2m mn) := hD
  obtain ⟨hr1, ho1⟩ := hp1
  obtain ⟨hr2, ho2⟩ := hp2
  obtain ⟨er, ef⟩ := ckRd_eq hr1 hr2
  subst ef
  refine lv_icmp_eq (tgt := 1238) hx hb dL_law_337 (by decide) (fun _ => ?_) (fun q => absurd er q)
  refine W.widen (k := cells + 16) (n := slots + 596) (by show cells + 16 + 0 ≤ cells + 16; omega) (by show slots + 596 + 0 ≤ slots + 596; omega) ?_
  rcases ho1 with ⟨hF, rfl, rfl, hk, rfl⟩ | ⟨hF, rfl, rfl, rfl, rfl, rfl⟩
  · rcases ho2 with ⟨-, rfl, rfl, rfl, hV4⟩ | ⟨q, -⟩
    · exact K (up1 c 0 (upd (upd (c 0) (ix (xs (i + 1)) * 8 + 1) (nI (ix (xs (i + 2)) / 100))) (ix (xs (i + 1)) * 8 + 2) (nI (ix (xs (i + 2)) % 100)))) ch cs (up1 (up1 nn 2 (((nn 2) + 1) % 20)) 3 (min ((nn 3) + 1) 20)) bt ct ns (up1 ii 1 fd2) stf2 (up1 sl (nn 2) ex2) w (up1 (up1 cm 0 nw4m) 1 (guT (cm 1) (572 * nn 2) (cm 0) 572)) mn H locs ⟨⟨hJ.1.1, iA_go hJ.1.2.1 hF, hJ.1.2.2.1, hV4⟩, JK_keep hJ.2.1 hJ.2.2.2.1.1 hJ.1 hk, hJ.2.2.1, ⟨Nat.mod_lt _ (by decide), Nat.min_le_right _ _⟩, hJ.2.2.2.2⟩ hP hD hS
    · exact absurd hF q
  · rcases ho2 with ⟨q, -⟩ | ⟨-, rfl, rfl, rfl, rfl⟩
    · exact absurd q hF
    · exact K (up1 c 0 ((c 0))) ch cs (up1 (up1 nn 2 ((nn 2))) 3 ((nn 3))) bt ct ns (up1 ii 1 fd2) _ (up1 sl (nn 2) ((sl (nn 2)))) w (up1 (up1 cm 0 (cm 0)) 1 (cm 1)) mn H locs ⟨⟨hJ.1.1, hJ.1.2.1, hJ.1.2.2.1, hJ.1.2.2.2⟩, by rw [up1_self]; exact hJ.2.1, hJ.2.2.1, hJ.2.2.2.1, hJ.2.2.2.2⟩ hP hD hS
set_option maxHeartbeats 4000000 in
set_option maxRecDepth 100000 in
theorem L_line {p : Program} {l : Launch} {e : Env} {s : State} {m : MethodId} {below : List Frame} {meth : Method} {c0 : Code} {cells slots : Nat} {Q : State → Prop} {N : ckN} {A : Nat → Prop} {b L i : Nat} {xs : Nat → Int32} {ls : Array Slot} {ad am : Nat → Nat} {shp : Nat → Option Nat} {H : Heap} {locs : List Loc} {c ch cs : Nat → Nat → Int32} {nn bt ct ns : Nat → Nat} {ii : Nat → Int32} {stf : Nat → Option Nat} {sl : Nat → va_W} {w : Nat → List Nat} {cm : Nat → Nat → Int32} {mn : Nat} (hC : LC p s m c0 cells slots N A b L i xs ls ad am) (K : LK p l e s m below meth c0 cells slots Q N A b ls ad am shp) (hJ : Jv N ad shp c ch nn bt ct ii stf sl w cm) (hP : va_P N.1 vwCl (CW N ad shp c ch cs nn bt ct ns ii stf sl ++ MW N am cm (nn 2) (nn 3) (ii 1) mn) H) (hD : va_D A (CW N ad shp c ch cs nn bt ct ns ii stf sl ++ MW N am cm (nn 2) (nn 3) (ii 1) mn)) (hS : va_S A s.heap H locs) : W p l e room_1 s m #[Value.ref b] below meth c0 H locs cells slots Q (F0 m 342 ls []) := by
  obtain ⟨hx, hb, C0, hX, hbl, hbA, hi, hL4, hl, hcs1, hcs2⟩ := hC
  refine lv_aload_n hx hb dL_law_342 rfl (lv_at hl 1 rfl) ?_
  refine lw_rd 1 hx hb hX hbl hbA hS hl hi hL4 (by decide) (by decide) dL_law_343 dL_law_344 dL_law_345 dL_law_346 dL_law_347 ?_
  refine lw_rd 2 hx hb hX hbl hbA hS hl hi hL4 (by decide) (by decide) dL_law_348 dL_law_349 dL_law_350 dL_law_351 dL_law_352 ?_
  refine ck_Vi (As := [.int (xs (i + 1)), .int (xs (i + 2))]) (rest := []) (wr := MW N am cm (nn 2) (nn 3) (ii 1) mn) C0 hP hD hS (u_X10_line l N ad shp c ch cs nn bt ct ns ii stf sl w (xs (i + 1)) (xs (i + 2))  hJ.1.1 hJ.1.2.2.1.2.1 hJ.2.2.2.1.1 hJ.2.2.2.1.2 (hJ.2.1.1 _ hJ.2.2.2.1.1) hJ.1.2.1.1) myX10_line k2_125 ⟨Nat.le_of_ble_eq_true rfl, Nat.le_of_ble_eq_true rfl⟩ _ _ (ckX_L _ _) 0 rfl rfl rfl rfl hl.1 rfl (Nat.le_of_ble_eq_true rfl) dL_law_353 ⟨by show cells + 16 ≤ 600000; omega, by show slots + 596 ≤ 7302250; omega⟩ (fun r1 u H locs hw hP hD hS => ?_)
  obtain ⟨fd2, nx2, hc2, stf2, ex2, tr4, hp1, rfl⟩ := hw
  have hP : va_P N.1 vwCl (MW N am cm (nn 2) (nn 3) (ii 1) mn ++ CW N ad shp (up1 c 0 tr4) ch cs (up1 (up1 nn 2 nx2) 3 hc2) bt ct ns (up1 ii 1 fd2) stf2 (up1 sl (nn 2) ex2)) H := hP
  have hD : va_D A (MW N am cm (nn 2) (nn 3) (ii 1) mn ++ CW N ad shp (up1 c 0 tr4) ch cs (up1 (up1 nn 2 nx2) 3 hc2) bt ct ns (up1 ii 1 fd2) stf2 (up1 sl (nn 2) ex2)) := hD
  refine lv_aload_n hx hb dL_law_356 rfl (lv_at hl 2 rfl) ?_
  refine lw_rd 1 hx hb hX hbl hbA hS hl hi hL4 (by decide) (by decide) dL_law_357 dL_law_358 dL_law_359 dL_law_360 dL_law_361 ?_
  refine lw_rd 2 hx hb hX hbl hbA hS hl hi hL4 (by decide) (by decide) dL_law_362 dL_law_363 dL_law_364 dL_law_365 dL_law_366 ?_
  refine ck_Vi (As := [.int (xs (i + 1)), .int (xs (i + 2))]) (rest := [.int r1]) (wr := CW N ad shp (up1 c 0 tr4) ch cs (up1 (up1 nn 2 nx2) 3 hc2) bt ct ns (up1 ii 1 fd2) stf2 (up1 sl (nn 2) ex2)) C0 hP hD hS (u_X11_line l N am cm (nn 2) (nn 3) (ii 1) mn (nn 0) (nn 1) (ii 0) (c 0) (c 1) (c 2) w (c 6) (c 9) (c 8) (c 7) (xs (i + 1)) (xs (i + 2)) hJ.1.2.2.2 hJ.1.2.2.1.2.1 hJ.2.2.2.1.1 hJ.2.2.2.1.2 hJ.1.2.1.1) myX11_line k4_109 ⟨Nat.le_of_ble_eq_true rfl, Nat.le_of_ble_eq_true rfl⟩ _ _ (ckX_L _ _) 0 rfl rfl rfl rfl hl.1 rfl (Nat.le_of_ble_eq_true rfl) dL_law_367 ⟨by show cells + 16 + 0 ≤ 600000; omega, by show slots + 596 + 0 ≤ 7302250; omega⟩ (fun r2 v H locs hw hP hD hS => ?_)
  obtain ⟨fd2m, ke2m, kn2m, nw4m, kp4m, hp2, rfl⟩ := hw
  have hP : va_P N.1 vwCl (CW N ad shp (up1 c 0 tr4) ch cs (up1 (up1 nn 2 nx2) 3 hc2) bt ct ns (up1 ii 1 fd2) stf2 (up1 sl (nn 2) ex2) ++ MW N am (up1 (up1 cm 0 nw4m) 1 kp4m) ke2m kn2m fd2m mn) H := hP
  have hD : va_D A (CW N ad shp (up1 c 0 tr4) ch cs (up1 (up1 nn 2 nx2) 3 hc2) bt ct ns (up1 ii 1 fd2) stf2 (up1 sl (nn 2) ex2) ++ MW N am (up1 (up1 cm 0 nw4m) 1 kp4m) ke2m kn2m fd2m mn) := hD
  obtain ⟨hr1, ho1⟩ := hp1
  obtain ⟨hr2, ho2⟩ := hp2
  obtain ⟨er, ef⟩ := ckRd_eq hr1 hr2
  subst ef
  refine lv_icmp_eq (tgt := 1238) hx hb dL_law_370 (by decide) (fun _ => ?_) (fun q => absurd er q)
  refine W.widen (k := cells + 16) (n := slots + 596) (by show cells + 16 + 0 ≤ cells + 16; omega) (by show slots + 596 + 0 ≤ slots + 596; omega) ?_
  rcases ho1 with ⟨hF, rfl, rfl, hk, rfl⟩ | ⟨hF, rfl, rfl, rfl, rfl, rfl⟩
  · rcases ho2 with ⟨-, rfl, rfl, rfl, hV4⟩ | ⟨q, -⟩
    · exact K (up1 c 0 (upd (c 0) (ix (xs (i + 1)) * 8 + 4) (xs (i + 2)))) ch cs (up1 (up1 nn 2 (((nn 2) + 1) % 20)) 3 (min ((nn 3) + 1) 20)) bt ct ns (up1 ii 1 fd2) stf2 (up1 sl (nn 2) ex2) w (up1 (up1 cm 0 nw4m) 1 (guT (cm 1) (572 * nn 2) (cm 0) 572)) mn H locs ⟨⟨hJ.1.1, iA_li hJ.1.2.1 hF, hJ.1.2.2.1, hV4⟩, JK_keep hJ.2.1 hJ.2.2.2.1.1 hJ.1 hk, hJ.2.2.1, ⟨Nat.mod_lt _ (by decide), Nat.min_le_right _ _⟩, hJ.2.2.2.2⟩ hP hD hS
    · exact absurd hF q
  · rcases ho2 with ⟨q, -⟩ | ⟨-, rfl, rfl, rfl, rfl⟩
    · exact absurd q hF
    · exact K (up1 c 0 ((c 0))) ch cs (up1 (up1 nn 2 ((nn 2))) 3 ((nn 3))) bt ct ns (up1 ii 1 fd2) _ (up1 sl (nn 2) ((sl (nn 2)))) w (up1 (up1 cm 0 (cm 0)) 1 (cm 1)) mn H locs ⟨⟨hJ.1.1, hJ.1.2.1, hJ.1.2.2.1, hJ.1.2.2.2⟩, by rw [up1_self]; exact hJ.2.1, hJ.2.2.1, hJ.2.2.2.1, hJ.2.2.2.2⟩ hP hD hS
set_option maxHeartbeats 4000000 in
set_option maxRecDepth 100000 in
theorem L_wind {p : Program} {l : Launch} {e : Env} {s : State} {m : MethodId} {below : List Frame} {meth : Method} {c0 : Code} {cells slots : Nat} {Q : State → Prop} {N : ckN} {A : Nat → Prop} {b L i : Nat} {xs : Nat → Int32} {ls : Array Slot} {ad am : Nat → Nat} {shp : Nat → Option Nat} {H : Heap} {locs : List Loc} {c ch cs : Nat → Nat → Int32} {nn bt ct ns : Nat → Nat} {ii : Nat → Int32} {stf : Nat → Option Nat} {sl : Nat → va_W} {w : Nat → List Nat} {cm : Nat → Nat → Int32} {mn : Nat} (hC : LC p s m c0 cells slots N A b L i xs ls ad am) (K : LK p l e s m below meth c0 cells slots Q N A b ls ad am shp) (hJ : Jv N ad shp c ch nn bt ct ii stf sl w cm) (hP : va_P N.1 vwCl (CW N ad shp c ch cs nn bt ct ns ii stf sl ++ MW N am cm (nn 2) (nn 3) (ii 1) mn) H) (hD : va_D A (CW N ad shp c ch cs nn bt ct ns ii stf sl ++ MW N am cm (nn 2) (nn 3) (ii 1) mn)) (hS : va_S A s.heap H locs) : W p l e room_1 s m #[Value.ref b] below meth c0 H locs cells slots Q (F0 m 375 ls []) := by
  obtain ⟨hx, hb, C0, hX, hbl, hbA, hi, hL4, hl, hcs1, hcs2⟩ := hC
  refine lv_aload_n hx hb dL_law_375 rfl (lv_at hl 1 rfl) ?_
  refine lw_rd 1 hx hb hX hbl hbA hS hl hi hL4 (by decide) (by decide) dL_law_376 dL_law_377 dL_law_378 dL_law_379 dL_law_380 ?_
  refine lw_rd 2 hx hb hX hbl hbA hS hl hi hL4 (by decide) (by decide) dL_law_381 dL_law_382 dL_law_383 dL_law_384 dL_law_385 ?_
  refine lw_rd 3 hx hb hX hbl hbA hS hl hi hL4 (by decide) (by decide) dL_law_386 dL_law_387 dL_law_388 dL_law_389 dL_law_390 ?_
  refine lw_rd 4 hx hb hX hbl hbA hS hl hi hL4 (by decide) (by decide) dL_law_391 dL_law_392 dL_law_393 dL_law_394 dL_law_395 ?_
  refine ck_Vi (As := [.int (xs (i + 1)), .int (xs (i + 2)), .int (xs (i + 3)), .int (xs (i + 4))]) (rest := []) (wr := MW N am cm (nn 2) (nn 3) (ii 1) mn) C0 hP hD hS (u_X10_wind l N ad shp c ch cs nn bt ct ns ii stf sl w (xs (i + 1)) (xs (i + 2)) (xs (i + 3)) (xs (i + 4))  hJ.1.1 hJ.1.2.2.1.2.1 hJ.2.2.2.1.1 hJ.2.2.2.1.2 (hJ.2.1.1 _ hJ.2.2.2.1.1)) myX10_wind k2_130 ⟨Nat.le_of_ble_eq_true rfl, Nat.le_of_ble_eq_true rfl⟩ _ _ (ckX_L _ _) 0 rfl rfl rfl rfl hl.1 rfl (Nat.le_of_ble_eq_true rfl) dL_law_396 ⟨by show cells + 16 ≤ 600000; omega, by show slots + 596 ≤ 7302250; omega⟩ (fun r1 u H locs hw hP hD hS => ?_)
  obtain ⟨fd2, nx2, hc2, stf2, ex2, di4, fo4, hp1, rfl⟩ := hw
  have hP : va_P N.1 vwCl (MW N am cm (nn 2) (nn 3) (ii 1) mn ++ CW N ad shp (up1 (up1 c 1 di4) 2 fo4) ch cs (up1 (up1 nn 2 nx2) 3 hc2) bt ct ns (up1 ii 1 fd2) stf2 (up1 sl (nn 2) ex2)) H := hP
  have hD : va_D A (MW N am cm (nn 2) (nn 3) (ii 1) mn ++ CW N ad shp (up1 (up1 c 1 di4) 2 fo4) ch cs (up1 (up1 nn 2 nx2) 3 hc2) bt ct ns (up1 ii 1 fd2) stf2 (up1 sl (nn 2) ex2)) := hD
  refine lv_aload_n hx hb dL_law_399 rfl (lv_at hl 2 rfl) ?_
  refine lw_rd 1 hx hb hX hbl hbA hS hl hi hL4 (by decide) (by decide) dL_law_400 dL_law_401 dL_law_402 dL_law_403 dL_law_404 ?_
  refine lw_rd 2 hx hb hX hbl hbA hS hl hi hL4 (by decide) (by decide) dL_law_405 dL_law_406 dL_law_407 dL_law_408 dL_law_409 ?_
  refine lw_rd 3 hx hb hX hbl hbA hS hl hi hL4 (by decide) (by decide) dL_law_410 dL_law_411 dL_law_412 dL_law_413 dL_law_414 ?_
  refine lw_rd 4 hx hb hX hbl hbA hS hl hi hL4 (by decide) (by decide) dL_law_415 dL_law_416 dL_law_417 dL_law_418 dL_law_419 ?_
  refine ck_Vi (As := [.int (xs (i + 1)), .int (xs (i + 2)), .int (xs (i + 3)), .int (xs (i + 4))]) (rest := [.int r1]) (wr := CW N ad shp (up1 (up1 c 1 di4) 2 fo4) ch cs (up1 (up1 nn 2 nx2) 3 hc2) bt ct ns (up1 ii 1 fd2) stf2 (up1 sl (nn 2) ex2)) C0 hP hD hS (u_X11_wind l N am cm (nn 2) (nn 3) (ii 1) mn (nn 0) (nn 1) (ii 0) (c 0) (c 1) (c 2) w (c 6) (c 9) (c 8) (c 7) (xs (i + 1)) (xs (i + 2)) (xs (i + 3)) (xs (i + 4)) hJ.1.2.2.2 hJ.1.2.2.1.2.1 hJ.2.2.2.1.1 hJ.2.2.2.1.2) myX11_wind k4_113 ⟨Nat.le_of_ble_eq_true rfl, Nat.le_of_ble_eq_true rfl⟩ _ _ (ckX_L _ _) 0 rfl rfl rfl rfl hl.1 rfl (Nat.le_of_ble_eq_true rfl) dL_law_420 ⟨by show cells + 16 + 0 ≤ 600000; omega, by show slots + 596 + 0 ≤ 7302250; omega⟩ (fun r2 v H locs hw hP hD hS => ?_)
  obtain ⟨fd2m, ke2m, kn2m, nw4m, kp4m, hp2, rfl⟩ := hw
  have hP : va_P N.1 vwCl (CW N ad shp (up1 (up1 c 1 di4) 2 fo4) ch cs (up1 (up1 nn 2 nx2) 3 hc2) bt ct ns (up1 ii 1 fd2) stf2 (up1 sl (nn 2) ex2) ++ MW N am (up1 (up1 cm 0 nw4m) 1 kp4m) ke2m kn2m fd2m mn) H := hP
  have hD : va_D A (CW N ad shp (up1 (up1 c 1 di4) 2 fo4) ch cs (up1 (up1 nn 2 nx2) 3 hc2) bt ct ns (up1 ii 1 fd2) stf2 (up1 sl (nn 2) ex2) ++ MW N am (up1 (up1 cm 0 nw4m) 1 kp4m) ke2m kn2m fd2m mn) := hD
  obtain ⟨hr1, ho1⟩ := hp1
  obtain ⟨hr2, ho2⟩ := hp2
  obtain ⟨er, ef⟩ := ckRd_eq hr1 hr2
  subst ef
  refine lv_icmp_eq (tgt := 1238) hx hb dL_law_423 (by decide) (fun _ => ?_) (fun q => absurd er q)
  refine W.widen (k := cells + 16) (n := slots + 596) (by show cells + 16 + 0 ≤ cells + 16; omega) (by show slots + 596 + 0 ≤ slots + 596; omega) ?_
  rcases ho1 with ⟨hF, rfl, rfl, hk, rfl, rfl⟩ | ⟨hF, rfl, rfl, rfl, rfl, rfl, rfl⟩
  · rcases ho2 with ⟨-, rfl, rfl, rfl, hV4⟩ | ⟨q, -⟩
    · exact K (up1 (up1 c 1 (upd (c 1) (ix (xs (i + 1)) * 20 + ix (xs (i + 2))) (xs (i + 3)))) 2 (upd (c 2) (ix (xs (i + 1)) * 20 + ix (xs (i + 2))) (xs (i + 4)))) ch cs (up1 (up1 nn 2 (((nn 2) + 1) % 20)) 3 (min ((nn 3) + 1) 20)) bt ct ns (up1 ii 1 fd2) stf2 (up1 sl (nn 2) ex2) w (up1 (up1 cm 0 nw4m) 1 (guT (cm 1) (572 * nn 2) (cm 0) 572)) mn H locs ⟨⟨hJ.1.1, iA_wi hJ.1.2.1 hF, hJ.1.2.2.1, hV4⟩, JK_keep hJ.2.1 hJ.2.2.2.1.1 hJ.1 hk, hJ.2.2.1, ⟨Nat.mod_lt _ (by decide), Nat.min_le_right _ _⟩, hJ.2.2.2.2⟩ hP hD hS
    · exact absurd hF q
  · rcases ho2 with ⟨q, -⟩ | ⟨-, rfl, rfl, rfl, rfl⟩
    · exact absurd q hF
    · exact K (up1 (up1 c 1 ((c 1))) 2 ((c 2))) ch cs (up1 (up1 nn 2 ((nn 2))) 3 ((nn 3))) bt ct ns (up1 ii 1 fd2) _ (up1 sl (nn 2) ((sl (nn 2)))) w (up1 (up1 cm 0 (cm 0)) 1 (cm 1)) mn H locs ⟨⟨hJ.1.1, hJ.1.2.1, hJ.1.2.2.1, hJ.1.2.2.2⟩, by rw [up1_self]; exact hJ.2.1, hJ.2.2.1, hJ.2.2.2.1, hJ.2.2.2.2⟩ hP hD hS
set_option maxHeartbeats 4000000 in
set_option maxRecDepth 100000 in
theorem L_sharp {p : Program} {l : Launch} {e : Env} {s : State} {m : MethodId} {below : List Frame} {meth : Method} {c0 : Code} {cells slots : Nat} {Q : State → Prop} {N : ckN} {A : Nat → Prop} {b L i : Nat} {xs : Nat → Int32} {ls : Array Slot} {ad am : Nat → Nat} {shp : Nat → Option Nat} {H : Heap} {locs : List Loc} {c ch cs : Nat → Nat → Int32} {nn bt ct ns : Nat → Nat} {ii : Nat → Int32} {stf : Nat → Option Nat} {sl : Nat → va_W} {w : Nat → List Nat} {cm : Nat → Nat → Int32} {mn : Nat} (hC : LC p s m c0 cells slots N A b L i xs ls ad am) (K : LK p l e s m below meth c0 cells slots Q N A b ls ad am shp) (hJ : Jv N ad shp c ch nn bt ct ii stf sl w cm) (hP : va_P N.1 vwCl (CW N ad shp c ch cs nn bt ct ns ii stf sl ++ MW N am cm (nn 2) (nn 3) (ii 1) mn) H) (hD : va_D A (CW N ad shp c ch cs nn bt ct ns ii stf sl ++ MW N am cm (nn 2) (nn 3) (ii 1) mn)) (hS : va_S A s.heap H locs) : W p l e room_1 s m #[Value.ref b] below meth c0 H locs cells slots Q (F0 m 941 ls []) := by
  obtain ⟨hx, hb, C0, hX, hbl, hbA, hi, hL4, hl, hcs1, hcs2⟩ := hC
  refine lv_aload_n hx hb dL_law_941 rfl (lv_at hl 1 rfl) ?_
  refine lw_rd 1 hx hb hX hbl hbA hS hl hi hL4 (by decide) (by decide) dL_law_942 dL_law_943 dL_law_944 dL_law_945 dL_law_946 ?_
  refine lw_rd 2 hx hb hX hbl hbA hS hl hi hL4 (by decide) (by decide) dL_law_947 dL_law_948 dL_law_949 dL_law_950 dL_law_951 ?_
  refine ck_Vi (As := [.int (xs (i + 1)), .int (xs (i + 2))]) (rest := []) (wr := MW N am cm (nn 2) (nn 3) (ii 1) mn) C0 hP hD hS (u_X10_sharp l N ad shp c ch cs nn bt ct ns ii stf sl w (xs (i + 1)) (xs (i + 2))  hJ.1.1 hJ.1.2.2.1.2.1 hJ.2.2.2.1.1 hJ.2.2.2.1.2 (hJ.2.1.1 _ hJ.2.2.2.1.1)) myX10_sharp k3_178 ⟨Nat.le_of_ble_eq_true rfl, Nat.le_of_ble_eq_true rfl⟩ _ _ (ckX_L _ _) 0 rfl rfl rfl rfl hl.1 rfl (Nat.le_of_ble_eq_true rfl) dL_law_952 ⟨by show cells + 16 ≤ 600000; omega, by show slots + 596 ≤ 7302250; omega⟩ (fun r1 u H locs hw hP hD hS => ?_)
  obtain ⟨fd2, nx2, hc2, stf2, ex2, sh4, hp1, rfl⟩ := hw
  have hP : va_P N.1 vwCl (MW N am cm (nn 2) (nn 3) (ii 1) mn ++ CW N ad shp (up1 c 8 sh4) ch cs (up1 (up1 nn 2 nx2) 3 hc2) bt ct ns (up1 ii 1 fd2) stf2 (up1 sl (nn 2) ex2)) H := hP
  have hD : va_D A (MW N am cm (nn 2) (nn 3) (ii 1) mn ++ CW N ad shp (up1 c 8 sh4) ch cs (up1 (up1 nn 2 nx2) 3 hc2) bt ct ns (up1 ii 1 fd2) stf2 (up1 sl (nn 2) ex2)) := hD
  refine lv_aload_n hx hb dL_law_955 rfl (lv_at hl 2 rfl) ?_
  refine lw_rd 1 hx hb hX hbl hbA hS hl hi hL4 (by decide) (by decide) dL_law_956 dL_law_957 dL_law_958 dL_law_959 dL_law_960 ?_
  refine lw_rd 2 hx hb hX hbl hbA hS hl hi hL4 (by decide) (by decide) dL_law_961 dL_law_962 dL_law_963 dL_law_964 dL_law_965 ?_
  refine ck_Vi (As := [.int (xs (i + 1)), .int (xs (i + 2))]) (rest := [.int r1]) (wr := CW N ad shp (up1 c 8 sh4) ch cs (up1 (up1 nn 2 nx2) 3 hc2) bt ct ns (up1 ii 1 fd2) stf2 (up1 sl (nn 2) ex2)) C0 hP hD hS (u_X11_sharp l N am cm (nn 2) (nn 3) (ii 1) mn (nn 0) (nn 1) (ii 0) (c 0) (c 1) (c 2) w (c 6) (c 9) (c 8) (c 7) (xs (i + 1)) (xs (i + 2)) hJ.1.2.2.2 hJ.1.2.2.1.2.1 hJ.2.2.2.1.1 hJ.2.2.2.1.2) myX11_sharp k5_26 ⟨Nat.le_of_ble_eq_true rfl, Nat.le_of_ble_eq_true rfl⟩ _ _ (ckX_L _ _) 0 rfl rfl rfl rfl hl.1 rfl (Nat.le_of_ble_eq_true rfl) dL_law_966 ⟨by show cells + 16 + 0 ≤ 600000; omega, by show slots + 596 + 0 ≤ 7302250; omega⟩ (fun r2 v H locs hw hP hD hS => ?_)
  obtain ⟨fd2m, ke2m, kn2m, nw4m, kp4m, hp2, rfl⟩ := hw
  have hP : va_P N.1 vwCl (CW N ad shp (up1 c 8 sh4) ch cs (up1 (up1 nn 2 nx2) 3 hc2) bt ct ns (up1 ii 1 fd2) stf2 (up1 sl (nn 2) ex2) ++ MW N am (up1 (up1 cm 0 nw4m) 1 kp4m) ke2m kn2m fd2m mn) H := hP
  have hD : va_D A (CW N ad shp (up1 c 8 sh4) ch cs (up1 (up1 nn 2 nx2) 3 hc2) bt ct ns (up1 ii 1 fd2) stf2 (up1 sl (nn 2) ex2) ++ MW N am (up1 (up1 cm 0 nw4m) 1 kp4m) ke2m kn2m fd2m mn) := hD
  obtain ⟨hr1, ho1⟩ := hp1
  obtain ⟨hr2, ho2⟩ := hp2
  obtain ⟨er, ef⟩ := ckRd_eq hr1 hr2
  subst ef
  refine lv_icmp_eq (tgt := 1238) hx hb dL_law_969 (by decide) (fun _ => ?_) (fun q => absurd er q)
  refine W.widen (k := cells + 16) (n := slots + 596) (by show cells + 16 + 0 ≤ cells + 16; omega) (by show slots + 596 + 0 ≤ slots + 596; omega) ?_
  rcases ho1 with ⟨hF, rfl, rfl, hk, rfl⟩ | ⟨hF, rfl, rfl, rfl, rfl, rfl⟩
  · rcases ho2 with ⟨-, rfl, rfl, rfl, hV4⟩ | ⟨q, -⟩
    · exact K (up1 c 8 (upd (c 8) (ix (xs (i + 1))) (xs (i + 2)))) ch cs (up1 (up1 nn 2 (((nn 2) + 1) % 20)) 3 (min ((nn 3) + 1) 20)) bt ct ns (up1 ii 1 fd2) stf2 (up1 sl (nn 2) ex2) w (up1 (up1 cm 0 nw4m) 1 (guT (cm 1) (572 * nn 2) (cm 0) 572)) mn H locs ⟨⟨hJ.1.1, hJ.1.2.1, hJ.1.2.2.1, hV4⟩, JK_keep hJ.2.1 hJ.2.2.2.1.1 hJ.1 hk, hJ.2.2.1, ⟨Nat.mod_lt _ (by decide), Nat.min_le_right _ _⟩, hJ.2.2.2.2⟩ hP hD hS
    · exact absurd hF q
  · rcases ho2 with ⟨q, -⟩ | ⟨-, rfl, rfl, rfl, rfl⟩
    · exact absurd q hF
    · exact K (up1 c 8 ((c 8))) ch cs (up1 (up1 nn 2 ((nn 2))) 3 ((nn 3))) bt ct ns (up1 ii 1 fd2) _ (up1 sl (nn 2) ((sl (nn 2)))) w (up1 (up1 cm 0 (cm 0)) 1 (cm 1)) mn H locs ⟨⟨hJ.1.1, hJ.1.2.1, hJ.1.2.2.1, hJ.1.2.2.2⟩, by rw [up1_self]; exact hJ.2.1, hJ.2.2.1, hJ.2.2.2.1, hJ.2.2.2.2⟩ hP hD hS
set_option maxHeartbeats 4000000 in
set_option maxRecDepth 100000 in
theorem L_row {p : Program} {l : Launch} {e : Env} {s : State} {m : MethodId} {below : List Frame} {meth : Method} {c0 : Code} {cells slots : Nat} {Q : State → Prop} {N : ckN} {A : Nat → Prop} {b L i : Nat} {xs : Nat → Int32} {ls : Array Slot} {ad am : Nat → Nat} {shp : Nat → Option Nat} {H : Heap} {locs : List Loc} {c ch cs : Nat → Nat → Int32} {nn bt ct ns : Nat → Nat} {ii : Nat → Int32} {stf : Nat → Option Nat} {sl : Nat → va_W} {w : Nat → List Nat} {cm : Nat → Nat → Int32} {mn : Nat} (hC : LC p s m c0 cells slots N A b L i xs ls ad am) (K : LK p l e s m below meth c0 cells slots Q N A b ls ad am shp) (hJ : Jv N ad shp c ch nn bt ct ii stf sl w cm) (hP : va_P N.1 vwCl (CW N ad shp c ch cs nn bt ct ns ii stf sl ++ MW N am cm (nn 2) (nn 3) (ii 1) mn) H) (hD : va_D A (CW N ad shp c ch cs nn bt ct ns ii stf sl ++ MW N am cm (nn 2) (nn 3) (ii 1) mn)) (hS : va_S A s.heap H locs) : W p l e room_1 s m #[Value.ref b] below meth c0 H locs cells slots Q (F0 m 701 ls []) := by
  obtain ⟨hx, hb, C0, hX, hbl, hbA, hi, hL4, hl, hcs1, hcs2⟩ := hC
  refine lv_aload_n hx hb dL_law_701 rfl (lv_at hl 1 rfl) ?_
  refine lw_rd 1 hx hb hX hbl hbA hS hl hi hL4 (by decide) (by decide) dL_law_702 dL_law_703 dL_law_704 dL_law_705 dL_law_706 ?_
  refine ck_Vi (As := [.int (xs (i + 1))]) (rest := []) (wr := MW N am cm (nn 2) (nn 3) (ii 1) mn) C0 hP hD hS (u_X10_row l N ad shp c ch cs nn bt ct ns ii stf sl w (xs (i + 1))  hJ.1.1 hJ.1.2.2.1.2.1 hJ.2.2.2.1.1 hJ.2.2.2.1.2 (hJ.2.1.1 _ hJ.2.2.2.1.1)) myX10_row k3_8 ⟨Nat.le_of_ble_eq_true rfl, Nat.le_of_ble_eq_true rfl⟩ _ _ (ckX_L _ _) 0 rfl rfl rfl rfl hl.1 rfl (Nat.le_of_ble_eq_true rfl) dL_law_707 ⟨by show cells + 16 ≤ 600000; omega, by show slots + 596 ≤ 7302250; omega⟩ (fun r1 u H locs hw hP hD hS => ?_)
  obtain ⟨fd2, nx2, hc2, stf2, ex2, lf4, gf4, sd4, tw4, sh4, wo4, n4, wk4, hp1, rfl⟩ := hw
  have hP : va_P N.1 vwCl (MW N am cm (nn 2) (nn 3) (ii 1) mn ++ CW N ad shp (up1 (up1 (up1 (up1 (up1 (up1 c 4 lf4) 5 gf4) 6 sd4) 7 tw4) 8 sh4) 9 wo4) ch cs (up1 (up1 (up1 nn 2 nx2) 3 hc2) 1 n4) bt ct ns (up1 (up1 ii 1 fd2) 0 wk4) stf2 (up1 sl (nn 2) ex2)) H := hP
  have hD : va_D A (MW N am cm (nn 2) (nn 3) (ii 1) mn ++ CW N ad shp (up1 (up1 (up1 (up1 (up1 (up1 c 4 lf4) 5 gf4) 6 sd4) 7 tw4) 8 sh4) 9 wo4) ch cs (up1 (up1 (up1 nn 2 nx2) 3 hc2) 1 n4) bt ct ns (up1 (up1 ii 1 fd2) 0 wk4) stf2 (up1 sl (nn 2) ex2)) := hD
  refine lv_aload_n hx hb dL_law_710 rfl (lv_at hl 2 rfl) ?_
  refine lw_rd 1 hx hb hX hbl hbA hS hl hi hL4 (by decide) (by decide) dL_law_711 dL_law_712 dL_law_713 dL_law_714 dL_law_715 ?_
  refine ck_Vi (As := [.int (xs (i + 1))]) (rest := [.int r1]) (wr := CW N ad shp (up1 (up1 (up1 (up1 (up1 (up1 c 4 lf4) 5 gf4) 6 sd4) 7 tw4) 8 sh4) 9 wo4) ch cs (up1 (up1 (up1 nn 2 nx2) 3 hc2) 1 n4) bt ct ns (up1 (up1 ii 1 fd2) 0 wk4) stf2 (up1 sl (nn 2) ex2)) C0 hP hD hS (u_X11_row l N am cm (nn 2) (nn 3) (ii 1) mn (nn 0) (nn 1) (ii 0) (c 0) (c 1) (c 2) w (c 6) (c 9) (c 8) (c 7) (xs (i + 1)) hJ.1.2.2.2 hJ.1.2.2.1.2.1 hJ.2.2.2.1.1 hJ.2.2.2.1.2) myX11_row k4_174 ⟨Nat.le_of_ble_eq_true rfl, Nat.le_of_ble_eq_true rfl⟩ _ _ (ckX_L _ _) 0 rfl rfl rfl rfl hl.1 rfl (Nat.le_of_ble_eq_true rfl) dL_law_716 ⟨by show cells + 16 + 0 ≤ 600000; omega, by show slots + 596 + 0 ≤ 7302250; omega⟩ (fun r2 v H locs hw hP hD hS => ?_)
  obtain ⟨fd2m, ke2m, kn2m, nw4m, kp4m, lo4m, bk4m, hp2, rfl⟩ := hw
  have hP : va_P N.1 vwCl (CW N ad shp (up1 (up1 (up1 (up1 (up1 (up1 c 4 lf4) 5 gf4) 6 sd4) 7 tw4) 8 sh4) 9 wo4) ch cs (up1 (up1 (up1 nn 2 nx2) 3 hc2) 1 n4) bt ct ns (up1 (up1 ii 1 fd2) 0 wk4) stf2 (up1 sl (nn 2) ex2) ++ MW N am (up1 (up1 (up1 (up1 cm 0 nw4m) 1 kp4m) 9 lo4m) 8 bk4m) ke2m kn2m fd2m mn) H := hP
  have hD : va_D A (CW N ad shp (up1 (up1 (up1 (up1 (up1 (up1 c 4 lf4) 5 gf4) 6 sd4) 7 tw4) 8 sh4) 9 wo4) ch cs (up1 (up1 (up1 nn 2 nx2) 3 hc2) 1 n4) bt ct ns (up1 (up1 ii 1 fd2) 0 wk4) stf2 (up1 sl (nn 2) ex2) ++ MW N am (up1 (up1 (up1 (up1 cm 0 nw4m) 1 kp4m) 9 lo4m) 8 bk4m) ke2m kn2m fd2m mn) := hD
  obtain ⟨hr1, ho1⟩ := hp1
  obtain ⟨hr2, ho2⟩ := hp2
  obtain ⟨er, ef⟩ := ckRd_eq hr1 hr2
  subst ef
  refine lv_icmp_eq (tgt := 1238) hx hb dL_law_719 (by decide) (fun _ => ?_) (fun q => absurd er q)
  refine W.widen (k := cells + 16) (n := slots + 596) (by show cells + 16 + 0 ≤ cells + 16; omega) (by show slots + 596 + 0 ≤ slots + 596; omega) ?_
  rcases ho1 with ⟨hF, rfl, rfl, hk, rfl, rfl, hwd, hsd, hsh, hwo, htw⟩ | ⟨hF, rfl, rfl, rfl, rfl, rfl, rfl, rfl, rfl, rfl, rfl, rfl, rfl⟩
  · rcases ho2 with ⟨-, rfl, rfl, rfl, hV4⟩ | ⟨q, -⟩
    · exact K (up1 (up1 (up1 (up1 (up1 (up1 c 4 lf4) 5 gf4) 6 sd4) 7 tw4) 8 sh4) 9 wo4) ch cs (up1 (up1 (up1 nn 2 (((nn 2) + 1) % 20)) 3 (min ((nn 3) + 1) 20)) 1 (ix (xs (i + 1)))) bt ct ns (up1 (up1 ii 1 fd2) 0 (nI 0)) stf2 (up1 sl (nn 2) ex2) first0 (up1 (up1 (up1 (up1 cm 0 nw4m) 1 (guT (cm 1) (572 * nn 2) (cm 0) 572)) 9 lo4m) 8 bk4m) mn H locs ⟨⟨hwd, hJ.1.2.1, iR_0 (rw_ix hF).1 (rw_ix hF).2 hsd, mV_view hV4 (fun _ _ => rfl) (fun _ _ => rfl) (fun _ _ => rfl) hsd hwo hsh htw⟩, JK_keep hJ.2.1 hJ.2.2.2.1.1 hJ.1 hk, hJ.2.2.1, ⟨Nat.mod_lt _ (by decide), Nat.min_le_right _ _⟩, hJ.2.2.2.2⟩ hP hD hS
    · exact absurd hF q
  · rcases ho2 with ⟨q, -⟩ | ⟨-, rfl, rfl, rfl, rfl⟩
    · exact absurd q hF
    · exact K (up1 (up1 (up1 (up1 (up1 (up1 c 4 ((c 4))) 5 ((c 5))) 6 ((c 6))) 7 ((c 7))) 8 ((c 8))) 9 ((c 9))) ch cs (up1 (up1 (up1 nn 2 ((nn 2))) 3 ((nn 3))) 1 ((nn 1))) bt ct ns (up1 (up1 ii 1 fd2) 0 ((ii 0))) _ (up1 sl (nn 2) ((sl (nn 2)))) w (up1 (up1 (up1 (up1 cm 0 (cm 0)) 1 (cm 1)) 9 lo4m) 8 bk4m) mn H locs ⟨⟨hJ.1.1, hJ.1.2.1, hJ.1.2.2.1, hJ.1.2.2.2⟩, by rw [up1_self]; exact hJ.2.1, hJ.2.2.1, hJ.2.2.2.1, hJ.2.2.2.2⟩ hP hD hS
set_option maxHeartbeats 4000000 in
set_option maxRecDepth 100000 in
theorem L_walk {p : Program} {l : Launch} {e : Env} {s : State} {m : MethodId} {below : List Frame} {meth : Method} {c0 : Code} {cells slots : Nat} {Q : State → Prop} {N : ckN} {A : Nat → Prop} {b L i : Nat} {xs : Nat → Int32} {ls : Array Slot} {ad am : Nat → Nat} {shp : Nat → Option Nat} {H : Heap} {locs : List Loc} {c ch cs : Nat → Nat → Int32} {nn bt ct ns : Nat → Nat} {ii : Nat → Int32} {stf : Nat → Option Nat} {sl : Nat → va_W} {w : Nat → List Nat} {cm : Nat → Nat → Int32} {mn : Nat} (hC : LC p s m c0 cells slots N A b L i xs ls ad am) (K : LK p l e s m below meth c0 cells slots Q N A b ls ad am shp) (hJ : Jv N ad shp c ch nn bt ct ii stf sl w cm) (hP : va_P N.1 vwCl (CW N ad shp c ch cs nn bt ct ns ii stf sl ++ MW N am cm (nn 2) (nn 3) (ii 1) mn) H) (hD : va_D A (CW N ad shp c ch cs nn bt ct ns ii stf sl ++ MW N am cm (nn 2) (nn 3) (ii 1) mn)) (hS : va_S A s.heap H locs) : W p l e room_1 s m #[Value.ref b] below meth c0 H locs cells slots Q (F0 m 724 ls []) := by
  obtain ⟨hx, hb, C0, hX, hbl, hbA, hi, hL4, hl, hcs1, hcs2⟩ := hC
  refine lv_aload_n hx hb dL_law_724 rfl (lv_at hl 1 rfl) ?_
  refine lw_rd 1 hx hb hX hbl hbA hS hl hi hL4 (by decide) (by decide) dL_law_725 dL_law_726 dL_law_727 dL_law_728 dL_law_729 ?_
  refine lw_rd 2 hx hb hX hbl hbA hS hl hi hL4 (by decide) (by decide) dL_law_730 dL_law_731 dL_law_732 dL_law_733 dL_law_734 ?_
  refine lw_nz hx hb dL_law_735 dL_law_738 dL_law_739 dL_law_742 ?_
  refine ck_Vi (As := [.int (xs (i + 1)), .int (b2i (decide (xs (i + 2) ≠ 0)))]) (rest := []) (wr := MW N am cm (nn 2) (nn 3) (ii 1) mn) C0 hP hD hS (u_X10_walk l N ad shp c ch cs nn bt ct ns ii stf sl w (xs (i + 1)) (decide (xs (i + 2) ≠ 0))  hJ.1.1 hJ.1.2.2.1.2.1 hJ.2.2.2.1.1 hJ.2.2.2.1.2 (hJ.2.1.1 _ hJ.2.2.2.1.1) hJ.1.2.1.1 hJ.1.2.2.1.1 hJ.1.2.2.1.2.2.2) myX10_walk k3_16 ⟨Nat.le_of_ble_eq_true rfl, Nat.le_of_ble_eq_true rfl⟩ _ _ (ckX_L _ _) 0 rfl rfl rfl rfl hl.1 rfl (Nat.le_of_ble_eq_true rfl) dL_law_743 ⟨by show cells + 16 ≤ 600000; omega, by show slots + 596 ≤ 7302250; omega⟩ (fun r1 u H locs hw hP hD hS => ?_)
  obtain ⟨fd2, nx2, hc2, stf2, ex2, lf4, gf4, sd4, tw4, wo4, wk4, jl4, jn4, hp1, rfl⟩ := hw
  have hP : va_P N.1 vwCl (MW N am cm (nn 2) (nn 3) (ii 1) mn ++ CW N ad shp (up1 (up1 (up1 (up1 (up1 c 4 lf4) 5 gf4) 6 sd4) 7 tw4) 9 wo4) ch (up1 cs 0 jl4) (up1 (up1 nn 2 nx2) 3 hc2) bt ct ns (up1 (up1 (up1 ii 1 fd2) 0 wk4) 2 jn4) stf2 (up1 sl (nn 2) ex2)) H := hP
  have hD : va_D A (MW N am cm (nn 2) (nn 3) (ii 1) mn ++ CW N ad shp (up1 (up1 (up1 (up1 (up1 c 4 lf4) 5 gf4) 6 sd4) 7 tw4) 9 wo4) ch (up1 cs 0 jl4) (up1 (up1 nn 2 nx2) 3 hc2) bt ct ns (up1 (up1 (up1 ii 1 fd2) 0 wk4) 2 jn4) stf2 (up1 sl (nn 2) ex2)) := hD
  refine lv_aload_n hx hb dL_law_746 rfl (lv_at hl 2 rfl) ?_
  refine lw_rd 1 hx hb hX hbl hbA hS hl hi hL4 (by decide) (by decide) dL_law_747 dL_law_748 dL_law_749 dL_law_750 dL_law_751 ?_
  refine lw_rd 2 hx hb hX hbl hbA hS hl hi hL4 (by decide) (by decide) dL_law_752 dL_law_753 dL_law_754 dL_law_755 dL_law_756 ?_
  refine lw_nz hx hb dL_law_757 dL_law_760 dL_law_761 dL_law_764 ?_
  refine ck_Vi (As := [.int (xs (i + 1)), .int (b2i (decide (xs (i + 2) ≠ 0)))]) (rest := [.int r1]) (wr := CW N ad shp (up1 (up1 (up1 (up1 (up1 c 4 lf4) 5 gf4) 6 sd4) 7 tw4) 9 wo4) ch (up1 cs 0 jl4) (up1 (up1 nn 2 nx2) 3 hc2) bt ct ns (up1 (up1 (up1 ii 1 fd2) 0 wk4) 2 jn4) stf2 (up1 sl (nn 2) ex2)) C0 hP hD hS (u_X11_walk l N am cm (nn 2) (nn 3) (ii 1) mn (nn 0) (nn 1) (ii 0) (c 0) (c 1) (c 2) w (c 6) (c 9) (c 8) (c 7) (fun k => ix (c 6 k)) (xs (i + 1)) (decide (xs (i + 2) ≠ 0)) hJ.1.2.2.2 hJ.1.2.2.1.2.1 hJ.2.2.2.1.1 hJ.2.2.2.1.2 hJ.1.2.1.1 hJ.1.2.2.1.1 hJ.1.2.2.1.2.2.1 hJ.1.2.2.1.2.2.2) myX11_walk k4_178 ⟨Nat.le_of_ble_eq_true rfl, Nat.le_of_ble_eq_true rfl⟩ _ _ (ckX_L _ _) 0 rfl rfl rfl rfl hl.1 rfl (Nat.le_of_ble_eq_true rfl) dL_law_765 ⟨by show cells + 16 + 0 ≤ 600000; omega, by show slots + 596 + 0 ≤ 7302250; omega⟩ (fun r2 v H locs hw hP hD hS => ?_)
  obtain ⟨fd2m, ke2m, kn2m, nw4m, kp4m, lo4m, bk4m, md4m, mn2m, hp2, rfl⟩ := hw
  have hP : va_P N.1 vwCl (CW N ad shp (up1 (up1 (up1 (up1 (up1 c 4 lf4) 5 gf4) 6 sd4) 7 tw4) 9 wo4) ch (up1 cs 0 jl4) (up1 (up1 nn 2 nx2) 3 hc2) bt ct ns (up1 (up1 (up1 ii 1 fd2) 0 wk4) 2 jn4) stf2 (up1 sl (nn 2) ex2) ++ MW N am (up1 (up1 (up1 (up1 (up1 cm 0 nw4m) 1 kp4m) 9 lo4m) 8 bk4m) 10 md4m) ke2m kn2m fd2m mn2m) H := hP
  have hD : va_D A (CW N ad shp (up1 (up1 (up1 (up1 (up1 c 4 lf4) 5 gf4) 6 sd4) 7 tw4) 9 wo4) ch (up1 cs 0 jl4) (up1 (up1 nn 2 nx2) 3 hc2) bt ct ns (up1 (up1 (up1 ii 1 fd2) 0 wk4) 2 jn4) stf2 (up1 sl (nn 2) ex2) ++ MW N am (up1 (up1 (up1 (up1 (up1 cm 0 nw4m) 1 kp4m) 9 lo4m) 8 bk4m) 10 md4m) ke2m kn2m fd2m mn2m) := hD
  obtain ⟨hr1, ho1⟩ := hp1
  obtain ⟨hr2, ho2⟩ := hp2
  obtain ⟨er, ef⟩ := ckRd_eq hr1 hr2
  subst ef
  refine lv_icmp_eq (tgt := 1238) hx hb dL_law_768 (by decide) (fun _ => ?_) (fun q => absurd er q)
  refine W.widen (k := cells + 16) (n := slots + 596) (by show cells + 16 + 0 ≤ cells + 16; omega) (by show slots + 596 + 0 ≤ slots + 596; omega) ?_
  rcases ho1 with ⟨hF, rfl, rfl, hk, hwd, rfl, rfl, rfl, rfl⟩ | ⟨hF, rfl, rfl, rfl, rfl, rfl, rfl, rfl, rfl, rfl, rfl⟩
  · rcases ho2 with ⟨-, rfl, rfl, rfl, hV4⟩ | ⟨q, -⟩
    · exact K (up1 (up1 (up1 (up1 (up1 c 4 lf4) 5 gf4) 6 (upd (upd (c 6) (ix (xs (i + 1))) (nI ((fun k => ix (c 6 k)) (ix (xs (i + 1)) + 1)))) (ix (xs (i + 1)) + 1) (nI ((fun k => ix (c 6 k)) (ix (xs (i + 1))))))) 7 (upd (c 7) (5 * min ((fun k => ix (c 6 k)) (ix (xs (i + 1)))) ((fun k => ix (c 6 k)) (ix (xs (i + 1)) + 1)) + max ((fun k => ix (c 6 k)) (ix (xs (i + 1)))) ((fun k => ix (c 6 k)) (ix (xs (i + 1)) + 1))) ((c 7) (5 * min ((fun k => ix (c 6 k)) (ix (xs (i + 1)))) ((fun k => ix (c 6 k)) (ix (xs (i + 1)) + 1)) + max ((fun k => ix (c 6 k)) (ix (xs (i + 1)))) ((fun k => ix (c 6 k)) (ix (xs (i + 1)) + 1))) + ckTw (decide (xs (i + 2) ≠ 0))))) 9 (upd (upd (c 9) ((fun k => ix (c 6 k)) (ix (xs (i + 1)))) ((c 9) ((fun k => ix (c 6 k)) (ix (xs (i + 1)))) + ckBite (c 0) (nn 0) (c 8) ((fun k => ix (c 6 k)) (ix (xs (i + 1)) + 1)))) ((fun k => ix (c 6 k)) (ix (xs (i + 1)) + 1)) ((upd (c 9) ((fun k => ix (c 6 k)) (ix (xs (i + 1)))) ((c 9) ((fun k => ix (c 6 k)) (ix (xs (i + 1)))) + ckBite (c 0) (nn 0) (c 8) ((fun k => ix (c 6 k)) (ix (xs (i + 1)) + 1)))) ((fun k => ix (c 6 k)) (ix (xs (i + 1)) + 1)) + ckBite (c 0) (nn 0) (c 8) ((fun k => ix (c 6 k)) (ix (xs (i + 1))))))) ch (up1 cs 0 jl4) (up1 (up1 nn 2 (((nn 2) + 1) % 20)) 3 (min ((nn 3) + 1) 20)) bt ct ns (up1 (up1 (up1 ii 1 fd2) 0 ((ii 0) + nI 1)) 2 jn4) stf2 (up1 sl (nn 2) ex2) (ckStep w (ix (xs (i + 1))) (decide (xs (i + 2) ≠ 0))) (up1 (up1 (up1 (up1 (up1 cm 0 nw4m) 1 (guT (cm 1) (572 * nn 2) (cm 0) 572)) 9 lo4m) 8 bk4m) 10 md4m) mn2m H locs ⟨⟨hwd, hJ.1.2.1, iR_wl hJ.1.2.2.1 hF, hV4⟩, JK_keep hJ.2.1 hJ.2.2.2.1.1 hJ.1 hk, hJ.2.2.1, ⟨Nat.mod_lt _ (by decide), Nat.min_le_right _ _⟩, hJ.2.2.2.2⟩ hP hD hS
    · exact absurd hF q
  · rcases ho2 with ⟨q, -⟩ | ⟨-, rfl, rfl, rfl, rfl⟩
    · exact absurd q hF
    · exact K (up1 (up1 (up1 (up1 (up1 c 4 ((c 4))) 5 ((c 5))) 6 ((c 6))) 7 ((c 7))) 9 ((c 9))) ch (up1 cs 0 jl4) (up1 (up1 nn 2 ((nn 2))) 3 ((nn 3))) bt ct ns (up1 (up1 (up1 ii 1 fd2) 0 ((ii 0))) 2 jn4) _ (up1 sl (nn 2) ((sl (nn 2)))) w (up1 (up1 (up1 (up1 (up1 cm 0 (cm 0)) 1 (cm 1)) 9 lo4m) 8 bk4m) 10 md4m) mn2m H locs ⟨⟨hJ.1.1, hJ.1.2.1, hJ.1.2.2.1, hJ.1.2.2.2⟩, by rw [up1_self]; exact hJ.2.1, hJ.2.2.1, hJ.2.2.2.1, hJ.2.2.2.2⟩ hP hD hS
set_option maxHeartbeats 4000000 in
set_option maxRecDepth 100000 in
theorem L_gusts {p : Program} {l : Launch} {e : Env} {s : State} {m : MethodId} {below : List Frame} {meth : Method} {c0 : Code} {cells slots : Nat} {Q : State → Prop} {N : ckN} {A : Nat → Prop} {b L i : Nat} {xs : Nat → Int32} {ls : Array Slot} {ad am : Nat → Nat} {shp : Nat → Option Nat} {H : Heap} {locs : List Loc} {c ch cs : Nat → Nat → Int32} {nn bt ct ns : Nat → Nat} {ii : Nat → Int32} {stf : Nat → Option Nat} {sl : Nat → va_W} {w : Nat → List Nat} {cm : Nat → Nat → Int32} {mn : Nat} (hC : LC p s m c0 cells slots N A b L i xs ls ad am) (K : LK p l e s m below meth c0 cells slots Q N A b ls ad am shp) (hJ : Jv N ad shp c ch nn bt ct ii stf sl w cm) (hP : va_P N.1 vwCl (CW N ad shp c ch cs nn bt ct ns ii stf sl ++ MW N am cm (nn 2) (nn 3) (ii 1) mn) H) (hD : va_D A (CW N ad shp c ch cs nn bt ct ns ii stf sl ++ MW N am cm (nn 2) (nn 3) (ii 1) mn)) (hS : va_S A s.heap H locs) : W p l e room_1 s m #[Value.ref b] below meth c0 H locs cells slots Q (F0 m 1159 ls []) := by
  obtain ⟨hx, hb, C0, hX, hbl, hbA, hi, hL4, hl, hcs1, hcs2⟩ := hC
  by_cases hb3 : ckIn (xs (i + 3)) (nI 0) (nI 3) = true
  · obtain ⟨s1, -, hs1, ex⟩ := (ckIn_n (by decide) (by decide)).mp hb3
    have hs1 : s1 < 4 := by omega
    refine lv_aload_n hx hb dL_law_1159 rfl (lv_at hl 1 rfl) ?_
    refine lw_rd 1 hx hb hX hbl hbA hS hl hi hL4 (by decide) (by decide) dL_law_1160 dL_law_1161 dL_law_1162 dL_law_1163 dL_law_1164 ?_
    refine lw_rd 2 hx hb hX hbl hbA hS hl hi hL4 (by decide) (by decide) dL_law_1165 dL_law_1166 dL_law_1167 dL_law_1168 dL_law_1169 ?_
    refine lw_rd 3 hx hb hX hbl hbA hS hl hi hL4 (by decide) (by decide) dL_law_1170 dL_law_1171 dL_law_1172 dL_law_1173 dL_law_1174 ?_
    refine ck_Vi (As := [.int (xs (i + 1)), .int (xs (i + 2)), .int (nI s1)]) (rest := []) (wr := MW N am cm (nn 2) (nn 3) (ii 1) mn) C0 hP hD hS (u_X10_gusts_k l N ad shp c ch cs nn bt ct ns ii stf sl s1 w (xs (i + 1)) (xs (i + 2))  hJ.1.1 hJ.1.2.2.1.2.1 hJ.2.2.2.1.1 hJ.2.2.2.1.2 (hJ.2.1.1 _ hJ.2.2.2.1.1) hs1 (hJ.2.2.1 s1 hs1).1 (hJ.2.2.1 s1 hs1).2.1 (by have q := (hJ.2.2.1 s1 hs1).2.2.1; omega)) myX10_gusts k3_215 ⟨Nat.le_of_ble_eq_true rfl, Nat.le_of_ble_eq_true rfl⟩ _ _ (ckX_L _ _) 0 rfl rfl rfl rfl hl.1 (by rw [ex]; rfl) (Nat.le_of_ble_eq_true rfl) dL_law_1175 ⟨by show cells + 16 ≤ 600000; omega, by show slots + 596 ≤ 7302250; omega⟩ (fun r1 u H locs hw hP hD hS => ?_)
    obtain ⟨fd2, nx2, hc2, stf2, ex2, fo4, hp1, rfl⟩ := hw
    have hP : va_P N.1 vwCl (MW N am cm (nn 2) (nn 3) (ii 1) mn ++ CW N ad shp (up1 c 2 fo4) ch cs (up1 (up1 nn 2 nx2) 3 hc2) bt ct ns (up1 ii 1 fd2) stf2 (up1 sl (nn 2) ex2)) H := hP
    have hD : va_D A (MW N am cm (nn 2) (nn 3) (ii 1) mn ++ CW N ad shp (up1 c 2 fo4) ch cs (up1 (up1 nn 2 nx2) 3 hc2) bt ct ns (up1 ii 1 fd2) stf2 (up1 sl (nn 2) ex2)) := hD
    refine lv_aload_n hx hb dL_law_1178 rfl (lv_at hl 2 rfl) ?_
    refine lw_rd 1 hx hb hX hbl hbA hS hl hi hL4 (by decide) (by decide) dL_law_1179 dL_law_1180 dL_law_1181 dL_law_1182 dL_law_1183 ?_
    refine lw_rd 2 hx hb hX hbl hbA hS hl hi hL4 (by decide) (by decide) dL_law_1184 dL_law_1185 dL_law_1186 dL_law_1187 dL_law_1188 ?_
    refine lw_rd 3 hx hb hX hbl hbA hS hl hi hL4 (by decide) (by decide) dL_law_1189 dL_law_1190 dL_law_1191 dL_law_1192 dL_law_1193 ?_
    refine ck_Vi (As := [.int (xs (i + 1)), .int (xs (i + 2)), .int (nI s1)]) (rest := [.int r1]) (wr := CW N ad shp (up1 c 2 fo4) ch cs (up1 (up1 nn 2 nx2) 3 hc2) bt ct ns (up1 ii 1 fd2) stf2 (up1 sl (nn 2) ex2)) C0 hP hD hS (u_X11_gusts_k l N am cm (nn 2) (nn 3) (ii 1) mn (nn 0) (nn 1) (ii 0) (c 0) (c 1) (c 2) w (c 6) (c 9) (c 8) (c 7) s1 (bt s1) (ct s1) (ch s1) (xs (i + 1)) (xs (i + 2)) hJ.1.2.2.2 hJ.1.2.2.1.2.1 hJ.2.2.2.1.1 hJ.2.2.2.1.2 hs1 (hJ.2.2.1 s1 hs1).2.2.2.1 (hJ.2.2.1 s1 hs1).2.2.2.2.1 (hJ.2.2.1 s1 hs1).2.2.2.2.2 (hJ.2.2.1 s1 hs1).2.1 (by have q := (hJ.2.2.1 s1 hs1).2.2.1; omega)) myX11_gusts k5_50 ⟨Nat.le_of_ble_eq_true rfl, Nat.le_of_ble_eq_true rfl⟩ _ _ (ckX_L _ _) 0 rfl rfl rfl rfl hl.1 (by rw [ex]; rfl) (Nat.le_of_ble_eq_true rfl) dL_law_1194 ⟨by show cells + 16 + 0 ≤ 600000; omega, by show slots + 596 + 0 ≤ 7302250; omega⟩ (fun r2 v H locs hw hP hD hS => ?_)
    obtain ⟨fd2m, ke2m, kn2m, nw4m, kp4m, hp2, rfl⟩ := hw
    have hP : va_P N.1 vwCl (CW N ad shp (up1 c 2 fo4) ch cs (up1 (up1 nn 2 nx2) 3 hc2) bt ct ns (up1 ii 1 fd2) stf2 (up1 sl (nn 2) ex2) ++ MW N am (up1 (up1 cm 0 nw4m) 1 kp4m) ke2m kn2m fd2m mn) H := hP
    have hD : va_D A (CW N ad shp (up1 c 2 fo4) ch cs (up1 (up1 nn 2 nx2) 3 hc2) bt ct ns (up1 ii 1 fd2) stf2 (up1 sl (nn 2) ex2) ++ MW N am (up1 (up1 cm 0 nw4m) 1 kp4m) ke2m kn2m fd2m mn) := hD
    obtain ⟨hr1, ho1⟩ := hp1
    obtain ⟨hr2, ho2⟩ := hp2
    obtain ⟨er, ef⟩ := ckRd_eq hr1 hr2
    subst ef
    refine lv_icmp_eq (tgt := 1238) hx hb dL_law_1197 (by decide) (fun _ => ?_) (fun q => absurd er q)
    refine W.widen (k := cells + 16) (n := slots + 596) (by show cells + 16 + 0 ≤ cells + 16; omega) (by show slots + 596 + 0 ≤ slots + 596; omega) ?_
    rcases ho1 with ⟨hF, rfl, rfl, hk, rfl⟩ | ⟨hF, rfl, rfl, rfl, rfl, rfl⟩
    · rcases ho2 with ⟨-, rfl, rfl, rfl, hV4⟩ | ⟨q, -⟩
      · exact K (up1 c 2 (guT (c 2) (ix (xs (i + 1)) * 20 + ix (xs (i + 2))) (ch s1) (ct s1))) ch cs (up1 (up1 nn 2 (((nn 2) + 1) % 20)) 3 (min ((nn 3) + 1) 20)) bt ct ns (up1 ii 1 fd2) stf2 (up1 sl (nn 2) ex2) w (up1 (up1 cm 0 nw4m) 1 (guT (cm 1) (572 * nn 2) (cm 0) 572)) mn H locs ⟨⟨hJ.1.1, iA_gu hJ.1.2.1 hF, hJ.1.2.2.1, hV4⟩, JK_keep hJ.2.1 hJ.2.2.2.1.1 hJ.1 hk, hJ.2.2.1, ⟨Nat.mod_lt _ (by decide), Nat.min_le_right _ _⟩, hJ.2.2.2.2⟩ hP hD hS
      · exact absurd hF q
    · rcases ho2 with ⟨q, -⟩ | ⟨-, rfl, rfl, rfl, rfl⟩
      · exact absurd q hF
      · exact K (up1 c 2 ((c 2))) ch cs (up1 (up1 nn 2 ((nn 2))) 3 ((nn 3))) bt ct ns (up1 ii 1 fd2) _ (up1 sl (nn 2) ((sl (nn 2)))) w (up1 (up1 cm 0 (cm 0)) 1 (cm 1)) mn H locs ⟨⟨hJ.1.1, hJ.1.2.1, hJ.1.2.2.1, hJ.1.2.2.2⟩, by rw [up1_self]; exact hJ.2.1, hJ.2.2.1, hJ.2.2.2.1, hJ.2.2.2.2⟩ hP hD hS
  · have hbad : ckIn (xs (i + 3)) (nI 0) (nI 3) = false := eq_false_of_ne_true hb3
    refine lv_aload_n hx hb dL_law_1159 rfl (lv_at hl 1 rfl) ?_
    refine lw_rd 1 hx hb hX hbl hbA hS hl hi hL4 (by decide) (by decide) dL_law_1160 dL_law_1161 dL_law_1162 dL_law_1163 dL_law_1164 ?_
    refine lw_rd 2 hx hb hX hbl hbA hS hl hi hL4 (by decide) (by decide) dL_law_1165 dL_law_1166 dL_law_1167 dL_law_1168 dL_law_1169 ?_
    refine lw_rd 3 hx hb hX hbl hbA hS hl hi hL4 (by decide) (by decide) dL_law_1170 dL_law_1171 dL_law_1172 dL_law_1173 dL_law_1174 ?_
    refine ck_Vi (As := [.int (xs (i + 1)), .int (xs (i + 2)), .int (xs (i + 3))]) (rest := []) (wr := MW N am cm (nn 2) (nn 3) (ii 1) mn) C0 hP hD hS (u_X10_gusts_f l N ad shp c ch cs nn bt ct ns ii stf sl (xs (i + 1)) (xs (i + 2)) (xs (i + 3))  hbad) myX10_gusts k3_215 ⟨Nat.le_of_ble_eq_true rfl, Nat.le_of_ble_eq_true rfl⟩ _ _ (ckX_L _ _) 0 rfl rfl rfl rfl hl.1 rfl (Nat.le_of_ble_eq_true rfl) dL_law_1175 ⟨by show cells + 0 ≤ 600000; omega, by show slots + 0 ≤ 7302250; omega⟩ (fun r1 u H locs hw hP hD hS => ?_)
    obtain ⟨fd2, hp1, rfl⟩ := hw
    have hP : va_P N.1 vwCl (MW N am cm (nn 2) (nn 3) (ii 1) mn ++ CW N ad shp c ch cs nn bt ct ns (up1 ii 1 fd2) stf sl) H := hP
    have hD : va_D A (MW N am cm (nn 2) (nn 3) (ii 1) mn ++ CW N ad shp c ch cs nn bt ct ns (up1 ii 1 fd2) stf sl) := hD
    refine lv_aload_n hx hb dL_law_1178 rfl (lv_at hl 2 rfl) ?_
    refine lw_rd 1 hx hb hX hbl hbA hS hl hi hL4 (by decide) (by decide) dL_law_1179 dL_law_1180 dL_law_1181 dL_law_1182 dL_law_1183 ?_
    refine lw_rd 2 hx hb hX hbl hbA hS hl hi hL4 (by decide) (by decide) dL_law_1184 dL_law_1185 dL_law_1186 dL_law_1187 dL_law_1188 ?_
    refine lw_rd 3 hx hb hX hbl hbA hS hl hi hL4 (by decide) (by decide) dL_law_1189 dL_law_1190 dL_law_1191 dL_law_1192 dL_law_1193 ?_
    refine ck_Vi (As := [.int (xs (i + 1)), .int (xs (i + 2)), .int (xs (i + 3))]) (rest := [.int r1]) (wr := CW N ad shp c ch cs nn bt ct ns (up1 ii 1 fd2) stf sl) C0 hP hD hS (u_X11_gusts_f l N am cm (nn 2) (nn 3) (ii 1) mn (xs (i + 1)) (xs (i + 2)) (xs (i + 3)) hbad) myX11_gusts k5_50 ⟨Nat.le_of_ble_eq_true rfl, Nat.le_of_ble_eq_true rfl⟩ _ _ (ckX_L _ _) 0 rfl rfl rfl rfl hl.1 rfl (Nat.le_of_ble_eq_true rfl) dL_law_1194 ⟨by show cells + 0 + 0 ≤ 600000; omega, by show slots + 0 + 0 ≤ 7302250; omega⟩ (fun r2 v H locs hw hP hD hS => ?_)
    obtain ⟨fd2m, hp2, rfl⟩ := hw
    have hP : va_P N.1 vwCl (CW N ad shp c ch cs nn bt ct ns (up1 ii 1 fd2) stf sl ++ MW N am cm (nn 2) (nn 3) fd2m mn) H := hP
    have hD : va_D A (CW N ad shp c ch cs nn bt ct ns (up1 ii 1 fd2) stf sl ++ MW N am cm (nn 2) (nn 3) fd2m mn) := hD
    obtain ⟨er, ef⟩ := ckRd_eq hp1 hp2
    subst ef
    refine lv_icmp_eq (tgt := 1238) hx hb dL_law_1197 (by decide) (fun _ => ?_) (fun q => absurd er q)
    refine W.widen (k := cells + 16) (n := slots + 596) (by show cells + 0 + 0 ≤ cells + 16; omega) (by show slots + 0 + 0 ≤ slots + 596; omega) ?_
    exact K c ch cs nn bt ct ns (up1 ii 1 fd2) stf sl w cm mn H locs ⟨⟨hJ.1.1, hJ.1.2.1, hJ.1.2.2.1, hJ.1.2.2.2⟩, hJ.2.1, hJ.2.2.1, hJ.2.2.2.1, hJ.2.2.2.2⟩ hP hD hS
set_option maxHeartbeats 4000000 in
set_option maxRecDepth 100000 in
theorem L_undo {p : Program} {l : Launch} {e : Env} {s : State} {m : MethodId} {below : List Frame} {meth : Method} {c0 : Code} {cells slots : Nat} {Q : State → Prop} {N : ckN} {A : Nat → Prop} {b L i : Nat} {xs : Nat → Int32} {ls : Array Slot} {ad am : Nat → Nat} {shp : Nat → Option Nat} {H : Heap} {locs : List Loc} {c ch cs : Nat → Nat → Int32} {nn bt ct ns : Nat → Nat} {ii : Nat → Int32} {stf : Nat → Option Nat} {sl : Nat → va_W} {w : Nat → List Nat} {cm : Nat → Nat → Int32} {mn : Nat} (hC : LC p s m c0 cells slots N A b L i xs ls ad am) (K : LK p l e s m below meth c0 cells slots Q N A b ls ad am shp) (hJ : Jv N ad shp c ch nn bt ct ii stf sl w cm) (hP : va_P N.1 vwCl (CW N ad shp c ch cs nn bt ct ns ii stf sl ++ MW N am cm (nn 2) (nn 3) (ii 1) mn) H) (hD : va_D A (CW N ad shp c ch cs nn bt ct ns ii stf sl ++ MW N am cm (nn 2) (nn 3) (ii 1) mn)) (hS : va_S A s.heap H locs) : W p l e room_1 s m #[Value.ref b] below meth c0 H locs cells slots Q (F0 m 1202 ls []) := by
  obtain ⟨hx, hb, C0, hX, hbl, hbA, hi, hL4, hl, hcs1, hcs2⟩ := hC
  by_cases hz : nn 3 = 0
  · refine lv_aload_n hx hb dL_law_1202 rfl (lv_at hl 1 rfl) ?_
    refine ck_Vi (As := []) (rest := []) (wr := MW N am cm (nn 2) (nn 3) (ii 1) mn) C0 hP hD hS (u_X10_undo_z l N ad shp c ch cs nn bt ct ns ii stf sl   hz) myX10_undo k3_219 ⟨Nat.le_of_ble_eq_true rfl, Nat.le_of_ble_eq_true rfl⟩ _ _ (ckX_L _ _) 0 rfl rfl rfl rfl hl.1 rfl (Nat.le_of_ble_eq_true rfl) dL_law_1203 ⟨by show cells + 0 ≤ 600000; omega, by show slots + 0 ≤ 7302250; omega⟩ (fun r1 u H locs hw hP hD hS => ?_)
    obtain ⟨fd2, hp1, rfl⟩ := hw
    have hP : va_P N.1 vwCl (MW N am cm (nn 2) (nn 3) (ii 1) mn ++ CW N ad shp c ch cs nn bt ct ns (up1 ii 1 fd2) stf sl) H := hP
    have hD : va_D A (MW N am cm (nn 2) (nn 3) (ii 1) mn ++ CW N ad shp c ch cs nn bt ct ns (up1 ii 1 fd2) stf sl) := hD
    refine lv_aload_n hx hb dL_law_1206 rfl (lv_at hl 2 rfl) ?_
    refine ck_Vi (As := []) (rest := [.int r1]) (wr := CW N ad shp c ch cs nn bt ct ns (up1 ii 1 fd2) stf sl) C0 hP hD hS (u_X11_undo_z l N am cm (nn 2) (nn 3) (ii 1) mn  hz) myX11_undo k4_62 ⟨Nat.le_of_ble_eq_true rfl, Nat.le_of_ble_eq_true rfl⟩ _ _ (ckX_L _ _) 0 rfl rfl rfl rfl hl.1 rfl (Nat.le_of_ble_eq_true rfl) dL_law_1207 ⟨by show cells + 0 + 0 ≤ 600000; omega, by show slots + 0 + 0 ≤ 7302250; omega⟩ (fun r2 v H locs hw hP hD hS => ?_)
    obtain ⟨fd2m, hp2, rfl⟩ := hw
    have hP : va_P N.1 vwCl (CW N ad shp c ch cs nn bt ct ns (up1 ii 1 fd2) stf sl ++ MW N am cm (nn 2) (nn 3) fd2m mn) H := hP
    have hD : va_D A (CW N ad shp c ch cs nn bt ct ns (up1 ii 1 fd2) stf sl ++ MW N am cm (nn 2) (nn 3) fd2m mn) := hD
    obtain ⟨er, ef⟩ : r1 = r2 ∧ fd2 = fd2m := ⟨hp1.1.trans hp2.1.symm, hp1.2.trans hp2.2.symm⟩
    subst ef
    refine lv_icmp_eq (tgt := 1238) hx hb dL_law_1210 (by decide) (fun _ => ?_) (fun q => absurd er q)
    refine W.widen (k := cells + 16) (n := slots + 596) (by show cells + 0 + 0 ≤ cells + 16; omega) (by show slots + 0 + 0 ≤ slots + 596; omega) ?_
    exact K c ch cs nn bt ct ns (up1 ii 1 fd2) stf sl w cm mn H locs ⟨⟨hJ.1.1, hJ.1.2.1, hJ.1.2.2.1, hJ.1.2.2.2⟩, hJ.2.1, hJ.2.2.1, hJ.2.2.2.1, hJ.2.2.2.2⟩ hP hD hS
  · obtain ⟨ad2, c2, cf2, n2, wk2, w2, h1, h2, h3⟩ := hJ.2.1.2 0 (by omega)
    have h1 : stf ((nn 2 + 20 - 1) % 20) = some (ad2 0) := h1
    have h2 : sl ((nn 2 + 20 - 1) % 20) = tSt N ad2 c2 cf2 n2 wk2 := h2
    have h3 : JS c2 cf2 n2 wk2 w2 (fun j => cm 1 (572 * ((nn 2 + 20 - 1) % 20) + j)) := h3
    refine lv_aload_n hx hb dL_law_1202 rfl (lv_at hl 1 rfl) ?_
    refine ck_Vi (As := []) (rest := []) (wr := MW N am cm (nn 2) (nn 3) (ii 1) mn) C0 hP hD hS (u_X10_undo_s l N ad shp c ch cs nn bt ct ns ii stf sl cf2 n2 wk2 w2 ad2 c2 h2 h3.1 h3.2.2.1.2.1 hJ.2.2.2.1.1 hJ.2.2.2.1.2 (by omega) h1) myX10_undo k3_219 ⟨Nat.le_of_ble_eq_true rfl, Nat.le_of_ble_eq_true rfl⟩ _ _ (ckX_L _ _) 0 rfl rfl rfl rfl hl.1 rfl (Nat.le_of_ble_eq_true rfl) dL_law_1203 ⟨by show cells + 0 ≤ 600000; omega, by show slots + 0 ≤ 7302250; omega⟩ (fun r1 u H locs hw hP hD hS => ?_)
    obtain ⟨tr3, di3, fo3, lf3, gf3, sdf3, twf3, shf3, wof3, hp1, rfl⟩ := hw
    have hP : va_P N.1 vwCl (MW N am cm (nn 2) (nn 3) (ii 1) mn ++ CW N ad shp (up1 (up1 (up1 (up1 (up1 (up1 (up1 (up1 (up1 c 0 tr3) 1 di3) 2 fo3) 4 lf3) 5 gf3) 6 sdf3) 7 twf3) 8 shf3) 9 wof3) ch cs (up1 (up1 (up1 (up1 nn 2 (((nn 2) + 20 - 1) % 20)) 3 ((nn 3) - 1)) 0 cf2) 1 n2) bt ct ns (up1 ii 0 wk2) stf (up1 sl ((nn 2 + 20 - 1) % 20) (tSt N ad2 c2 cf2 n2 wk2))) H := hP
    have hD : va_D A (MW N am cm (nn 2) (nn 3) (ii 1) mn ++ CW N ad shp (up1 (up1 (up1 (up1 (up1 (up1 (up1 (up1 (up1 c 0 tr3) 1 di3) 2 fo3) 4 lf3) 5 gf3) 6 sdf3) 7 twf3) 8 shf3) 9 wof3) ch cs (up1 (up1 (up1 (up1 nn 2 (((nn 2) + 20 - 1) % 20)) 3 ((nn 3) - 1)) 0 cf2) 1 n2) bt ct ns (up1 ii 0 wk2) stf (up1 sl ((nn 2 + 20 - 1) % 20) (tSt N ad2 c2 cf2 n2 wk2))) := hD
    refine lv_aload_n hx hb dL_law_1206 rfl (lv_at hl 2 rfl) ?_
    refine ck_Vi (As := []) (rest := [.int r1]) (wr := CW N ad shp (up1 (up1 (up1 (up1 (up1 (up1 (up1 (up1 (up1 c 0 tr3) 1 di3) 2 fo3) 4 lf3) 5 gf3) 6 sdf3) 7 twf3) 8 shf3) 9 wof3) ch cs (up1 (up1 (up1 (up1 nn 2 (((nn 2) + 20 - 1) % 20)) 3 ((nn 3) - 1)) 0 cf2) 1 n2) bt ct ns (up1 ii 0 wk2) stf (up1 sl ((nn 2 + 20 - 1) % 20) (tSt N ad2 c2 cf2 n2 wk2))) C0 hP hD hS (u_X11_undo_s l N am cm (nn 2) (nn 3) (ii 1) mn  hJ.2.2.2.1.1 hJ.2.2.2.1.2 (by omega)) myX11_undo k4_62 ⟨Nat.le_of_ble_eq_true rfl, Nat.le_of_ble_eq_true rfl⟩ _ _ (ckX_L _ _) 0 rfl rfl rfl rfl hl.1 rfl (Nat.le_of_ble_eq_true rfl) dL_law_1207 ⟨by show cells + 0 + 0 ≤ 600000; omega, by show slots + 0 + 0 ≤ 7302250; omega⟩ (fun r2 v H locs hw hP hD hS => ?_)
    obtain ⟨nw4m, hp2, rfl⟩ := hw
    have hP : va_P N.1 vwCl (CW N ad shp (up1 (up1 (up1 (up1 (up1 (up1 (up1 (up1 (up1 c 0 tr3) 1 di3) 2 fo3) 4 lf3) 5 gf3) 6 sdf3) 7 twf3) 8 shf3) 9 wof3) ch cs (up1 (up1 (up1 (up1 nn 2 (((nn 2) + 20 - 1) % 20)) 3 ((nn 3) - 1)) 0 cf2) 1 n2) bt ct ns (up1 ii 0 wk2) stf (up1 sl ((nn 2 + 20 - 1) % 20) (tSt N ad2 c2 cf2 n2 wk2)) ++ MW N am (up1 cm 0 nw4m) (((nn 2) + 20 - 1) % 20) ((nn 3) - 1) (ii 1) mn) H := hP
    have hD : va_D A (CW N ad shp (up1 (up1 (up1 (up1 (up1 (up1 (up1 (up1 (up1 c 0 tr3) 1 di3) 2 fo3) 4 lf3) 5 gf3) 6 sdf3) 7 twf3) 8 shf3) 9 wof3) ch cs (up1 (up1 (up1 (up1 nn 2 (((nn 2) + 20 - 1) % 20)) 3 ((nn 3) - 1)) 0 cf2) 1 n2) bt ct ns (up1 ii 0 wk2) stf (up1 sl ((nn 2 + 20 - 1) % 20) (tSt N ad2 c2 cf2 n2 wk2)) ++ MW N am (up1 cm 0 nw4m) (((nn 2) + 20 - 1) % 20) ((nn 3) - 1) (ii 1) mn) := hD
    obtain ⟨er1, k0, k1, k2, kw, k6, k7, k8, k9⟩ := hp1
    obtain ⟨er2, kv⟩ := hp2
    refine lv_icmp_eq (tgt := 1238) hx hb dL_law_1210 (by decide) (fun _ => ?_) (fun q => absurd (er1.trans er2.symm) q)
    refine W.widen (k := cells + 16) (n := slots + 596) (by show cells + 0 + 0 ≤ cells + 16; omega) (by show slots + 0 + 0 ≤ slots + 596; omega) ?_
    exact K (up1 (up1 (up1 (up1 (up1 (up1 (up1 (up1 (up1 c 0 tr3) 1 di3) 2 fo3) 4 lf3) 5 gf3) 6 sdf3) 7 twf3) 8 shf3) 9 wof3) ch cs (up1 (up1 (up1 (up1 nn 2 (((nn 2) + 20 - 1) % 20)) 3 ((nn 3) - 1)) 0 cf2) 1 n2) bt ct ns (up1 ii 0 wk2) stf (up1 sl ((nn 2 + 20 - 1) % 20) (tSt N ad2 c2 cf2 n2 wk2)) w2 (up1 cm 0 nw4m) mn H locs ⟨JS_cg h3 kw k0 k1 k2 k6 k7 k8 k9 kv, by rw [← h2, up1_self]; exact JK_back hJ.2.1 hJ.2.2.2.1.1 hJ.2.2.2.1.2, hJ.2.2.1, ⟨Nat.mod_lt _ (by decide), (by have q := hJ.2.2.2.1.2; show nn 3 - 1 ≤ 20; omega)⟩, hJ.2.2.2.2⟩ hP hD hS
