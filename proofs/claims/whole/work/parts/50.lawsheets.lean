set_option maxHeartbeats 4000000 in
set_option maxRecDepth 100000 in
theorem L_sheet {p : Program} {l : Launch} {e : Env} {s : State} {m : MethodId} {below : List Frame} {meth : Method} {c0 : Code} {cells slots : Nat} {Q : State → Prop} {N : ckN} {A : Nat → Prop} {b L i : Nat} {xs : Nat → Int32} {ls : Array Slot} {ad am : Nat → Nat} {shp : Nat → Option Nat} {H : Heap} {locs : List Loc} {c ch cs : Nat → Nat → Int32} {nn bt ct ns : Nat → Nat} {ii : Nat → Int32} {stf : Nat → Option Nat} {sl : Nat → va_W} {w : Nat → List Nat} {cm : Nat → Nat → Int32} {mn : Nat} (hC : LC p s m c0 cells slots N A b L i xs ls ad am) (K : LK p l e s m below meth c0 cells slots Q N A b ls ad am shp) (hJ : Jv N ad shp c ch nn bt ct ii stf sl w cm) (hP : va_P N.1 vwCl (CW N ad shp c ch cs nn bt ct ns ii stf sl ++ MW N am cm (nn 2) (nn 3) (ii 1) mn) H) (hD : va_D A (CW N ad shp c ch cs nn bt ct ns ii stf sl ++ MW N am cm (nn 2) (nn 3) (ii 1) mn)) (hS : va_S A s.heap H locs) : W p l e room_1 s m #[Value.ref b] below meth c0 H locs cells slots Q (F0 m 1010 ls []) := by
  obtain ⟨hx, hb, C0, hX, hbl, hbA, hi, hL4, hl, hcs1, hcs2⟩ := hC
  by_cases hb3 : ckIn (xs (i + 1)) (nI 0) (nI 3) = true
  · obtain ⟨s1, -, hs1, ex⟩ := (ckIn_n (by decide) (by decide)).mp hb3
    have hs1 : s1 < 4 := by omega
    refine lv_aload_n hx hb dL_law_1010 rfl (lv_at hl 1 rfl) ?_
    refine lw_rd 1 hx hb hX hbl hbA hS hl hi hL4 (by decide) (by decide) dL_law_1011 dL_law_1012 dL_law_1013 dL_law_1014 dL_law_1015 ?_
    refine lw_rd 2 hx hb hX hbl hbA hS hl hi hL4 (by decide) (by decide) dL_law_1016 dL_law_1017 dL_law_1018 dL_law_1019 dL_law_1020 ?_
    refine lw_rd 3 hx hb hX hbl hbA hS hl hi hL4 (by decide) (by decide) dL_law_1021 dL_law_1022 dL_law_1023 dL_law_1024 dL_law_1025 ?_
    refine ck_Vi (As := [.int (nI s1), .int (xs (i + 2)), .int (xs (i + 3))]) (rest := []) (wr := MW N am cm (nn 2) (nn 3) (ii 1) mn) C0 hP hD hS (u_X10_sheet_k l N ad shp c ch cs nn bt ct ns ii stf sl s1 (xs (i + 2)) (xs (i + 3))  hs1 (hJ.2.2.1 s1 hs1).1) myX10_sheet k3_190 ⟨Nat.le_of_ble_eq_true rfl, Nat.le_of_ble_eq_true rfl⟩ _ _ (ckX_L _ _) 0 rfl rfl rfl rfl hl.1 (by rw [ex]; rfl) (Nat.le_of_ble_eq_true rfl) dL_law_1026 ⟨by show cells + 0 ≤ 600000; omega, by show slots + 0 ≤ 7302250; omega⟩ (fun r1 u H locs hw hP hD hS => ?_)
    obtain ⟨fd2, bt4, ct4, nu4, hp1, rfl⟩ := hw
    have hP : va_P N.1 vwCl (MW N am cm (nn 2) (nn 3) (ii 1) mn ++ CW N ad shp c (up1 ch s1 nu4) cs nn (up1 bt s1 bt4) (up1 ct s1 ct4) ns (up1 ii 1 fd2) stf sl) H := hP
    have hD : va_D A (MW N am cm (nn 2) (nn 3) (ii 1) mn ++ CW N ad shp c (up1 ch s1 nu4) cs nn (up1 bt s1 bt4) (up1 ct s1 ct4) ns (up1 ii 1 fd2) stf sl) := hD
    refine lv_aload_n hx hb dL_law_1029 rfl (lv_at hl 2 rfl) ?_
    refine lw_rd 1 hx hb hX hbl hbA hS hl hi hL4 (by decide) (by decide) dL_law_1030 dL_law_1031 dL_law_1032 dL_law_1033 dL_law_1034 ?_
    refine lw_rd 2 hx hb hX hbl hbA hS hl hi hL4 (by decide) (by decide) dL_law_1035 dL_law_1036 dL_law_1037 dL_law_1038 dL_law_1039 ?_
    refine lw_rd 3 hx hb hX hbl hbA hS hl hi hL4 (by decide) (by decide) dL_law_1040 dL_law_1041 dL_law_1042 dL_law_1043 dL_law_1044 ?_
    refine ck_Vi (As := [.int (nI s1), .int (xs (i + 2)), .int (xs (i + 3))]) (rest := [.int r1]) (wr := CW N ad shp c (up1 ch s1 nu4) cs nn (up1 bt s1 bt4) (up1 ct s1 ct4) ns (up1 ii 1 fd2) stf sl) C0 hP hD hS (u_X11_sheet_k l N am cm (nn 2) (nn 3) (ii 1) mn s1 (xs (i + 2)) (xs (i + 3)) hs1) myX11_sheet k5_38 ⟨Nat.le_of_ble_eq_true rfl, Nat.le_of_ble_eq_true rfl⟩ _ _ (ckX_L _ _) 0 rfl rfl rfl rfl hl.1 (by rw [ex]; rfl) (Nat.le_of_ble_eq_true rfl) dL_law_1045 ⟨by show cells + 0 + 0 ≤ 600000; omega, by show slots + 0 + 0 ≤ 7302250; omega⟩ (fun r2 v H locs hw hP hD hS => ?_)
    obtain ⟨fd2m, sb4m, sz4m, st4m, hp2, rfl⟩ := hw
    have hP : va_P N.1 vwCl (CW N ad shp c (up1 ch s1 nu4) cs nn (up1 bt s1 bt4) (up1 ct s1 ct4) ns (up1 ii 1 fd2) stf sl ++ MW N am (up1 (up1 (up1 cm 2 sb4m) 3 sz4m) 4 st4m) (nn 2) (nn 3) fd2m mn) H := hP
    have hD : va_D A (CW N ad shp c (up1 ch s1 nu4) cs nn (up1 bt s1 bt4) (up1 ct s1 ct4) ns (up1 ii 1 fd2) stf sl ++ MW N am (up1 (up1 (up1 cm 2 sb4m) 3 sz4m) 4 st4m) (nn 2) (nn 3) fd2m mn) := hD
    obtain ⟨hr1, ho1⟩ := hp1
    obtain ⟨hr2, ho2⟩ := hp2
    obtain ⟨er, ef⟩ := ckRd_eq hr1 hr2
    subst ef
    refine lv_icmp_eq (tgt := 1238) hx hb dL_law_1048 (by decide) (fun _ => ?_) (fun q => absurd er q)
    refine W.widen (k := cells + 16) (n := slots + 596) (by show cells + 0 + 0 ≤ cells + 16; omega) (by show slots + 0 + 0 ≤ slots + 596; omega) ?_
    rcases ho1 with ⟨hF, ⟨ey, -⟩, rfl, hz, rfl⟩ | ⟨hF, rfl, rfl, rfl⟩
    · rcases ho2 with ⟨-, hy, rfl, rfl, h40, hz2, hst⟩ | ⟨q, -⟩
      · exact K c (up1 ch s1 nu4) cs nn (up1 bt s1 (ix (xs (i + 2)))) (up1 ct s1 (shC (xs (i + 2)) (xs (i + 3)))) ns (up1 ii 1 fd2) stf sl w (up1 (up1 (up1 cm 2 (upd (cm 2) s1 (xs (i + 2)))) 3 (upd (cm 3) s1 (nI (shC (xs (i + 2)) (xs (i + 3)))))) 4 st4m) mn H locs ⟨⟨hJ.1.1, hJ.1.2.1, hJ.1.2.2.1, hJ.1.2.2.2⟩, hJ.2.1, JH_up hJ.2.2.1 hs1 h40 (sh_b hy) (congrArg (upd (cm 2) s1) ey) rfl (fun k hk => (hz2 k (by omega)).trans (hz k hk).symm) hst, hJ.2.2.2.1, hJ.2.2.2.2⟩ hP hD hS
      · exact absurd hF q
    · rcases ho2 with ⟨q, -⟩ | ⟨-, rfl, rfl, rfl⟩
      · exact absurd q hF
      · exact K c (up1 ch s1 (ch s1)) cs nn (up1 bt s1 (bt s1)) (up1 ct s1 (ct s1)) ns (up1 ii 1 fd2) stf sl w (up1 (up1 (up1 cm 2 (cm 2)) 3 (cm 3)) 4 (cm 4)) mn H locs ⟨⟨hJ.1.1, hJ.1.2.1, hJ.1.2.2.1, hJ.1.2.2.2⟩, hJ.2.1, by rw [up1_self, up1_self, up1_self]; exact hJ.2.2.1, hJ.2.2.2.1, hJ.2.2.2.2⟩ hP hD hS
  · have hbad : ckIn (xs (i + 1)) (nI 0) (nI 3) = false := eq_false_of_ne_true hb3
    refine lv_aload_n hx hb dL_law_1010 rfl (lv_at hl 1 rfl) ?_
    refine lw_rd 1 hx hb hX hbl hbA hS hl hi hL4 (by decide) (by decide) dL_law_1011 dL_law_1012 dL_law_1013 dL_law_1014 dL_law_1015 ?_
    refine lw_rd 2 hx hb hX hbl hbA hS hl hi hL4 (by decide) (by decide) dL_law_1016 dL_law_1017 dL_law_1018 dL_law_1019 dL_law_1020 ?_
    refine lw_rd 3 hx hb hX hbl hbA hS hl hi hL4 (by decide) (by decide) dL_law_1021 dL_law_1022 dL_law_1023 dL_law_1024 dL_law_1025 ?_
    refine ck_Vi (As := [.int (xs (i + 1)), .int (xs (i + 2)), .int (xs (i + 3))]) (rest := []) (wr := MW N am cm (nn 2) (nn 3) (ii 1) mn) C0 hP hD hS (u_X10_sheet_f l N ad shp c ch cs nn bt ct ns ii stf sl (xs (i + 1)) (xs (i + 2)) (xs (i + 3))  hbad) myX10_sheet k3_190 ⟨Nat.le_of_ble_eq_true rfl, Nat.le_of_ble_eq_true rfl⟩ _ _ (ckX_L _ _) 0 rfl rfl rfl rfl hl.1 rfl (Nat.le_of_ble_eq_true rfl) dL_law_1026 ⟨by show cells + 0 ≤ 600000; omega, by show slots + 0 ≤ 7302250; omega⟩ (fun r1 u H locs hw hP hD hS => ?_)
    obtain ⟨fd2, hp1, rfl⟩ := hw
    have hP : va_P N.1 vwCl (MW N am cm (nn 2) (nn 3) (ii 1) mn ++ CW N ad shp c ch cs nn bt ct ns (up1 ii 1 fd2) stf sl) H := hP
    have hD : va_D A (MW N am cm (nn 2) (nn 3) (ii 1) mn ++ CW N ad shp c ch cs nn bt ct ns (up1 ii 1 fd2) stf sl) := hD
    refine lv_aload_n hx hb dL_law_1029 rfl (lv_at hl 2 rfl) ?_
    refine lw_rd 1 hx hb hX hbl hbA hS hl hi hL4 (by decide) (by decide) dL_law_1030 dL_law_1031 dL_law_1032 dL_law_1033 dL_law_1034 ?_
    refine lw_rd 2 hx hb hX hbl hbA hS hl hi hL4 (by decide) (by decide) dL_law_1035 dL_law_1036 dL_law_1037 dL_law_1038 dL_law_1039 ?_
    refine lw_rd 3 hx hb hX hbl hbA hS hl hi hL4 (by decide) (by decide) dL_law_1040 dL_law_1041 dL_law_1042 dL_law_1043 dL_law_1044 ?_
    refine ck_Vi (As := [.int (xs (i + 1)), .int (xs (i + 2)), .int (xs (i + 3))]) (rest := [.int r1]) (wr := CW N ad shp c ch cs nn bt ct ns (up1 ii 1 fd2) stf sl) C0 hP hD hS (u_X11_sheet_f l N am cm (nn 2) (nn 3) (ii 1) mn (xs (i + 1)) (xs (i + 2)) (xs (i + 3)) hbad) myX11_sheet k5_38 ⟨Nat.le_of_ble_eq_true rfl, Nat.le_of_ble_eq_true rfl⟩ _ _ (ckX_L _ _) 0 rfl rfl rfl rfl hl.1 rfl (Nat.le_of_ble_eq_true rfl) dL_law_1045 ⟨by show cells + 0 + 0 ≤ 600000; omega, by show slots + 0 + 0 ≤ 7302250; omega⟩ (fun r2 v H locs hw hP hD hS => ?_)
    obtain ⟨fd2m, hp2, rfl⟩ := hw
    have hP : va_P N.1 vwCl (CW N ad shp c ch cs nn bt ct ns (up1 ii 1 fd2) stf sl ++ MW N am cm (nn 2) (nn 3) fd2m mn) H := hP
    have hD : va_D A (CW N ad shp c ch cs nn bt ct ns (up1 ii 1 fd2) stf sl ++ MW N am cm (nn 2) (nn 3) fd2m mn) := hD
    obtain ⟨er, ef⟩ := ckRd_eq hp1 hp2
    subst ef
    refine lv_icmp_eq (tgt := 1238) hx hb dL_law_1048 (by decide) (fun _ => ?_) (fun q => absurd er q)
    refine W.widen (k := cells + 16) (n := slots + 596) (by show cells + 0 + 0 ≤ cells + 16; omega) (by show slots + 0 + 0 ≤ slots + 596; omega) ?_
    exact K c ch cs nn bt ct ns (up1 ii 1 fd2) stf sl w cm mn H locs ⟨⟨hJ.1.1, hJ.1.2.1, hJ.1.2.2.1, hJ.1.2.2.2⟩, hJ.2.1, hJ.2.2.1, hJ.2.2.2.1, hJ.2.2.2.2⟩ hP hD hS
set_option maxHeartbeats 4000000 in
set_option maxRecDepth 100000 in
theorem L_put {p : Program} {l : Launch} {e : Env} {s : State} {m : MethodId} {below : List Frame} {meth : Method} {c0 : Code} {cells slots : Nat} {Q : State → Prop} {N : ckN} {A : Nat → Prop} {b L i : Nat} {xs : Nat → Int32} {ls : Array Slot} {ad am : Nat → Nat} {shp : Nat → Option Nat} {H : Heap} {locs : List Loc} {c ch cs : Nat → Nat → Int32} {nn bt ct ns : Nat → Nat} {ii : Nat → Int32} {stf : Nat → Option Nat} {sl : Nat → va_W} {w : Nat → List Nat} {cm : Nat → Nat → Int32} {mn : Nat} (hC : LC p s m c0 cells slots N A b L i xs ls ad am) (K : LK p l e s m below meth c0 cells slots Q N A b ls ad am shp) (hJ : Jv N ad shp c ch nn bt ct ii stf sl w cm) (hP : va_P N.1 vwCl (CW N ad shp c ch cs nn bt ct ns ii stf sl ++ MW N am cm (nn 2) (nn 3) (ii 1) mn) H) (hD : va_D A (CW N ad shp c ch cs nn bt ct ns ii stf sl ++ MW N am cm (nn 2) (nn 3) (ii 1) mn)) (hS : va_S A s.heap H locs) : W p l e room_1 s m #[Value.ref b] below meth c0 H locs cells slots Q (F0 m 1053 ls []) := by
  obtain ⟨hx, hb, C0, hX, hbl, hbA, hi, hL4, hl, hcs1, hcs2⟩ := hC
  by_cases hb3 : ckIn (xs (i + 1)) (nI 0) (nI 3) = true
  · obtain ⟨s1, -, hs1, ex⟩ := (ckIn_n (by decide) (by decide)).mp hb3
    have hs1 : s1 < 4 := by omega
    refine lv_aload_n hx hb dL_law_1053 rfl (lv_at hl 1 rfl) ?_
    refine lw_rd 1 hx hb hX hbl hbA hS hl hi hL4 (by decide) (by decide) dL_law_1054 dL_law_1055 dL_law_1056 dL_law_1057 dL_law_1058 ?_
    refine lw_rd 2 hx hb hX hbl hbA hS hl hi hL4 (by decide) (by decide) dL_law_1059 dL_law_1060 dL_law_1061 dL_law_1062 dL_law_1063 ?_
    refine lw_rd 3 hx hb hX hbl hbA hS hl hi hL4 (by decide) (by decide) dL_law_1064 dL_law_1065 dL_law_1066 dL_law_1067 dL_law_1068 ?_
    refine ck_Vi (As := [.int (nI s1), .int (xs (i + 2)), .int (xs (i + 3))]) (rest := []) (wr := MW N am cm (nn 2) (nn 3) (ii 1) mn) C0 hP hD hS (u_X10_put_k l N ad shp c ch cs nn bt ct ns ii stf sl s1 (xs (i + 2)) (xs (i + 3))  hs1 (hJ.2.2.1 s1 hs1).1 (by have q := (hJ.2.2.1 s1 hs1).2.2.1; omega) (hJ.2.2.1 s1 hs1).2.1) myX10_put k3_198 ⟨Nat.le_of_ble_eq_true rfl, Nat.le_of_ble_eq_true rfl⟩ _ _ (ckX_L _ _) 0 rfl rfl rfl rfl hl.1 (by rw [ex]; rfl) (Nat.le_of_ble_eq_true rfl) dL_law_1069 ⟨by show cells + 0 ≤ 600000; omega, by show slots + 0 ≤ 7302250; omega⟩ (fun r1 u H locs hw hP hD hS => ?_)
    obtain ⟨fd2, nu4, hp1, rfl⟩ := hw
    have hP : va_P N.1 vwCl (MW N am cm (nn 2) (nn 3) (ii 1) mn ++ CW N ad shp c (up1 ch s1 nu4) cs nn bt ct ns (up1 ii 1 fd2) stf sl) H := hP
    have hD : va_D A (MW N am cm (nn 2) (nn 3) (ii 1) mn ++ CW N ad shp c (up1 ch s1 nu4) cs nn bt ct ns (up1 ii 1 fd2) stf sl) := hD
    refine lv_aload_n hx hb dL_law_1072 rfl (lv_at hl 2 rfl) ?_
    refine lw_rd 1 hx hb hX hbl hbA hS hl hi hL4 (by decide) (by decide) dL_law_1073 dL_law_1074 dL_law_1075 dL_law_1076 dL_law_1077 ?_
    refine lw_rd 2 hx hb hX hbl hbA hS hl hi hL4 (by decide) (by decide) dL_law_1078 dL_law_1079 dL_law_1080 dL_law_1081 dL_law_1082 ?_
    refine lw_rd 3 hx hb hX hbl hbA hS hl hi hL4 (by decide) (by decide) dL_law_1083 dL_law_1084 dL_law_1085 dL_law_1086 dL_law_1087 ?_
    refine ck_Vi (As := [.int (nI s1), .int (xs (i + 2)), .int (xs (i + 3))]) (rest := [.int r1]) (wr := CW N ad shp c (up1 ch s1 nu4) cs nn bt ct ns (up1 ii 1 fd2) stf sl) C0 hP hD hS (u_X11_put_k l N am cm (nn 2) (nn 3) (ii 1) mn s1 (bt s1) (ct s1) (ch s1) (xs (i + 2)) (xs (i + 3)) hs1 (hJ.2.2.1 s1 hs1).2.2.2.1 (hJ.2.2.1 s1 hs1).2.2.2.2.1 (hJ.2.2.1 s1 hs1).2.2.2.2.2 (hJ.2.2.1 s1 hs1).2.1 (by have q := (hJ.2.2.1 s1 hs1).2.2.1; omega)) myX11_put k5_42 ⟨Nat.le_of_ble_eq_true rfl, Nat.le_of_ble_eq_true rfl⟩ _ _ (ckX_L _ _) 0 rfl rfl rfl rfl hl.1 (by rw [ex]; rfl) (Nat.le_of_ble_eq_true rfl) dL_law_1088 ⟨by show cells + 0 + 0 ≤ 600000; omega, by show slots + 0 + 0 ≤ 7302250; omega⟩ (fun r2 v H locs hw hP hD hS => ?_)
    obtain ⟨fd2m, st4m, hp2, rfl⟩ := hw
    have hP : va_P N.1 vwCl (CW N ad shp c (up1 ch s1 nu4) cs nn bt ct ns (up1 ii 1 fd2) stf sl ++ MW N am (up1 cm 4 st4m) (nn 2) (nn 3) fd2m mn) H := hP
    have hD : va_D A (CW N ad shp c (up1 ch s1 nu4) cs nn bt ct ns (up1 ii 1 fd2) stf sl ++ MW N am (up1 cm 4 st4m) (nn 2) (nn 3) fd2m mn) := hD
    obtain ⟨hr1, ho1⟩ := hp1
    obtain ⟨hr2, ho2⟩ := hp2
    obtain ⟨er, ef⟩ := ckRd_eq hr1 hr2
    subst ef
    refine lv_icmp_eq (tgt := 1238) hx hb dL_law_1091 (by decide) (fun _ => ?_) (fun q => absurd er q)
    refine W.widen (k := cells + 16) (n := slots + 596) (by show cells + 0 + 0 ≤ cells + 16; omega) (by show slots + 0 + 0 ≤ slots + 596; omega) ?_
    rcases ho1 with ⟨hF, rfl⟩ | ⟨hF, rfl⟩
    · rcases ho2 with ⟨-, rfl⟩ | ⟨q, -⟩
      · exact K c (up1 ch s1 (upd (ch s1) (ix (xs (i + 2))) (ckWr (bt s1) (xs (i + 3))))) cs nn bt ct ns (up1 ii 1 fd2) stf sl w (up1 cm 4 (upd (cm 4) (40 * s1 + ix (xs (i + 2))) (pvW (bt s1) (xs (i + 3))))) mn H locs ⟨⟨hJ.1.1, hJ.1.2.1, hJ.1.2.2.1, hJ.1.2.2.2⟩, hJ.2.1, JH_put hJ.2.2.1 hs1 hF, hJ.2.2.2.1, hJ.2.2.2.2⟩ hP hD hS
      · exact absurd hF q
    · rcases ho2 with ⟨q, -⟩ | ⟨-, rfl⟩
      · exact absurd q hF
      · exact K c (up1 ch s1 (ch s1)) cs nn bt ct ns (up1 ii 1 fd2) stf sl w (up1 cm 4 (cm 4)) mn H locs ⟨⟨hJ.1.1, hJ.1.2.1, hJ.1.2.2.1, hJ.1.2.2.2⟩, hJ.2.1, by rw [up1_self]; exact hJ.2.2.1, hJ.2.2.2.1, hJ.2.2.2.2⟩ hP hD hS
  · have hbad : ckIn (xs (i + 1)) (nI 0) (nI 3) = false := eq_false_of_ne_true hb3
    refine lv_aload_n hx hb dL_law_1053 rfl (lv_at hl 1 rfl) ?_
    refine lw_rd 1 hx hb hX hbl hbA hS hl hi hL4 (by decide) (by decide) dL_law_1054 dL_law_1055 dL_law_1056 dL_law_1057 dL_law_1058 ?_
    refine lw_rd 2 hx hb hX hbl hbA hS hl hi hL4 (by decide) (by decide) dL_law_1059 dL_law_1060 dL_law_1061 dL_law_1062 dL_law_1063 ?_
    refine lw_rd 3 hx hb hX hbl hbA hS hl hi hL4 (by decide) (by decide) dL_law_1064 dL_law_1065 dL_law_1066 dL_law_1067 dL_law_1068 ?_
    refine ck_Vi (As := [.int (xs (i + 1)), .int (xs (i + 2)), .int (xs (i + 3))]) (rest := []) (wr := MW N am cm (nn 2) (nn 3) (ii 1) mn) C0 hP hD hS (u_X10_put_f l N ad shp c ch cs nn bt ct ns ii stf sl (xs (i + 1)) (xs (i + 2)) (xs (i + 3))  hbad) myX10_put k3_198 ⟨Nat.le_of_ble_eq_true rfl, Nat.le_of_ble_eq_true rfl⟩ _ _ (ckX_L _ _) 0 rfl rfl rfl rfl hl.1 rfl (Nat.le_of_ble_eq_true rfl) dL_law_1069 ⟨by show cells + 0 ≤ 600000; omega, by show slots + 0 ≤ 7302250; omega⟩ (fun r1 u H locs hw hP hD hS => ?_)
    obtain ⟨fd2, hp1, rfl⟩ := hw
    have hP : va_P N.1 vwCl (MW N am cm (nn 2) (nn 3) (ii 1) mn ++ CW N ad shp c ch cs nn bt ct ns (up1 ii 1 fd2) stf sl) H := hP
    have hD : va_D A (MW N am cm (nn 2) (nn 3) (ii 1) mn ++ CW N ad shp c ch cs nn bt ct ns (up1 ii 1 fd2) stf sl) := hD
    refine lv_aload_n hx hb dL_law_1072 rfl (lv_at hl 2 rfl) ?_
    refine lw_rd 1 hx hb hX hbl hbA hS hl hi hL4 (by decide) (by decide) dL_law_1073 dL_law_1074 dL_law_1075 dL_law_1076 dL_law_1077 ?_
    refine lw_rd 2 hx hb hX hbl hbA hS hl hi hL4 (by decide) (by decide) dL_law_1078 dL_law_1079 dL_law_1080 dL_law_1081 dL_law_1082 ?_
    refine lw_rd 3 hx hb hX hbl hbA hS hl hi hL4 (by decide) (by decide) dL_law_1083 dL_law_1084 dL_law_1085 dL_law_1086 dL_law_1087 ?_
    refine ck_Vi (As := [.int (xs (i + 1)), .int (xs (i + 2)), .int (xs (i + 3))]) (rest := [.int r1]) (wr := CW N ad shp c ch cs nn bt ct ns (up1 ii 1 fd2) stf sl) C0 hP hD hS (u_X11_put_f l N am cm (nn 2) (nn 3) (ii 1) mn (xs (i + 1)) (xs (i + 2)) (xs (i + 3)) hbad) myX11_put k5_42 ⟨Nat.le_of_ble_eq_true rfl, Nat.le_of_ble_eq_true rfl⟩ _ _ (ckX_L _ _) 0 rfl rfl rfl rfl hl.1 rfl (Nat.le_of_ble_eq_true rfl) dL_law_1088 ⟨by show cells + 0 + 0 ≤ 600000; omega, by show slots + 0 + 0 ≤ 7302250; omega⟩ (fun r2 v H locs hw hP hD hS => ?_)
    obtain ⟨fd2m, hp2, rfl⟩ := hw
    have hP : va_P N.1 vwCl (CW N ad shp c ch cs nn bt ct ns (up1 ii 1 fd2) stf sl ++ MW N am cm (nn 2) (nn 3) fd2m mn) H := hP
    have hD : va_D A (CW N ad shp c ch cs nn bt ct ns (up1 ii 1 fd2) stf sl ++ MW N am cm (nn 2) (nn 3) fd2m mn) := hD
    obtain ⟨er, ef⟩ := ckRd_eq hp1 hp2
    subst ef
    refine lv_icmp_eq (tgt := 1238) hx hb dL_law_1091 (by decide) (fun _ => ?_) (fun q => absurd er q)
    refine W.widen (k := cells + 16) (n := slots + 596) (by show cells + 0 + 0 ≤ cells + 16; omega) (by show slots + 0 + 0 ≤ slots + 596; omega) ?_
    exact K c ch cs nn bt ct ns (up1 ii 1 fd2) stf sl w cm mn H locs ⟨⟨hJ.1.1, hJ.1.2.1, hJ.1.2.2.1, hJ.1.2.2.2⟩, hJ.2.1, hJ.2.2.1, hJ.2.2.2.1, hJ.2.2.2.2⟩ hP hD hS
set_option maxHeartbeats 4000000 in
set_option maxRecDepth 100000 in
theorem L_copy {p : Program} {l : Launch} {e : Env} {s : State} {m : MethodId} {below : List Frame} {meth : Method} {c0 : Code} {cells slots : Nat} {Q : State → Prop} {N : ckN} {A : Nat → Prop} {b L i : Nat} {xs : Nat → Int32} {ls : Array Slot} {ad am : Nat → Nat} {shp : Nat → Option Nat} {H : Heap} {locs : List Loc} {c ch cs : Nat → Nat → Int32} {nn bt ct ns : Nat → Nat} {ii : Nat → Int32} {stf : Nat → Option Nat} {sl : Nat → va_W} {w : Nat → List Nat} {cm : Nat → Nat → Int32} {mn : Nat} (hC : LC p s m c0 cells slots N A b L i xs ls ad am) (K : LK p l e s m below meth c0 cells slots Q N A b ls ad am shp) (hJ : Jv N ad shp c ch nn bt ct ii stf sl w cm) (hP : va_P N.1 vwCl (CW N ad shp c ch cs nn bt ct ns ii stf sl ++ MW N am cm (nn 2) (nn 3) (ii 1) mn) H) (hD : va_D A (CW N ad shp c ch cs nn bt ct ns ii stf sl ++ MW N am cm (nn 2) (nn 3) (ii 1) mn)) (hS : va_S A s.heap H locs) : W p l e room_1 s m #[Value.ref b] below meth c0 H locs cells slots Q (F0 m 1096 ls []) := by
  obtain ⟨hx, hb, C0, hX, hbl, hbA, hi, hL4, hl, hcs1, hcs2⟩ := hC
  by_cases hb3 : (ckIn (xs (i + 1)) (nI 0) (nI 3) && ckIn (xs (i + 3)) (nI 0) (nI 3)) = true
  · obtain ⟨hba, hbb⟩ := (Bool.and_eq_true _ _).mp hb3
    obtain ⟨s1, -, hs1, ex1⟩ := (ckIn_n (by decide) (by decide)).mp hba
    obtain ⟨s2, -, hs2, ex2⟩ := (ckIn_n (by decide) (by decide)).mp hbb
    have hs1 : s1 < 4 := by omega
    have hs2 : s2 < 4 := by omega
    refine lv_aload_n hx hb dL_law_1096 rfl (lv_at hl 1 rfl) ?_
    refine lw_rd 1 hx hb hX hbl hbA hS hl hi hL4 (by decide) (by decide) dL_law_1097 dL_law_1098 dL_law_1099 dL_law_1100 dL_law_1101 ?_
    refine lw_rd 2 hx hb hX hbl hbA hS hl hi hL4 (by decide) (by decide) dL_law_1102 dL_law_1103 dL_law_1104 dL_law_1105 dL_law_1106 ?_
    refine lw_rd 3 hx hb hX hbl hbA hS hl hi hL4 (by decide) (by decide) dL_law_1107 dL_law_1108 dL_law_1109 dL_law_1110 dL_law_1111 ?_
    refine lw_rd 4 hx hb hX hbl hbA hS hl hi hL4 (by decide) (by decide) dL_law_1112 dL_law_1113 dL_law_1114 dL_law_1115 dL_law_1116 ?_
    refine lw_rd 5 hx hb hX hbl hbA hS hl hi hL4 (by decide) (by decide) dL_law_1117 dL_law_1118 dL_law_1119 dL_law_1120 dL_law_1121 ?_
    refine ck_Vi (As := [.int (nI s1), .int (xs (i + 2)), .int (nI s2), .int (xs (i + 4)), .int (xs (i + 5))]) (rest := []) (wr := MW N am cm (nn 2) (nn 3) (ii 1) mn) C0 hP hD hS (u_X10_copy_k l N ad shp c ch cs nn bt ct ns ii stf sl s1 s2 (xs (i + 2)) (xs (i + 4)) (xs (i + 5))  hs1 (hJ.2.2.1 s1 hs1).1 (hJ.2.2.1 s1 hs1).2.1 (by have q := (hJ.2.2.1 s1 hs1).2.2.1; omega) hs2 (hJ.2.2.1 s2 hs2).1 (hJ.2.2.1 s2 hs2).2.1 (by have q := (hJ.2.2.1 s2 hs2).2.2.1; omega)) myX10_copy k3_206 ⟨Nat.le_of_ble_eq_true rfl, Nat.le_of_ble_eq_true rfl⟩ _ _ (ckX_L _ _) 0 rfl rfl rfl rfl hl.1 (by rw [ex1, ex2]; rfl) (Nat.le_of_ble_eq_true rfl) dL_law_1122 ⟨by show cells + 0 ≤ 600000; omega, by show slots + 0 ≤ 7302250; omega⟩ (fun r1 u H locs hw hP hD hS => ?_)
    obtain ⟨fd2, nu4, hp1, rfl⟩ := hw
    have hP : va_P N.1 vwCl (MW N am cm (nn 2) (nn 3) (ii 1) mn ++ CW N ad shp c (up1 ch s2 nu4) cs nn bt ct ns (up1 ii 1 fd2) stf sl) H := hP
    have hD : va_D A (MW N am cm (nn 2) (nn 3) (ii 1) mn ++ CW N ad shp c (up1 ch s2 nu4) cs nn bt ct ns (up1 ii 1 fd2) stf sl) := hD
    refine lv_aload_n hx hb dL_law_1125 rfl (lv_at hl 2 rfl) ?_
    refine lw_rd 1 hx hb hX hbl hbA hS hl hi hL4 (by decide) (by decide) dL_law_1126 dL_law_1127 dL_law_1128 dL_law_1129 dL_law_1130 ?_
    refine lw_rd 2 hx hb hX hbl hbA hS hl hi hL4 (by decide) (by decide) dL_law_1131 dL_law_1132 dL_law_1133 dL_law_1134 dL_law_1135 ?_
    refine lw_rd 3 hx hb hX hbl hbA hS hl hi hL4 (by decide) (by decide) dL_law_1136 dL_law_1137 dL_law_1138 dL_law_1139 dL_law_1140 ?_
    refine lw_rd 4 hx hb hX hbl hbA hS hl hi hL4 (by decide) (by decide) dL_law_1141 dL_law_1142 dL_law_1143 dL_law_1144 dL_law_1145 ?_
    refine lw_rd 5 hx hb hX hbl hbA hS hl hi hL4 (by decide) (by decide) dL_law_1146 dL_law_1147 dL_law_1148 dL_law_1149 dL_law_1150 ?_
    refine ck_Vi (As := [.int (nI s1), .int (xs (i + 2)), .int (nI s2), .int (xs (i + 4)), .int (xs (i + 5))]) (rest := [.int r1]) (wr := CW N ad shp c (up1 ch s2 nu4) cs nn bt ct ns (up1 ii 1 fd2) stf sl) C0 hP hD hS (u_X11_copy_k l N am cm (nn 2) (nn 3) (ii 1) mn s1 (bt s1) (ct s1) (ch s1) s2 (bt s2) (ct s2) (ch s2) (xs (i + 2)) (xs (i + 4)) (xs (i + 5)) hs1 (hJ.2.2.1 s1 hs1).2.2.2.1 (hJ.2.2.1 s1 hs1).2.2.2.2.1 (hJ.2.2.1 s1 hs1).2.2.2.2.2 (hJ.2.2.1 s1 hs1).2.1 (by have q := (hJ.2.2.1 s1 hs1).2.2.1; omega) hs2 (hJ.2.2.1 s2 hs2).2.2.2.1 (hJ.2.2.1 s2 hs2).2.2.2.2.1 (hJ.2.2.1 s2 hs2).2.2.2.2.2 (hJ.2.2.1 s2 hs2).2.1 (by have q := (hJ.2.2.1 s2 hs2).2.2.1; omega)) myX11_copy k5_46 ⟨Nat.le_of_ble_eq_true rfl, Nat.le_of_ble_eq_true rfl⟩ _ _ (ckX_L _ _) 0 rfl rfl rfl rfl hl.1 (by rw [ex1, ex2]; rfl) (Nat.le_of_ble_eq_true rfl) dL_law_1151 ⟨by show cells + 0 + 0 ≤ 600000; omega, by show slots + 0 + 0 ≤ 7302250; omega⟩ (fun r2 v H locs hw hP hD hS => ?_)
    obtain ⟨fd2m, st4m, ca4m, hp2, rfl⟩ := hw
    have hP : va_P N.1 vwCl (CW N ad shp c (up1 ch s2 nu4) cs nn bt ct ns (up1 ii 1 fd2) stf sl ++ MW N am (up1 (up1 cm 4 st4m) 12 ca4m) (nn 2) (nn 3) fd2m mn) H := hP
    have hD : va_D A (CW N ad shp c (up1 ch s2 nu4) cs nn bt ct ns (up1 ii 1 fd2) stf sl ++ MW N am (up1 (up1 cm 4 st4m) 12 ca4m) (nn 2) (nn 3) fd2m mn) := hD
    obtain ⟨hr1, ho1⟩ := hp1
    obtain ⟨hr2, ho2⟩ := hp2
    obtain ⟨er, ef⟩ := ckRd_eq hr1 hr2
    subst ef
    refine lv_icmp_eq (tgt := 1238) hx hb dL_law_1154 (by decide) (fun _ => ?_) (fun q => absurd er q)
    refine W.widen (k := cells + 16) (n := slots + 596) (by show cells + 0 + 0 ≤ cells + 16; omega) (by show slots + 0 + 0 ≤ slots + 596; omega) ?_
    rcases ho1 with ⟨hF, rfl⟩ | ⟨hF, rfl⟩
    · rcases ho2 with ⟨-, h3, h4⟩ | ⟨q, -⟩
      · exact K c (up1 ch s2 (va_cpy (ch s1) (ch s2) (ix (xs (i + 2))) (ix (xs (i + 4))) (ix (xs (i + 5))))) cs nn bt ct ns (up1 ii 1 fd2) stf sl w (up1 (up1 cm 4 st4m) 12 ca4m) mn H locs ⟨⟨hJ.1.1, hJ.1.2.1, hJ.1.2.2.1, hJ.1.2.2.2⟩, hJ.2.1, JH_nu hJ.2.2.1 hs2 h3 h4, hJ.2.2.2.1, hJ.2.2.2.2⟩ hP hD hS
      · exact absurd hF q
    · rcases ho2 with ⟨q, -⟩ | ⟨-, rfl⟩
      · exact absurd q hF
      · exact K c (up1 ch s2 (ch s2)) cs nn bt ct ns (up1 ii 1 fd2) stf sl w (up1 (up1 cm 4 (cm 4)) 12 ca4m) mn H locs ⟨⟨hJ.1.1, hJ.1.2.1, hJ.1.2.2.1, hJ.1.2.2.2⟩, hJ.2.1, by rw [up1_self]; exact hJ.2.2.1, hJ.2.2.2.1, hJ.2.2.2.2⟩ hP hD hS
  · have hbad : (ckIn (xs (i + 1)) (nI 0) (nI 3) && ckIn (xs (i + 3)) (nI 0) (nI 3)) = false := eq_false_of_ne_true hb3
    refine lv_aload_n hx hb dL_law_1096 rfl (lv_at hl 1 rfl) ?_
    refine lw_rd 1 hx hb hX hbl hbA hS hl hi hL4 (by decide) (by decide) dL_law_1097 dL_law_1098 dL_law_1099 dL_law_1100 dL_law_1101 ?_
    refine lw_rd 2 hx hb hX hbl hbA hS hl hi hL4 (by decide) (by decide) dL_law_1102 dL_law_1103 dL_law_1104 dL_law_1105 dL_law_1106 ?_
    refine lw_rd 3 hx hb hX hbl hbA hS hl hi hL4 (by decide) (by decide) dL_law_1107 dL_law_1108 dL_law_1109 dL_law_1110 dL_law_1111 ?_
    refine lw_rd 4 hx hb hX hbl hbA hS hl hi hL4 (by decide) (by decide) dL_law_1112 dL_law_1113 dL_law_1114 dL_law_1115 dL_law_1116 ?_
    refine lw_rd 5 hx hb hX hbl hbA hS hl hi hL4 (by decide) (by decide) dL_law_1117 dL_law_1118 dL_law_1119 dL_law_1120 dL_law_1121 ?_
    refine ck_Vi (As := [.int (xs (i + 1)), .int (xs (i + 2)), .int (xs (i + 3)), .int (xs (i + 4)), .int (xs (i + 5))]) (rest := []) (wr := MW N am cm (nn 2) (nn 3) (ii 1) mn) C0 hP hD hS (u_X10_copy_f l N ad shp c ch cs nn bt ct ns ii stf sl (xs (i + 2)) (xs (i + 4)) (xs (i + 5)) (xs (i + 1)) (xs (i + 3))  hbad) myX10_copy k3_206 ⟨Nat.le_of_ble_eq_true rfl, Nat.le_of_ble_eq_true rfl⟩ _ _ (ckX_L _ _) 0 rfl rfl rfl rfl hl.1 rfl (Nat.le_of_ble_eq_true rfl) dL_law_1122 ⟨by show cells + 0 ≤ 600000; omega, by show slots + 0 ≤ 7302250; omega⟩ (fun r1 u H locs hw hP hD hS => ?_)
    obtain ⟨fd2, hp1, rfl⟩ := hw
    have hP : va_P N.1 vwCl (MW N am cm (nn 2) (nn 3) (ii 1) mn ++ CW N ad shp c ch cs nn bt ct ns (up1 ii 1 fd2) stf sl) H := hP
    have hD : va_D A (MW N am cm (nn 2) (nn 3) (ii 1) mn ++ CW N ad shp c ch cs nn bt ct ns (up1 ii 1 fd2) stf sl) := hD
    refine lv_aload_n hx hb dL_law_1125 rfl (lv_at hl 2 rfl) ?_
    refine lw_rd 1 hx hb hX hbl hbA hS hl hi hL4 (by decide) (by decide) dL_law_1126 dL_law_1127 dL_law_1128 dL_law_1129 dL_law_1130 ?_
    refine lw_rd 2 hx hb hX hbl hbA hS hl hi hL4 (by decide) (by decide) dL_law_1131 dL_law_1132 dL_law_1133 dL_law_1134 dL_law_1135 ?_
    refine lw_rd 3 hx hb hX hbl hbA hS hl hi hL4 (by decide) (by decide) dL_law_1136 dL_law_1137 dL_law_1138 dL_law_1139 dL_law_1140 ?_
    refine lw_rd 4 hx hb hX hbl hbA hS hl hi hL4 (by decide) (by decide) dL_law_1141 dL_law_1142 dL_law_1143 dL_law_1144 dL_law_1145 ?_
    refine lw_rd 5 hx hb hX hbl hbA hS hl hi hL4 (by decide) (by decide) dL_law_1146 dL_law_1147 dL_law_1148 dL_law_1149 dL_law_1150 ?_
    refine ck_Vi (As := [.int (xs (i + 1)), .int (xs (i + 2)), .int (xs (i + 3)), .int (xs (i + 4)), .int (xs (i + 5))]) (rest := [.int r1]) (wr := CW N ad shp c ch cs nn bt ct ns (up1 ii 1 fd2) stf sl) C0 hP hD hS (u_X11_copy_f l N am cm (nn 2) (nn 3) (ii 1) mn (xs (i + 2)) (xs (i + 4)) (xs (i + 5)) (xs (i + 1)) (xs (i + 3)) hbad) myX11_copy k5_46 ⟨Nat.le_of_ble_eq_true rfl, Nat.le_of_ble_eq_true rfl⟩ _ _ (ckX_L _ _) 0 rfl rfl rfl rfl hl.1 rfl (Nat.le_of_ble_eq_true rfl) dL_law_1151 ⟨by show cells + 0 + 0 ≤ 600000; omega, by show slots + 0 + 0 ≤ 7302250; omega⟩ (fun r2 v H locs hw hP hD hS => ?_)
    obtain ⟨fd2m, hp2, rfl⟩ := hw
    have hP : va_P N.1 vwCl (CW N ad shp c ch cs nn bt ct ns (up1 ii 1 fd2) stf sl ++ MW N am cm (nn 2) (nn 3) fd2m mn) H := hP
    have hD : va_D A (CW N ad shp c ch cs nn bt ct ns (up1 ii 1 fd2) stf sl ++ MW N am cm (nn 2) (nn 3) fd2m mn) := hD
    obtain ⟨er, ef⟩ := ckRd_eq hp1 hp2
    subst ef
    refine lv_icmp_eq (tgt := 1238) hx hb dL_law_1154 (by decide) (fun _ => ?_) (fun q => absurd er q)
    refine W.widen (k := cells + 16) (n := slots + 596) (by show cells + 0 + 0 ≤ cells + 16; omega) (by show slots + 0 + 0 ≤ slots + 596; omega) ?_
    exact K c ch cs nn bt ct ns (up1 ii 1 fd2) stf sl w cm mn H locs ⟨⟨hJ.1.1, hJ.1.2.1, hJ.1.2.2.1, hJ.1.2.2.2⟩, hJ.2.1, hJ.2.2.1, hJ.2.2.2.1, hJ.2.2.2.2⟩ hP hD hS
set_option maxHeartbeats 4000000 in
set_option maxRecDepth 100000 in
theorem L_same {p : Program} {l : Launch} {e : Env} {s : State} {m : MethodId} {below : List Frame} {meth : Method} {c0 : Code} {cells slots : Nat} {Q : State → Prop} {N : ckN} {A : Nat → Prop} {b L i : Nat} {xs : Nat → Int32} {ls : Array Slot} {ad am : Nat → Nat} {shp : Nat → Option Nat} {H : Heap} {locs : List Loc} {c ch cs : Nat → Nat → Int32} {nn bt ct ns : Nat → Nat} {ii : Nat → Int32} {stf : Nat → Option Nat} {sl : Nat → va_W} {w : Nat → List Nat} {cm : Nat → Nat → Int32} {mn : Nat} (hC : LC p s m c0 cells slots N A b L i xs ls ad am) (K : LK p l e s m below meth c0 cells slots Q N A b ls ad am shp) (hJ : Jv N ad shp c ch nn bt ct ii stf sl w cm) (hP : va_P N.1 vwCl (CW N ad shp c ch cs nn bt ct ns ii stf sl ++ MW N am cm (nn 2) (nn 3) (ii 1) mn) H) (hD : va_D A (CW N ad shp c ch cs nn bt ct ns ii stf sl ++ MW N am cm (nn 2) (nn 3) (ii 1) mn)) (hS : va_S A s.heap H locs) : W p l e room_1 s m #[Value.ref b] below meth c0 H locs cells slots Q (F0 m 898 ls []) := by
  obtain ⟨hx, hb, C0, hX, hbl, hbA, hi, hL4, hl, hcs1, hcs2⟩ := hC
  by_cases hb3 : (ckIn (xs (i + 2)) (nI 0) (nI 3) && ckIn (xs (i + 3)) (nI 0) (nI 3)) = true
  · obtain ⟨hba, hbb⟩ := (Bool.and_eq_true _ _).mp hb3
    obtain ⟨s1, -, hs1, ex1⟩ := (ckIn_n (by decide) (by decide)).mp hba
    obtain ⟨s2, -, hs2, ex2⟩ := (ckIn_n (by decide) (by decide)).mp hbb
    have hs1 : s1 < 4 := by omega
    have hs2 : s2 < 4 := by omega
    refine lv_aload_n hx hb dL_law_898 rfl (lv_at hl 1 rfl) ?_
    refine lw_rd 1 hx hb hX hbl hbA hS hl hi hL4 (by decide) (by decide) dL_law_899 dL_law_900 dL_law_901 dL_law_902 dL_law_903 ?_
    refine lw_rd 2 hx hb hX hbl hbA hS hl hi hL4 (by decide) (by decide) dL_law_904 dL_law_905 dL_law_906 dL_law_907 dL_law_908 ?_
    refine lw_rd 3 hx hb hX hbl hbA hS hl hi hL4 (by decide) (by decide) dL_law_909 dL_law_910 dL_law_911 dL_law_912 dL_law_913 ?_
    refine ck_Vi (As := [.int (xs (i + 1)), .int (nI s1), .int (nI s2)]) (rest := []) (wr := MW N am cm (nn 2) (nn 3) (ii 1) mn) C0 hP hD hS (u_X10_same_k l N ad shp c ch cs nn bt ct ns ii stf sl s1 s2 (xs (i + 1))  hs1 (hJ.2.2.1 s1 hs1).1 (hJ.2.2.1 s1 hs1).2.1 (by have q := (hJ.2.2.1 s1 hs1).2.2.1; omega) hs2 (hJ.2.2.1 s2 hs2).1 (hJ.2.2.1 s2 hs2).2.1 (by have q := (hJ.2.2.1 s2 hs2).2.2.1; omega)) myX10_same k3_145 ⟨Nat.le_of_ble_eq_true rfl, Nat.le_of_ble_eq_true rfl⟩ _ _ (ckX_L _ _) 0 rfl rfl rfl rfl hl.1 (by rw [ex1, ex2]; rfl) (Nat.le_of_ble_eq_true rfl) dL_law_914 ⟨by show cells + 0 ≤ 600000; omega, by show slots + 0 ≤ 7302250; omega⟩ (fun r1 u H locs hw hP hD hS => ?_)
    obtain ⟨fd2, tlf2, tgf2, tn2, olf2, ogf2, on2, jl2, jn2, hp1, rfl⟩ := hw
    have hP : va_P N.1 vwCl (MW N am cm (nn 2) (nn 3) (ii 1) mn ++ CW N ad shp c ch (up1 (up1 (up1 (up1 (up1 cs 2 tlf2) 3 tgf2) 4 olf2) 5 ogf2) 0 jl2) nn bt ct (up1 (up1 ns 0 tn2) 1 on2) (up1 (up1 ii 1 fd2) 2 jn2) stf sl) H := hP
    have hD : va_D A (MW N am cm (nn 2) (nn 3) (ii 1) mn ++ CW N ad shp c ch (up1 (up1 (up1 (up1 (up1 cs 2 tlf2) 3 tgf2) 4 olf2) 5 ogf2) 0 jl2) nn bt ct (up1 (up1 ns 0 tn2) 1 on2) (up1 (up1 ii 1 fd2) 2 jn2) stf sl) := hD
    refine lv_aload_n hx hb dL_law_917 rfl (lv_at hl 2 rfl) ?_
    refine lw_rd 1 hx hb hX hbl hbA hS hl hi hL4 (by decide) (by decide) dL_law_918 dL_law_919 dL_law_920 dL_law_921 dL_law_922 ?_
    refine lw_rd 2 hx hb hX hbl hbA hS hl hi hL4 (by decide) (by decide) dL_law_923 dL_law_924 dL_law_925 dL_law_926 dL_law_927 ?_
    refine lw_rd 3 hx hb hX hbl hbA hS hl hi hL4 (by decide) (by decide) dL_law_928 dL_law_929 dL_law_930 dL_law_931 dL_law_932 ?_
    refine ck_Vi (As := [.int (xs (i + 1)), .int (nI s1), .int (nI s2)]) (rest := [.int r1]) (wr := CW N ad shp c ch (up1 (up1 (up1 (up1 (up1 cs 2 tlf2) 3 tgf2) 4 olf2) 5 ogf2) 0 jl2) nn bt ct (up1 (up1 ns 0 tn2) 1 on2) (up1 (up1 ii 1 fd2) 2 jn2) stf sl) C0 hP hD hS (u_X11_same_k l N am cm (nn 2) (nn 3) (ii 1) mn s1 (ct s1) (ch s1) s2 (ct s2) (ch s2) (bt s1) (bt s2) (xs (i + 1)) hs1 (hJ.2.2.1 s1 hs1).2.2.2.2.1 (hJ.2.2.1 s1 hs1).2.2.2.2.2 (hJ.2.2.1 s1 hs1).2.1 hs2 (hJ.2.2.1 s2 hs2).2.2.2.2.1 (hJ.2.2.1 s2 hs2).2.2.2.2.2 (hJ.2.2.1 s2 hs2).2.1 (hJ.2.2.1 s1 hs1).2.2.2.1 (hJ.2.2.1 s2 hs2).2.2.2.1 (by have q := (hJ.2.2.1 s1 hs1).2.2.1; omega) (by have q := (hJ.2.2.1 s2 hs2).2.2.1; omega)) myX11_same k5_10 ⟨Nat.le_of_ble_eq_true rfl, Nat.le_of_ble_eq_true rfl⟩ _ _ (ckX_L _ _) 0 rfl rfl rfl rfl hl.1 (by rw [ex1, ex2]; rfl) (Nat.le_of_ble_eq_true rfl) dL_law_933 ⟨by show cells + 0 + 0 ≤ 600000; omega, by show slots + 0 + 0 ≤ 7302250; omega⟩ (fun r2 v H locs hw hP hD hS => ?_)
    obtain ⟨fd2m, lo2m, bk2m, md2m, mn2m, hp2, rfl⟩ := hw
    have hP : va_P N.1 vwCl (CW N ad shp c ch (up1 (up1 (up1 (up1 (up1 cs 2 tlf2) 3 tgf2) 4 olf2) 5 ogf2) 0 jl2) nn bt ct (up1 (up1 ns 0 tn2) 1 on2) (up1 (up1 ii 1 fd2) 2 jn2) stf sl ++ MW N am (up1 (up1 (up1 cm 9 lo2m) 8 bk2m) 10 md2m) (nn 2) (nn 3) fd2m mn2m) H := hP
    have hD : va_D A (CW N ad shp c ch (up1 (up1 (up1 (up1 (up1 cs 2 tlf2) 3 tgf2) 4 olf2) 5 ogf2) 0 jl2) nn bt ct (up1 (up1 ns 0 tn2) 1 on2) (up1 (up1 ii 1 fd2) 2 jn2) stf sl ++ MW N am (up1 (up1 (up1 cm 9 lo2m) 8 bk2m) 10 md2m) (nn 2) (nn 3) fd2m mn2m) := hD
    obtain ⟨er, ef⟩ := ckRd_eq hp1 hp2
    subst ef
    refine lv_icmp_eq (tgt := 1238) hx hb dL_law_936 (by decide) (fun _ => ?_) (fun q => absurd er q)
    refine W.widen (k := cells + 16) (n := slots + 596) (by show cells + 0 + 0 ≤ cells + 16; omega) (by show slots + 0 + 0 ≤ slots + 596; omega) ?_
    exact K c ch (up1 (up1 (up1 (up1 (up1 cs 2 tlf2) 3 tgf2) 4 olf2) 5 ogf2) 0 jl2) nn bt ct (up1 (up1 ns 0 tn2) 1 on2) (up1 (up1 ii 1 fd2) 2 jn2) stf sl w (up1 (up1 (up1 cm 9 lo2m) 8 bk2m) 10 md2m) mn2m H locs ⟨⟨hJ.1.1, hJ.1.2.1, hJ.1.2.2.1, hJ.1.2.2.2⟩, hJ.2.1, hJ.2.2.1, hJ.2.2.2.1, hJ.2.2.2.2⟩ hP hD hS
  · have hbad : (ckIn (xs (i + 2)) (nI 0) (nI 3) && ckIn (xs (i + 3)) (nI 0) (nI 3)) = false := eq_false_of_ne_true hb3
    refine lv_aload_n hx hb dL_law_898 rfl (lv_at hl 1 rfl) ?_
    refine lw_rd 1 hx hb hX hbl hbA hS hl hi hL4 (by decide) (by decide) dL_law_899 dL_law_900 dL_law_901 dL_law_902 dL_law_903 ?_
    refine lw_rd 2 hx hb hX hbl hbA hS hl hi hL4 (by decide) (by decide) dL_law_904 dL_law_905 dL_law_906 dL_law_907 dL_law_908 ?_
    refine lw_rd 3 hx hb hX hbl hbA hS hl hi hL4 (by decide) (by decide) dL_law_909 dL_law_910 dL_law_911 dL_law_912 dL_law_913 ?_
    refine ck_Vi (As := [.int (xs (i + 1)), .int (xs (i + 2)), .int (xs (i + 3))]) (rest := []) (wr := MW N am cm (nn 2) (nn 3) (ii 1) mn) C0 hP hD hS (u_X10_same_f l N ad shp c ch cs nn bt ct ns ii stf sl (xs (i + 1)) (xs (i + 2)) (xs (i + 3))  hbad) myX10_same k3_145 ⟨Nat.le_of_ble_eq_true rfl, Nat.le_of_ble_eq_true rfl⟩ _ _ (ckX_L _ _) 0 rfl rfl rfl rfl hl.1 rfl (Nat.le_of_ble_eq_true rfl) dL_law_914 ⟨by show cells + 0 ≤ 600000; omega, by show slots + 0 ≤ 7302250; omega⟩ (fun r1 u H locs hw hP hD hS => ?_)
    obtain ⟨fd2, hp1, rfl⟩ := hw
    have hP : va_P N.1 vwCl (MW N am cm (nn 2) (nn 3) (ii 1) mn ++ CW N ad shp c ch cs nn bt ct ns (up1 ii 1 fd2) stf sl) H := hP
    have hD : va_D A (MW N am cm (nn 2) (nn 3) (ii 1) mn ++ CW N ad shp c ch cs nn bt ct ns (up1 ii 1 fd2) stf sl) := hD
    refine lv_aload_n hx hb dL_law_917 rfl (lv_at hl 2 rfl) ?_
    refine lw_rd 1 hx hb hX hbl hbA hS hl hi hL4 (by decide) (by decide) dL_law_918 dL_law_919 dL_law_920 dL_law_921 dL_law_922 ?_
    refine lw_rd 2 hx hb hX hbl hbA hS hl hi hL4 (by decide) (by decide) dL_law_923 dL_law_924 dL_law_925 dL_law_926 dL_law_927 ?_
    refine lw_rd 3 hx hb hX hbl hbA hS hl hi hL4 (by decide) (by decide) dL_law_928 dL_law_929 dL_law_930 dL_law_931 dL_law_932 ?_
    refine ck_Vi (As := [.int (xs (i + 1)), .int (xs (i + 2)), .int (xs (i + 3))]) (rest := [.int r1]) (wr := CW N ad shp c ch cs nn bt ct ns (up1 ii 1 fd2) stf sl) C0 hP hD hS (u_X11_same_f l N am cm (nn 2) (nn 3) (ii 1) mn (xs (i + 1)) (xs (i + 2)) (xs (i + 3)) hbad) myX11_same k5_10 ⟨Nat.le_of_ble_eq_true rfl, Nat.le_of_ble_eq_true rfl⟩ _ _ (ckX_L _ _) 0 rfl rfl rfl rfl hl.1 rfl (Nat.le_of_ble_eq_true rfl) dL_law_933 ⟨by show cells + 0 + 0 ≤ 600000; omega, by show slots + 0 + 0 ≤ 7302250; omega⟩ (fun r2 v H locs hw hP hD hS => ?_)
    obtain ⟨fd2m, hp2, rfl⟩ := hw
    have hP : va_P N.1 vwCl (CW N ad shp c ch cs nn bt ct ns (up1 ii 1 fd2) stf sl ++ MW N am cm (nn 2) (nn 3) fd2m mn) H := hP
    have hD : va_D A (CW N ad shp c ch cs nn bt ct ns (up1 ii 1 fd2) stf sl ++ MW N am cm (nn 2) (nn 3) fd2m mn) := hD
    obtain ⟨er, ef⟩ := ckRd_eq hp1 hp2
    subst ef
    refine lv_icmp_eq (tgt := 1238) hx hb dL_law_936 (by decide) (fun _ => ?_) (fun q => absurd er q)
    refine W.widen (k := cells + 16) (n := slots + 596) (by show cells + 0 + 0 ≤ cells + 16; omega) (by show slots + 0 + 0 ≤ slots + 596; omega) ?_
    exact K c ch cs nn bt ct ns (up1 ii 1 fd2) stf sl w cm mn H locs ⟨⟨hJ.1.1, hJ.1.2.1, hJ.1.2.2.1, hJ.1.2.2.2⟩, hJ.2.1, hJ.2.2.1, hJ.2.2.2.1, hJ.2.2.2.2⟩ hP hD hS
