/-! what holds at the law's entry -/
theorem lw_t1 {w : Cond} (h : w ∈ tables_1_1) : w ∈ lw_tbl := List.mem_append_right _ (List.mem_append_left _ h)
theorem lw_t2 {w : Cond} (h : w ∈ tables_1_2) : w ∈ lw_tbl := List.mem_append_right _ (List.mem_append_right _ (List.mem_append_left _ h))
theorem lw_t3 {w : Cond} (h : w ∈ tables_1_3) : w ∈ lw_tbl := List.mem_append_right _ (List.mem_append_right _ (List.mem_append_right _ (List.mem_append_left _ h)))
theorem lw_t4 {w : Cond} (h : w ∈ tables_1_4) : w ∈ lw_tbl := List.mem_append_right _ (List.mem_append_right _ (List.mem_append_right _ (List.mem_append_right _ (List.mem_append_left _ h))))
theorem lw_t5 {w : Cond} (h : w ∈ tables_1_5) : w ∈ lw_tbl := List.mem_append_right _ (List.mem_append_right _ (List.mem_append_right _ (List.mem_append_right _ (List.mem_append_right _ (h)))))
theorem z1_26 : Cond.methodLinkNest "KiteMeet" (9) yX6_init "KiteMeet" ∈ lw_tbl := lw_t1 (List.mem_of_getElem? (i := 26) rfl)
theorem z1_32 : Cond.methodLinkNest "KiteMeet$State" (9) yX0_init "KiteMeet" ∈ lw_tbl := lw_t1 (List.mem_of_getElem? (i := 32) rfl)
theorem z1_38 : Cond.methodLinkNest "KiteMeet$Air" (11) yX1_init "KiteMeet" ∈ lw_tbl := lw_t1 (List.mem_of_getElem? (i := 38) rfl)
theorem z1_44 : Cond.fieldLinkNest "KiteMeet$Air" (70) "KiteMeet$Flyers" "count" "I" "KiteMeet" ∈ lw_tbl := lw_t1 (List.mem_of_getElem? (i := 44) rfl)
theorem z1_45 : Cond.fieldLinkNest "KiteMeet" (301) "KiteMeet$Flyers" "count" "I" "KiteMeet" ∈ lw_tbl := lw_t1 (List.mem_of_getElem? (i := 45) rfl)
theorem z1_54 : Cond.methodLinkNest "KiteMeet$Air" (20) yX8_init "KiteMeet" ∈ lw_tbl := lw_t1 (List.mem_of_getElem? (i := 54) rfl)
theorem z1_66 : Cond.fieldLinkNest "KiteMeet$State" (23) "KiteMeet$Air" "flyers" "LKiteMeet$Flyers;" "KiteMeet" ∈ lw_tbl := lw_t1 (List.mem_of_getElem? (i := 66) rfl)
theorem z1_67 : Cond.fieldLinkNest "KiteMeet" (86) "KiteMeet$Air" "flyers" "LKiteMeet$Flyers;" "KiteMeet" ∈ lw_tbl := lw_t1 (List.mem_of_getElem? (i := 67) rfl)
theorem z1_69 : Cond.fieldLinkNest "KiteMeet$State" (33) "KiteMeet$Air" "winds" "LKiteMeet$Winds;" "KiteMeet" ∈ lw_tbl := lw_t1 (List.mem_of_getElem? (i := 69) rfl)
theorem z1_70 : Cond.fieldLinkNest "KiteMeet" (137) "KiteMeet$Air" "winds" "LKiteMeet$Winds;" "KiteMeet" ∈ lw_tbl := lw_t1 (List.mem_of_getElem? (i := 70) rfl)
theorem z1_87 : Cond.methodLinkNest "KiteMeet$Row" (11) yX9_init "KiteMeet" ∈ lw_tbl := lw_t1 (List.mem_of_getElem? (i := 87) rfl)
theorem z1_92 : Cond.fieldLinkNest "KiteMeet$Joining" (19) "KiteMeet$Words" "lengths" "[I" "KiteMeet" ∈ lw_tbl := lw_t1 (List.mem_of_getElem? (i := 92) rfl)
theorem z1_93 : Cond.fieldLinkNest "KiteMeet" (230) "KiteMeet$Words" "lengths" "[I" "KiteMeet" ∈ lw_tbl := lw_t1 (List.mem_of_getElem? (i := 93) rfl)
theorem z1_96 : Cond.fieldLinkNest "KiteMeet$Untangling" (32) "KiteMeet$Words" "size" "I" "KiteMeet" ∈ lw_tbl := lw_t1 (List.mem_of_getElem? (i := 96) rfl)
theorem z1_113 : Cond.fieldLinkNest "KiteMeet" (212) "KiteMeet$Row" "words" "LKiteMeet$Words;" "KiteMeet" ∈ lw_tbl := lw_t1 (List.mem_of_getElem? (i := 113) rfl)
theorem z1_115 : Cond.fieldLinkNest "KiteMeet" (204) "KiteMeet$Row" "standing" "[I" "KiteMeet" ∈ lw_tbl := lw_t1 (List.mem_of_getElem? (i := 115) rfl)
theorem z1_118 : Cond.fieldLinkNest "KiteMeet" (268) "KiteMeet$Row" "sharpness" "[I" "KiteMeet" ∈ lw_tbl := lw_t1 (List.mem_of_getElem? (i := 118) rfl)
theorem z1_120 : Cond.fieldLinkNest "KiteMeet" (271) "KiteMeet$Row" "worn" "[I" "KiteMeet" ∈ lw_tbl := lw_t1 (List.mem_of_getElem? (i := 120) rfl)
theorem z1_122 : Cond.fieldLinkNest "KiteMeet" (201) "KiteMeet$Row" "size" "I" "KiteMeet" ∈ lw_tbl := lw_t1 (List.mem_of_getElem? (i := 122) rfl)
theorem z1_124 : Cond.fieldLinkNest "KiteMeet" (191) "KiteMeet$Row" "walks" "I" "KiteMeet" ∈ lw_tbl := lw_t1 (List.mem_of_getElem? (i := 124) rfl)
theorem z1_141 : Cond.fieldLinkNest "KiteMeet" (82) "KiteMeet$State" "air" "LKiteMeet$Air;" "KiteMeet" ∈ lw_tbl := lw_t1 (List.mem_of_getElem? (i := 141) rfl)
theorem z1_143 : Cond.fieldLinkNest "KiteMeet" (187) "KiteMeet$State" "row" "LKiteMeet$Row;" "KiteMeet" ∈ lw_tbl := lw_t1 (List.mem_of_getElem? (i := 143) rfl)
theorem z1_151 : Cond.methodLinkNest "KiteMeet" (18) yX2_init "KiteMeet" ∈ lw_tbl := lw_t1 (List.mem_of_getElem? (i := 151) rfl)
theorem z1_156 : Cond.arrayOver (FieldType.object "KiteMeet$State") ∈ lw_tbl := lw_t1 (List.mem_of_getElem? (i := 156) rfl)
theorem z1_160 : Cond.fieldLinkNest "KiteMeet" (297) "KiteMeet$History" "count" "I" "KiteMeet" ∈ lw_tbl := lw_t1 (List.mem_of_getElem? (i := 160) rfl)
theorem z1_169 : Cond.arrayOver (FieldType.object "KiteMeet$Sheet") ∈ lw_tbl := lw_t1 (List.mem_of_getElem? (i := 169) rfl)
theorem z1_172 : Cond.methodLinkNest "KiteMeet" (31) yX3_init "KiteMeet" ∈ lw_tbl := lw_t1 (List.mem_of_getElem? (i := 172) rfl)
theorem z1_177 : Cond.fieldLinkNest "KiteMeet$Words" (49) "KiteMeet$Joining" "letters" "[I" "KiteMeet" ∈ lw_tbl := lw_t1 (List.mem_of_getElem? (i := 177) rfl)
theorem z1_179 : Cond.fieldLinkNest "KiteMeet$Words" (34) "KiteMeet$Joining" "length" "I" "KiteMeet" ∈ lw_tbl := lw_t1 (List.mem_of_getElem? (i := 179) rfl)
theorem z1_187 : Cond.methodLinkNest "KiteMeet" (38) yX7_init "KiteMeet" ∈ lw_tbl := lw_t1 (List.mem_of_getElem? (i := 187) rfl)
theorem z1_192 : Cond.fieldLinkNest "KiteMeet" (245) "KiteMeet$Untangling" "walks" "[I" "KiteMeet" ∈ lw_tbl := lw_t1 (List.mem_of_getElem? (i := 192) rfl)
theorem z1_197 : Cond.methodLinkNest "KiteMeet" (45) yX9_init "KiteMeet" ∈ lw_tbl := lw_t1 (List.mem_of_getElem? (i := 197) rfl)
theorem z1_199 : Cond.methodLinkNest "KiteMeet" (53) yX5_init "KiteMeet" ∈ lw_tbl := lw_t1 (List.mem_of_getElem? (i := 199) rfl)
theorem z1_204 : Cond.fieldLinkNest "KiteMeet" (288) "KiteMeet$Sheet" "numbers" "[I" "KiteMeet" ∈ lw_tbl := lw_t1 (List.mem_of_getElem? (i := 204) rfl)
theorem z1_206 : Cond.fieldLinkNest "KiteMeet" (282) "KiteMeet$Sheet" "bits" "I" "KiteMeet" ∈ lw_tbl := lw_t1 (List.mem_of_getElem? (i := 206) rfl)
theorem z1_208 : Cond.fieldLinkNest "KiteMeet" (276) "KiteMeet$Sheet" "count" "I" "KiteMeet" ∈ lw_tbl := lw_t1 (List.mem_of_getElem? (i := 208) rfl)
theorem z2_41 : Cond.methodLinkNest "KiteMeet$History" (21) yX6_init "KiteMeet" ∈ lw_tbl := lw_t2 (List.mem_of_getElem? (i := 41) rfl)
theorem z2_91 : Cond.methodLinkNest "KiteMeet$Flyers" (27) yX10_leastOf "KiteMeet" ∈ lw_tbl := lw_t2 (List.mem_of_getElem? (i := 91) rfl)
theorem z2_92 : Cond.methodLinkNest "KiteMeet$Flyers" (31) yX10_mostOf "KiteMeet" ∈ lw_tbl := lw_t2 (List.mem_of_getElem? (i := 92) rfl)
theorem z2_109 : Cond.laysStatic "KiteMeet" "OVER" "[I" ∈ lw_tbl := lw_t2 (List.mem_of_getElem? (i := 109) rfl)
theorem z2_167 : Cond.methodLinkNest "KiteMeet$Air" (36) yX10_isUnder "KiteMeet" ∈ lw_tbl := lw_t2 (List.mem_of_getElem? (i := 167) rfl)
theorem z2_187 : Cond.fieldLinkNest "KiteMeet$Air" (55) "KiteMeet" "STEP_Y" "[I" "KiteMeet" ∈ lw_tbl := lw_t2 (List.mem_of_getElem? (i := 187) rfl)
theorem z2_188 : Cond.laysStatic "KiteMeet" "STEP_Y" "[I" ∈ lw_tbl := lw_t2 (List.mem_of_getElem? (i := 188) rfl)
theorem z2_198 : Cond.fieldLinkNest "KiteMeet$Air" (49) "KiteMeet" "STEP_X" "[I" "KiteMeet" ∈ lw_tbl := lw_t2 (List.mem_of_getElem? (i := 198) rfl)
theorem z2_199 : Cond.laysStatic "KiteMeet" "STEP_X" "[I" ∈ lw_tbl := lw_t2 (List.mem_of_getElem? (i := 199) rfl)
theorem z2_220 : Cond.methodLinkNest "KiteMeet$Air" (78) yX10_oneIf "KiteMeet" ∈ lw_tbl := lw_t2 (List.mem_of_getElem? (i := 220) rfl)
theorem z3_124 : Cond.laysStatic "KiteMeet$Untangling" "LONGEST" "[I" ∈ lw_tbl := lw_t3 (List.mem_of_getElem? (i := 124) rfl)
theorem z3_130 : Cond.methodLinkNest "KiteMeet$Untangling" (36) yX10_walksOf "KiteMeet" ∈ lw_tbl := lw_t3 (List.mem_of_getElem? (i := 130) rfl)
theorem z3_133 : Cond.methodLinkNest "KiteMeet$Untangling" (40) yX10_placeOf "KiteMeet" ∈ lw_tbl := lw_t3 (List.mem_of_getElem? (i := 133) rfl)
theorem z3_136 : Cond.methodLinkNest "KiteMeet$Untangling" (43) yX10_isFront "KiteMeet" ∈ lw_tbl := lw_t3 (List.mem_of_getElem? (i := 136) rfl)
theorem ckF_ok {s : State} {b : Nat} (hts : ∀ w ∈ lw_tbl, w.before #[Value.ref b] s = true) : ∀ q ∈ ckF, va_Nw (.fieldLinkNest q.1 q.2.1 q.2.2.1 q.2.2.2.1 q.2.2.2.2 "KiteMeet") s :=
  List.forall_mem_cons.mpr ⟨va_Nw.of rfl (hts _ z1_44), List.forall_mem_cons.mpr ⟨va_Nw.of rfl (hts _ z1_45), List.forall_mem_cons.mpr ⟨va_Nw.of rfl (hts _ z1_66), List.forall_mem_cons.mpr ⟨va_Nw.of rfl (hts _ z1_67), List.forall_mem_cons.mpr ⟨va_Nw.of rfl (hts _ z1_69), List.forall_mem_cons.mpr ⟨va_Nw.of rfl (hts _ z1_70), List.forall_mem_cons.mpr ⟨va_Nw.of rfl (hts _ z1_92), List.forall_mem_cons.mpr ⟨va_Nw.of rfl (hts _ z1_93), List.forall_mem_cons.mpr ⟨va_Nw.of rfl (hts _ z1_96), List.forall_mem_cons.mpr ⟨va_Nw.of rfl (hts _ z1_113), List.forall_mem_cons.mpr ⟨va_Nw.of rfl (hts _ z1_115), List.forall_mem_cons.mpr ⟨va_Nw.of rfl (hts _ z1_118), List.forall_mem_cons.mpr ⟨va_Nw.of rfl (hts _ z1_120), List.forall_mem_cons.mpr ⟨va_Nw.of rfl (hts _ z1_122), List.forall_mem_cons.mpr ⟨va_Nw.of rfl (hts _ z1_124), List.forall_mem_cons.mpr ⟨va_Nw.of rfl (hts _ z1_141), List.forall_mem_cons.mpr ⟨va_Nw.of rfl (hts _ z1_143), List.forall_mem_cons.mpr ⟨va_Nw.of rfl (hts _ z1_160), List.forall_mem_cons.mpr ⟨va_Nw.of rfl (hts _ z1_177), List.forall_mem_cons.mpr ⟨va_Nw.of rfl (hts _ z1_179), List.forall_mem_cons.mpr ⟨va_Nw.of rfl (hts _ z1_192), List.forall_mem_cons.mpr ⟨va_Nw.of rfl (hts _ z1_204), List.forall_mem_cons.mpr ⟨va_Nw.of rfl (hts _ z1_206), List.forall_mem_cons.mpr ⟨va_Nw.of rfl (hts _ z1_208), List.forall_mem_cons.mpr ⟨va_Nw.of rfl (hts _ z2_187), List.forall_mem_cons.mpr ⟨va_Nw.of rfl (hts _ z2_198), fun _ h => absurd h List.not_mem_nil⟩⟩⟩⟩⟩⟩⟩⟩⟩⟩⟩⟩⟩⟩⟩⟩⟩⟩⟩⟩⟩⟩⟩⟩⟩⟩
theorem ckM_ok {s : State} {b : Nat} (hts : ∀ w ∈ lw_tbl, w.before #[Value.ref b] s = true) : ∀ q ∈ ckM, va_Nw (.methodLinkNest q.1 q.2.1 q.2.2 "KiteMeet") s :=
  List.forall_mem_cons.mpr ⟨va_Nw.of rfl (hts _ z1_26), List.forall_mem_cons.mpr ⟨va_Nw.of rfl (hts _ z1_32), List.forall_mem_cons.mpr ⟨va_Nw.of rfl (hts _ z1_38), List.forall_mem_cons.mpr ⟨va_Nw.of rfl (hts _ z1_54), List.forall_mem_cons.mpr ⟨va_Nw.of rfl (hts _ z1_87), List.forall_mem_cons.mpr ⟨va_Nw.of rfl (hts _ z1_151), List.forall_mem_cons.mpr ⟨va_Nw.of rfl (hts _ z1_172), List.forall_mem_cons.mpr ⟨va_Nw.of rfl (hts _ z1_187), List.forall_mem_cons.mpr ⟨va_Nw.of rfl (hts _ z1_197), List.forall_mem_cons.mpr ⟨va_Nw.of rfl (hts _ z1_199), List.forall_mem_cons.mpr ⟨va_Nw.of rfl (hts _ z2_41), List.forall_mem_cons.mpr ⟨va_Nw.of rfl (hts _ z2_91), List.forall_mem_cons.mpr ⟨va_Nw.of rfl (hts _ z2_92), List.forall_mem_cons.mpr ⟨va_Nw.of rfl (hts _ z2_167), List.forall_mem_cons.mpr ⟨va_Nw.of rfl (hts _ z2_220), List.forall_mem_cons.mpr ⟨va_Nw.of rfl (hts _ z3_130), List.forall_mem_cons.mpr ⟨va_Nw.of rfl (hts _ z3_133), List.forall_mem_cons.mpr ⟨va_Nw.of rfl (hts _ z3_136), fun _ h => absurd h List.not_mem_nil⟩⟩⟩⟩⟩⟩⟩⟩⟩⟩⟩⟩⟩⟩⟩⟩⟩⟩
set_option maxHeartbeats 4000000 in
set_option maxRecDepth 100000 in
theorem ck_cls {s : State} {b : Nat} (hg : ∀ w ∈ wsG, w.before #[Value.ref b] s = true) : ∃ D : va_G, ∀ (k : Nat) (q : vw_C), vwCl[k]? = some q → u_Kn s q.1 q.2.1 q.2.2 (D.1 k) (D.2 k) := by
  obtain ⟨c0, i0, h0⟩ := u_known (C := RX0) (T := TX0) (N := 3) (n := 3) hg inX0 (hg _ k1_31)
  obtain ⟨c1, i1, h1⟩ := u_known (C := RX1) (T := TX1) (N := 2) (n := 2) hg inX1 (hg _ k1_37)
  obtain ⟨c2, i2, h2⟩ := u_known (C := RX2) (T := TX2) (N := 3) (n := 3) hg inX2 (hg _ k1_150)
  obtain ⟨c3, i3, h3⟩ := u_known (C := RX3) (T := TX3) (N := 2) (n := 2) hg inX3 (hg _ k1_171)
  obtain ⟨c4, i4, h4⟩ := u_known (C := RX4) (T := TX4) (N := 7) (n := 7) hg inX4 (hg _ k1_80)
  obtain ⟨c5, i5, h5⟩ := u_known (C := RX5) (T := TX5) (N := 3) (n := 3) hg inX5 (hg _ k1_198)
  obtain ⟨c6, i6, h6⟩ := u_known (C := RX6) (T := TX6) (N := 2) (n := 2) hg inX6 (hg _ k1_25)
  obtain ⟨c7, i7, h7⟩ := u_known (C := RX7) (T := TX7) (N := 1) (n := 1) hg inX7 (hg _ k1_186)
  obtain ⟨c8, i8, h8⟩ := u_known (C := RX8) (T := TX8) (N := 2) (n := 2) hg inX8 (hg _ k1_53)
  obtain ⟨c9, i9, h9⟩ := u_known (C := RX9) (T := TX9) (N := 3) (n := 3) hg inX9 (hg _ k1_86)
  obtain ⟨c10, i10, h10⟩ := u_known (C := RX10) (T := TX10) (N := 8) (n := 8) hg inX10 (hg _ k1_17)
  obtain ⟨c11, i11, h11⟩ := u_known (C := RX11) (T := TX11) (N := 17) (n := 17) hg inX11 (hg _ k3_233)
  refine ⟨(fun k => match k with | 0 => c0 | 1 => c1 | 2 => c2 | 3 => c3 | 4 => c4 | 5 => c5 | 6 => c6 | 7 => c7 | 8 => c8 | 9 => c9 | 10 => c10 | _ => c11, fun k => match k with | 0 => i0 | 1 => i1 | 2 => i2 | 3 => i3 | 4 => i4 | 5 => i5 | 6 => i6 | 7 => i7 | 8 => i8 | 9 => i9 | 10 => i10 | _ => i11), fun k q hq => ?_⟩
  match k, hq with
  | 0, hq => cases hq; exact h0
  | 1, hq => cases hq; exact h1
  | 2, hq => cases hq; exact h2
  | 3, hq => cases hq; exact h3
  | 4, hq => cases hq; exact h4
  | 5, hq => cases hq; exact h5
  | 6, hq => cases hq; exact h6
  | 7, hq => cases hq; exact h7
  | 8, hq => cases hq; exact h8
  | 9, hq => cases hq; exact h9
  | 10, hq => cases hq; exact h10
  | 11, hq => cases hq; exact h11
  | k + 12, hq => simp at hq
theorem ck_arI {s : State} {b : Nat} (h : (Cond.arrayClass FieldType.int).before #[Value.ref b] s = true) : ∃ cA : ClassId, ArrOfT s cA .int ∧ va_RA s cA .int := by
  obtain ⟨cA, kA, comp, h1, h2, h3⟩ := Cond.arrayClass_spec h
  exact ⟨cA, fun n z => ⟨fun k q => (by cases q), kA, h2, comp, h3⟩, h1⟩
theorem ck_arO {s : State} {b : Nat} {C : String} (h : (Cond.arrayOver (.object C)).before #[Value.ref b] s = true) : ∃ cA : ClassId, ArrOfT s cA (.object C) ∧ va_RA s cA (.object C) := by
  obtain ⟨comp, cA, kA, f4, -, f2, f3, f1⟩ := Cond.arrayOver_spec h
  exact ⟨cA, fun n z => ⟨fun k q => (by cases q), kA, f2, comp, f3⟩, kA, comp, f2, f3, f4, f1⟩
theorem ck_st0 {s : State} {b : Nat} (hts : ∀ w ∈ lw_tbl, w.before #[Value.ref b] s = true) (hg : ∀ w ∈ wsG, w.before #[Value.ref b] s = true) (hgv : (Jvm.Cond.and given_1 narrow_1).before #[Value.ref b] s = true) : ∃ t : Nat, va_Z "KiteMeet" "OVER" "[I" (.ref t) (fun q => s.heap.size ≤ q) s s.heap ∧ va_T .int t 4 (fun j => .int (ckOVER j)) (fun q => s.heap.size ≤ q) s s.heap := by
  have hs := flat_of_before _ hgv
  have hA : ∀ a : Nat, a < s.heap.size → ¬ (fun q : Nat => s.heap.size ≤ q) a := fun a h q => absurd h (Nat.not_lt.mpr q)
  have hel : ∀ j : Nat, j < 4 → (Term.elem (Term.static "KiteMeet" "OVER" "[I") (.int (Int32.ofNat j))).eval #[Value.ref b] s none [] s = some (.int (ckOVER j)) := by
    intro j hj
    rcases (show j = 0 ∨ j = 1 ∨ j = 2 ∨ j = 3 by omega) with rfl | rfl | rfl | rfl
    · exact va_eqt (hs (Cond.eq (.elem (Term.static "KiteMeet" "OVER" "[I") (.int 0)) (.int (-1))) (by decide +kernel))
    · exact va_eqt (hs (Cond.eq (.elem (Term.static "KiteMeet" "OVER" "[I") (.int 1)) (.int 0)) (by decide +kernel))
    · exact va_eqt (hs (Cond.eq (.elem (Term.static "KiteMeet" "OVER" "[I") (.int 2)) (.int 0)) (by decide +kernel))
    · exact va_eqt (hs (Cond.eq (.elem (Term.static "KiteMeet" "OVER" "[I") (.int 3)) (.int 1)) (by decide +kernel))
  obtain ⟨t, ht, hT⟩ := va_Tof (ty := .int) (N := 4) (f := fun j => .int (ckOVER j)) (A := fun q : Nat => s.heap.size ≤ q) (by decide) (hs (Cond.arrayOf (Term.static "KiteMeet" "OVER" "[I") .int) (by decide +kernel)) (va_eqt (hs (Cond.eq (.length (Term.static "KiteMeet" "OVER" "[I")) (.int 4)) (by decide +kernel))) hel hA
  exact ⟨t, va_Zof (hts _ z2_109) (hg _ k1_1) ht hA, hT⟩
theorem ck_st1 {s : State} {b : Nat} (hts : ∀ w ∈ lw_tbl, w.before #[Value.ref b] s = true) (hg : ∀ w ∈ wsG, w.before #[Value.ref b] s = true) (hgv : (Jvm.Cond.and given_1 narrow_1).before #[Value.ref b] s = true) : ∃ t : Nat, va_Z "KiteMeet" "STEP_X" "[I" (.ref t) (fun q => s.heap.size ≤ q) s s.heap ∧ va_T .int t 8 (fun j => .int (ckSX j)) (fun q => s.heap.size ≤ q) s s.heap := by
  have hs := flat_of_before _ hgv
  have hA : ∀ a : Nat, a < s.heap.size → ¬ (fun q : Nat => s.heap.size ≤ q) a := fun a h q => absurd h (Nat.not_lt.mpr q)
  have hel : ∀ j : Nat, j < 8 → (Term.elem (Term.static "KiteMeet" "STEP_X" "[I") (.int (Int32.ofNat j))).eval #[Value.ref b] s none [] s = some (.int (ckSX j)) := by
    intro j hj
    rcases (show j = 0 ∨ j = 1 ∨ j = 2 ∨ j = 3 ∨ j = 4 ∨ j = 5 ∨ j = 6 ∨ j = 7 by omega) with rfl | rfl | rfl | rfl | rfl | rfl | rfl | rfl
    · exact va_eqt (hs (Cond.eq (.elem (Term.static "KiteMeet" "STEP_X" "[I") (.int 0)) (.int 1)) (by decide +kernel))
    · exact va_eqt (hs (Cond.eq (.elem (Term.static "KiteMeet" "STEP_X" "[I") (.int 1)) (.int 1)) (by decide +kernel))
    · exact va_eqt (hs (Cond.eq (.elem (Term.static "KiteMeet" "STEP_X" "[I") (.int 2)) (.int 0)) (by decide +kernel))
    · exact va_eqt (hs (Cond.eq (.elem (Term.static "KiteMeet" "STEP_X" "[I") (.int 3)) (.int (-1))) (by decide +kernel))
    · exact va_eqt (hs (Cond.eq (.elem (Term.static "KiteMeet" "STEP_X" "[I") (.int 4)) (.int (-1))) (by decide +kernel))
    · exact va_eqt (hs (Cond.eq (.elem (Term.static "KiteMeet" "STEP_X" "[I") (.int 5)) (.int (-1))) (by decide +kernel))
    · exact va_eqt (hs (Cond.eq (.elem (Term.static "KiteMeet" "STEP_X" "[I") (.int 6)) (.int 0)) (by decide +kernel))
    · exact va_eqt (hs (Cond.eq (.elem (Term.static "KiteMeet" "STEP_X" "[I") (.int 7)) (.int 1)) (by decide +kernel))
  obtain ⟨t, ht, hT⟩ := va_Tof (ty := .int) (N := 8) (f := fun j => .int (ckSX j)) (A := fun q : Nat => s.heap.size ≤ q) (by decide) (hs (Cond.arrayOf (Term.static "KiteMeet" "STEP_X" "[I") .int) (by decide +kernel)) (va_eqt (hs (Cond.eq (.length (Term.static "KiteMeet" "STEP_X" "[I")) (.int 8)) (by decide +kernel))) hel hA
  exact ⟨t, va_Zof (hts _ z2_199) (hg _ k1_1) ht hA, hT⟩
theorem ck_st2 {s : State} {b : Nat} (hts : ∀ w ∈ lw_tbl, w.before #[Value.ref b] s = true) (hg : ∀ w ∈ wsG, w.before #[Value.ref b] s = true) (hgv : (Jvm.Cond.and given_1 narrow_1).before #[Value.ref b] s = true) : ∃ t : Nat, va_Z "KiteMeet" "STEP_Y" "[I" (.ref t) (fun q => s.heap.size ≤ q) s s.heap ∧ va_T .int t 8 (fun j => .int (ckSY j)) (fun q => s.heap.size ≤ q) s s.heap := by
  have hs := flat_of_before _ hgv
  have hA : ∀ a : Nat, a < s.heap.size → ¬ (fun q : Nat => s.heap.size ≤ q) a := fun a h q => absurd h (Nat.not_lt.mpr q)
  have hel : ∀ j : Nat, j < 8 → (Term.elem (Term.static "KiteMeet" "STEP_Y" "[I") (.int (Int32.ofNat j))).eval #[Value.ref b] s none [] s = some (.int (ckSY j)) := by
    intro j hj
    rcases (show j = 0 ∨ j = 1 ∨ j = 2 ∨ j = 3 ∨ j = 4 ∨ j = 5 ∨ j = 6 ∨ j = 7 by omega) with rfl | rfl | rfl | rfl | rfl | rfl | rfl | rfl
    · exact va_eqt (hs (Cond.eq (.elem (Term.static "KiteMeet" "STEP_Y" "[I") (.int 0)) (.int 0)) (by decide +kernel))
    · exact va_eqt (hs (Cond.eq (.elem (Term.static "KiteMeet" "STEP_Y" "[I") (.int 1)) (.int 1)) (by decide +kernel))
    · exact va_eqt (hs (Cond.eq (.elem (Term.static "KiteMeet" "STEP_Y" "[I") (.int 2)) (.int 1)) (by decide +kernel))
    · exact va_eqt (hs (Cond.eq (.elem (Term.static "KiteMeet" "STEP_Y" "[I") (.int 3)) (.int 1)) (by decide +kernel))
    · exact va_eqt (hs (Cond.eq (.elem (Term.static "KiteMeet" "STEP_Y" "[I") (.int 4)) (.int 0)) (by decide +kernel))
    · exact va_eqt (hs (Cond.eq (.elem (Term.static "KiteMeet" "STEP_Y" "[I") (.int 5)) (.int (-1))) (by decide +kernel))
    · exact va_eqt (hs (Cond.eq (.elem (Term.static "KiteMeet" "STEP_Y" "[I") (.int 6)) (.int (-1))) (by decide +kernel))
    · exact va_eqt (hs (Cond.eq (.elem (Term.static "KiteMeet" "STEP_Y" "[I") (.int 7)) (.int (-1))) (by decide +kernel))
  obtain ⟨t, ht, hT⟩ := va_Tof (ty := .int) (N := 8) (f := fun j => .int (ckSY j)) (A := fun q : Nat => s.heap.size ≤ q) (by decide) (hs (Cond.arrayOf (Term.static "KiteMeet" "STEP_Y" "[I") .int) (by decide +kernel)) (va_eqt (hs (Cond.eq (.length (Term.static "KiteMeet" "STEP_Y" "[I")) (.int 8)) (by decide +kernel))) hel hA
  exact ⟨t, va_Zof (hts _ z2_188) (hg _ k1_1) ht hA, hT⟩
theorem ck_st3 {s : State} {b : Nat} (hts : ∀ w ∈ lw_tbl, w.before #[Value.ref b] s = true) (hg : ∀ w ∈ wsG, w.before #[Value.ref b] s = true) (hgv : (Jvm.Cond.and given_1 narrow_1).before #[Value.ref b] s = true) : ∃ t : Nat, va_Z "KiteMeet$Untangling" "LONGEST" "[I" (.ref t) (fun q => s.heap.size ≤ q) s s.heap ∧ va_T .int t 4 (fun j => .int (ckLG j)) (fun q => s.heap.size ≤ q) s s.heap := by
  have hs := flat_of_before _ hgv
  have hA : ∀ a : Nat, a < s.heap.size → ¬ (fun q : Nat => s.heap.size ≤ q) a := fun a h q => absurd h (Nat.not_lt.mpr q)
  have hel : ∀ j : Nat, j < 4 → (Term.elem (Term.static "KiteMeet$Untangling" "LONGEST" "[I") (.int (Int32.ofNat j))).eval #[Value.ref b] s none [] s = some (.int (ckLG j)) := by
    intro j hj
    rcases (show j = 0 ∨ j = 1 ∨ j = 2 ∨ j = 3 by omega) with rfl | rfl | rfl | rfl
    · exact va_eqt (hs (Cond.eq (.elem (Term.static "KiteMeet$Untangling" "LONGEST" "[I") (.int 0)) (.int 1)) (by decide +kernel))
    · exact va_eqt (hs (Cond.eq (.elem (Term.static "KiteMeet$Untangling" "LONGEST" "[I") (.int 1)) (.int 3)) (by decide +kernel))
    · exact va_eqt (hs (Cond.eq (.elem (Term.static "KiteMeet$Untangling" "LONGEST" "[I") (.int 2)) (.int 9)) (by decide +kernel))
    · exact va_eqt (hs (Cond.eq (.elem (Term.static "KiteMeet$Untangling" "LONGEST" "[I") (.int 3)) (.int 27)) (by decide +kernel))
  obtain ⟨t, ht, hT⟩ := va_Tof (ty := .int) (N := 4) (f := fun j => .int (ckLG j)) (A := fun q : Nat => s.heap.size ≤ q) (by decide) (hs (Cond.arrayOf (Term.static "KiteMeet$Untangling" "LONGEST" "[I") .int) (by decide +kernel)) (va_eqt (hs (Cond.eq (.length (Term.static "KiteMeet$Untangling" "LONGEST" "[I")) (.int 4)) (by decide +kernel))) hel hA
  exact ⟨t, va_Zof (hts _ z3_124) (hg _ k1_10) ht hA, hT⟩
theorem ck_entry {s : State} {b : Nat} (hts : ∀ w ∈ lw_tbl, w.before #[Value.ref b] s = true) (hgv : (Jvm.Cond.and given_1 narrow_1).before #[Value.ref b] s = true) : ∃ N : ckN, ckE N (fun q => s.heap.size ≤ q) s := by
  have hg : ∀ w ∈ wsG, w.before #[Value.ref b] s = true := fun w h => hts w (wsG_in w h)
  obtain ⟨D, hD⟩ := ck_cls hg
  obtain ⟨a0, h0⟩ := ck_arI (hg _ k1_51)
  obtain ⟨a1, h1⟩ := ck_arO (C := "KiteMeet$Sheet") (hts _ z1_169)
  obtain ⟨a2, h2⟩ := ck_arO (C := "KiteMeet$State") (hts _ z1_156)
  obtain ⟨t0, z0⟩ := ck_st0 hts hg hgv
  obtain ⟨t1, z1⟩ := ck_st1 hts hg hgv
  obtain ⟨t2, z2⟩ := ck_st2 hts hg hgv
  obtain ⟨t3, z3⟩ := ck_st3 hts hg hgv
  refine ⟨(D, fun k => match k with | 0 => a0 | 1 => a1 | 2 => a2 | 3 => t0 | 4 => t1 | 5 => t2 | _ => t3), ⟨hD, fun k q hq => ?_⟩, ckF_ok hts, ckM_ok hts, va_AO.of (hts _ z1_169), va_AO.of (hts _ z1_156), z0, z1, z2, z3⟩
  match k, hq with
  | 0, hq => cases hq; exact h0
  | 1, hq => cases hq; exact h1
  | 2, hq => cases hq; exact h2
  | k + 3, hq => simp at hq
theorem lw_and (y : Int32) : ∃ j : Nat, j < 32 ∧ y &&& 31 = nI j := by
  refine ⟨(y &&& 31).toBitVec.toNat, ?_, ?_⟩
  · have h : (y &&& 31).toBitVec = y.toBitVec &&& 31#32 := rfl
    rw [h, BitVec.toNat_and]
    exact Nat.lt_of_le_of_lt Nat.and_le_right (by decide)
  · show y &&& 31 = Int32.ofBitVec (BitVec.ofNat 32 (y &&& 31).toBitVec.toNat)
    rw [BitVec.ofNat_toNat, BitVec.setWidth_eq]
    rfl
theorem lw_end {L i : Nat} (hL : L ≤ 448) (hi : i ≤ 448) (h : ¬ (nI L - nI 7) < nI i) : i + 7 ≤ L := by
  rcases Nat.lt_or_ge L 7 with q | q
  · exfalso
    apply h
    rw [i_lt, nI_toInt (n := i) (by omega)]
    have h2 : (nI L - nI 7).toInt < 0 := by
      rcases (show L = 0 ∨ L = 1 ∨ L = 2 ∨ L = 3 ∨ L = 4 ∨ L = 5 ∨ L = 6 by omega) with rfl | rfl | rfl | rfl | rfl | rfl | rfl <;> decide
    omega
  · have e : nI L - nI 7 = nI (L - 7) := by
      have e2 : nI L = nI (L - 7) + nI 7 := by rw [nI_add, Nat.sub_add_cancel q]
      rw [e2, Int32.add_sub_cancel]
    rw [e, nI_ltI (by omega) (by omega)] at h
    omega
