/-! plain functions of the JDK and of the class -/
def ckBa (x : Int32) : Int32 := x - ((x.toUInt32 >>> ((nI 1).toUInt32 &&& Int32.toUInt32 31)).toInt32 &&& (nI 1431655765))
def ckBb (x : Int32) : Int32 := (x &&& (nI 858993459)) + ((x.toUInt32 >>> ((nI 2).toUInt32 &&& Int32.toUInt32 31)).toInt32 &&& (nI 858993459))
def ckBd (x : Int32) : Int32 := (x + (x.toUInt32 >>> ((nI 4).toUInt32 &&& Int32.toUInt32 31)).toInt32) &&& (nI 252645135)
def ckBe (x : Int32) : Int32 := x + (x.toUInt32 >>> ((nI 8).toUInt32 &&& Int32.toUInt32 31)).toInt32
def ckBf (x : Int32) : Int32 := x + (x.toUInt32 >>> ((nI 16).toUInt32 &&& Int32.toUInt32 31)).toInt32
def ckBC (x : Int32) : Int32 := ckBf (ckBe (ckBd (ckBb (ckBa x)))) &&& (nI 63)
theorem ck_max {a b : Nat} (ha : a < 2 ^ 31) (hb : b < 2 ^ 31) : (if nI a < nI b then nI b else nI a) = nI (max a b) := by
  by_cases h : a < b
  · rw [if_pos ((nI_ltI ha hb).mpr h)]; exact congrArg nI (by omega)
  · rw [if_neg (fun q => h ((nI_ltI ha hb).mp q))]; exact congrArg nI (by omega)
theorem ck_min {a b : Nat} (ha : a < 2 ^ 31) (hb : b < 2 ^ 31) : (if nI b < nI a then nI b else nI a) = nI (min a b) := by
  by_cases h : b < a
  · rw [if_pos ((nI_ltI hb ha).mpr h)]; exact congrArg nI (by omega)
  · rw [if_neg (fun q => h ((nI_ltI hb ha).mp q))]; exact congrArg nI (by omega)
def ckUnder (k o : Nat) : Bool := decide (o = k ∨ (k = 1 ∧ o = 0) ∨ (k = 2 ∧ o = 0) ∨ (k = 3 ∧ (o = 1 ∨ o = 0)))
def ckT (t : Nat) : Nat := if t < 10 then t + 10 else t - 10
set_option maxHeartbeats 4000000 in
set_option maxRecDepth 100000 in
/-- J6_bitCount_0f7a4 -/
theorem c_J6_bitCount_0f7a4 (l : Launch) (N : ckN) (x : Int32)  : ckI l yJ6_bitCount_0f7a4 cJ6_bitCount_0f7a4 1 (some FieldType.int) { frames := 2, cells := 0, slots := 0, locals := 60 } N [.int x] [] (fun (r : Int32) (u : Unit) => r = (ckBC x)) (fun (u : Unit) => []) := by
  refine ckI.of (by decide) (Nat.le_of_ble_eq_true rfl) ?_
  intro pg eg sg mg blw mth cg Ag ls hx hb hrt hml hown hlk hin hg hE hA hP hD hS hl
  have hown : sg.vm.findClass RJ6 = some mg.cls := hown
  have hl : lv_has ls 1 [(0, .int x)] := hl
  have C0 : ckC pg sg mg ([.int x]).toArray cg cJ6_bitCount_0f7a4 1 RJ6 N Ag := ⟨⟨hx, hb, hml, hown, hg⟩, hE, hA⟩
  generalize hHe : sg.heap = H at hP
  have hS : va_S Ag sg.heap H [] := hHe ▸ hS
  refine lv_iload_n hx hb dJ6_bitCount_0f7a4_0 rfl (lv_at hl 0 rfl) ?_
  refine lv_iload_n hx hb dJ6_bitCount_0f7a4_1 rfl (lv_at hl 0 rfl) ?_
  refine lv_iconst (v := (nI 1)) hx hb dJ6_bitCount_0f7a4_2 (by decide) ?_
  refine lv_iushr (v := (x.toUInt32 >>> ((nI 1).toUInt32 &&& Int32.toUInt32 31)).toInt32) hx hb dJ6_bitCount_0f7a4_3 rfl ?_
  refine lv_ldcw (own := RJ6) (v := (nI 1431655765)) hx hb hown (hg _ k2_236) dJ6_bitCount_0f7a4_4 ?_
  refine lv_iand hx hb dJ6_bitCount_0f7a4_7 ?_
  refine lv_isub hx hb dJ6_bitCount_0f7a4_8 ?_
  refine ck_top (y := (ckBa x)) rfl ?_
  refine lv_istore_n (lv' := [(0, .int (ckBa x))]) hx hb dJ6_bitCount_0f7a4_9 rfl hl (by decide) rfl (fun ls hl => ?_)
  refine lv_iload_n hx hb dJ6_bitCount_0f7a4_10 rfl (lv_at hl 0 rfl) ?_
  refine lv_ldcw (own := RJ6) (v := (nI 858993459)) hx hb hown (hg _ k2_237) dJ6_bitCount_0f7a4_11 ?_
  refine lv_iand hx hb dJ6_bitCount_0f7a4_14 ?_
  refine lv_iload_n hx hb dJ6_bitCount_0f7a4_15 rfl (lv_at hl 0 rfl) ?_
  refine lv_iconst (v := (nI 2)) hx hb dJ6_bitCount_0f7a4_16 (by decide) ?_
  refine lv_iushr (v := ((ckBa x).toUInt32 >>> ((nI 2).toUInt32 &&& Int32.toUInt32 31)).toInt32) hx hb dJ6_bitCount_0f7a4_17 rfl ?_
  refine lv_ldcw (own := RJ6) (v := (nI 858993459)) hx hb hown (hg _ k2_237) dJ6_bitCount_0f7a4_18 ?_
  refine lv_iand hx hb dJ6_bitCount_0f7a4_21 ?_
  refine lv_iadd hx hb dJ6_bitCount_0f7a4_22 ?_
  refine ck_top (y := (ckBb (ckBa x))) rfl ?_
  refine lv_istore_n (lv' := [(0, .int (ckBb (ckBa x)))]) hx hb dJ6_bitCount_0f7a4_23 rfl hl (by decide) rfl (fun ls hl => ?_)
  refine lv_iload_n hx hb dJ6_bitCount_0f7a4_24 rfl (lv_at hl 0 rfl) ?_
  refine lv_iload_n hx hb dJ6_bitCount_0f7a4_25 rfl (lv_at hl 0 rfl) ?_
  refine lv_iconst (v := (nI 4)) hx hb dJ6_bitCount_0f7a4_26 (by decide) ?_
  refine lv_iushr (v := ((ckBb (ckBa x)).toUInt32 >>> ((nI 4).toUInt32 &&& Int32.toUInt32 31)).toInt32) hx hb dJ6_bitCount_0f7a4_27 rfl ?_
  refine lv_iadd hx hb dJ6_bitCount_0f7a4_28 ?_
  refine lv_ldcw (own := RJ6) (v := (nI 252645135)) hx hb hown (hg _ k2_238) dJ6_bitCount_0f7a4_29 ?_
  refine lv_iand hx hb dJ6_bitCount_0f7a4_32 ?_
  refine ck_top (y := (ckBd (ckBb (ckBa x)))) rfl ?_
  refine lv_istore_n (lv' := [(0, .int (ckBd (ckBb (ckBa x))))]) hx hb dJ6_bitCount_0f7a4_33 rfl hl (by decide) rfl (fun ls hl => ?_)
  refine lv_iload_n hx hb dJ6_bitCount_0f7a4_34 rfl (lv_at hl 0 rfl) ?_
  refine lv_iload_n hx hb dJ6_bitCount_0f7a4_35 rfl (lv_at hl 0 rfl) ?_
  refine lv_bipush (v := (nI 8)) hx hb dJ6_bitCount_0f7a4_36 (by decide) ?_
  refine lv_iushr (v := ((ckBd (ckBb (ckBa x))).toUInt32 >>> ((nI 8).toUInt32 &&& Int32.toUInt32 31)).toInt32) hx hb dJ6_bitCount_0f7a4_38 rfl ?_
  refine lv_iadd hx hb dJ6_bitCount_0f7a4_39 ?_
  refine ck_top (y := (ckBe (ckBd (ckBb (ckBa x))))) rfl ?_
  refine lv_istore_n (lv' := [(0, .int (ckBe (ckBd (ckBb (ckBa x)))))]) hx hb dJ6_bitCount_0f7a4_40 rfl hl (by decide) rfl (fun ls hl => ?_)
  refine lv_iload_n hx hb dJ6_bitCount_0f7a4_41 rfl (lv_at hl 0 rfl) ?_
  refine lv_iload_n hx hb dJ6_bitCount_0f7a4_42 rfl (lv_at hl 0 rfl) ?_
  refine lv_bipush (v := (nI 16)) hx hb dJ6_bitCount_0f7a4_43 (by decide) ?_
  refine lv_iushr (v := ((ckBe (ckBd (ckBb (ckBa x)))).toUInt32 >>> ((nI 16).toUInt32 &&& Int32.toUInt32 31)).toInt32) hx hb dJ6_bitCount_0f7a4_45 rfl ?_
  refine lv_iadd hx hb dJ6_bitCount_0f7a4_46 ?_
  refine ck_top (y := (ckBf (ckBe (ckBd (ckBb (ckBa x)))))) rfl ?_
  refine lv_istore_n (lv' := [(0, .int (ckBf (ckBe (ckBd (ckBb (ckBa x))))))]) hx hb dJ6_bitCount_0f7a4_47 rfl hl (by decide) rfl (fun ls hl => ?_)
  refine lv_iload_n hx hb dJ6_bitCount_0f7a4_48 rfl (lv_at hl 0 rfl) ?_
  refine lv_bipush (v := (nI 63)) hx hb dJ6_bitCount_0f7a4_49 (by decide) ?_
  refine lv_iand hx hb dJ6_bitCount_0f7a4_51 ?_
  exact ck_iret hx hb hrt hlk () rfl hP hD hS ⟨Nat.le_of_ble_eq_true rfl, Nat.le_of_ble_eq_true rfl⟩ dJ6_bitCount_0f7a4_52
set_option maxHeartbeats 4000000 in
set_option maxRecDepth 100000 in
/-- X10_isKind -/
theorem c_X10_isKind (l : Launch) (N : ckN) (x : Int32)  : ckI l yX10_isKind cX10_isKind 1 (some FieldType.boolean) { frames := 2, cells := 0, slots := 0, locals := 60 } N [.int x] [] (fun (r : Int32) (u : Unit) => r = (b2i (ckIn x (nI 0) (nI 3)))) (fun (u : Unit) => []) := by
  refine ckI.of (by decide) (Nat.le_of_ble_eq_true rfl) ?_
  intro pg eg sg mg blw mth cg Ag ls hx hb hrt hml hown hlk hin hg hE hA hP hD hS hl
  have hown : sg.vm.findClass RX10 = some mg.cls := hown
  have hl : lv_has ls 1 [(0, .int x)] := hl
  have C0 : ckC pg sg mg ([.int x]).toArray cg cX10_isKind 1 RX10 N Ag := ⟨⟨hx, hb, hml, hown, hg⟩, hE, hA⟩
  generalize hHe : sg.heap = H at hP
  have hS : va_S Ag sg.heap H [] := hHe ▸ hS
  refine lv_iload_n hx hb dX10_isKind_0 rfl (lv_at hl 0 rfl) ?_
  refine lv_if_lt (tgt := 13) hx hb dX10_isKind_1 (by decide) (fun cz_1 => ?_) (fun cz_1 => ?_)
  · refine lv_iconst (v := (nI 0)) hx hb dX10_isKind_13 (by decide) ?_
    refine ck_top (y := (b2i false)) (by decide) ?_
    exact ck_zret (b := false) hx hb hrt hlk () (by have ez : (0 : Int32).toInt = 0 := (by decide); have e0 : (nI 0).toInt = 0 := (by decide); have e1 : (nI 3).toInt = 3 := (by decide); have e2 : (nI 4).toInt = 4 := (by decide); simp only [i_lt, i_le] at cz_1; refine congrArg b2i (Eq.symm ?_); rw [ckIn_f]; omega) hP hD hS ⟨Nat.le_of_ble_eq_true rfl, Nat.le_of_ble_eq_true rfl⟩ dX10_isKind_14
  refine lv_iload_n hx hb dX10_isKind_4 rfl (lv_at hl 0 rfl) ?_
  refine lv_iconst (v := (nI 4)) hx hb dX10_isKind_5 (by decide) ?_
  refine lv_icmp_ge (tgt := 13) hx hb dX10_isKind_6 (by decide) (fun cz_2 => ?_) (fun cz_2 => ?_)
  · refine lv_iconst (v := (nI 0)) hx hb dX10_isKind_13 (by decide) ?_
    refine ck_top (y := (b2i false)) (by decide) ?_
    exact ck_zret (b := false) hx hb hrt hlk () (by have ez : (0 : Int32).toInt = 0 := (by decide); have e0 : (nI 0).toInt = 0 := (by decide); have e1 : (nI 3).toInt = 3 := (by decide); have e2 : (nI 4).toInt = 4 := (by decide); simp only [i_lt, i_le] at cz_1 cz_2; refine congrArg b2i (Eq.symm ?_); rw [ckIn_f]; omega) hP hD hS ⟨Nat.le_of_ble_eq_true rfl, Nat.le_of_ble_eq_true rfl⟩ dX10_isKind_14
  refine lv_iconst (v := (nI 1)) hx hb dX10_isKind_9 (by decide) ?_
  refine lv_goto (tgt := 14) hx hb dX10_isKind_10 (by decide) ?_
  refine ck_top (y := (b2i true)) (by decide) ?_
  exact ck_zret (b := true) hx hb hrt hlk () (by have ez : (0 : Int32).toInt = 0 := (by decide); have e0 : (nI 0).toInt = 0 := (by decide); have e1 : (nI 3).toInt = 3 := (by decide); have e2 : (nI 4).toInt = 4 := (by decide); simp only [i_lt, i_le] at cz_1 cz_2; refine congrArg b2i (Eq.symm ?_); rw [ckIn_iff]; omega) hP hD hS ⟨Nat.le_of_ble_eq_true rfl, Nat.le_of_ble_eq_true rfl⟩ dX10_isKind_14
set_option maxHeartbeats 4000000 in
set_option maxRecDepth 100000 in
/-- X10_isSpot -/
theorem c_X10_isSpot (l : Launch) (N : ckN) (x : Int32)  : ckI l yX10_isSpot cX10_isSpot 1 (some FieldType.boolean) { frames := 2, cells := 0, slots := 0, locals := 60 } N [.int x] [] (fun (r : Int32) (u : Unit) => r = (b2i (ckIn x (nI 0) (nI 9999)))) (fun (u : Unit) => []) := by
  refine ckI.of (by decide) (Nat.le_of_ble_eq_true rfl) ?_
  intro pg eg sg mg blw mth cg Ag ls hx hb hrt hml hown hlk hin hg hE hA hP hD hS hl
  have hown : sg.vm.findClass RX10 = some mg.cls := hown
  have hl : lv_has ls 1 [(0, .int x)] := hl
  have C0 : ckC pg sg mg ([.int x]).toArray cg cX10_isSpot 1 RX10 N Ag := ⟨⟨hx, hb, hml, hown, hg⟩, hE, hA⟩
  generalize hHe : sg.heap = H at hP
  have hS : va_S Ag sg.heap H [] := hHe ▸ hS
  refine lv_iload_n hx hb dX10_isSpot_0 rfl (lv_at hl 0 rfl) ?_
  refine lv_if_lt (tgt := 15) hx hb dX10_isSpot_1 (by decide) (fun cz_1 => ?_) (fun cz_1 => ?_)
  · refine lv_iconst (v := (nI 0)) hx hb dX10_isSpot_15 (by decide) ?_
    refine ck_top (y := (b2i false)) (by decide) ?_
    exact ck_zret (b := false) hx hb hrt hlk () (by have ez : (0 : Int32).toInt = 0 := (by decide); have e0 : (nI 0).toInt = 0 := (by decide); have e1 : (nI 9999).toInt = 9999 := (by decide); have e2 : (nI 10000).toInt = 10000 := (by decide); simp only [i_lt, i_le] at cz_1; refine congrArg b2i (Eq.symm ?_); rw [ckIn_f]; omega) hP hD hS ⟨Nat.le_of_ble_eq_true rfl, Nat.le_of_ble_eq_true rfl⟩ dX10_isSpot_16
  refine lv_iload_n hx hb dX10_isSpot_4 rfl (lv_at hl 0 rfl) ?_
  refine lv_sipush (v := (nI 10000)) hx hb dX10_isSpot_5 (by decide) ?_
  refine lv_icmp_ge (tgt := 15) hx hb dX10_isSpot_8 (by decide) (fun cz_2 => ?_) (fun cz_2 => ?_)
  · refine lv_iconst (v := (nI 0)) hx hb dX10_isSpot_15 (by decide) ?_
    refine ck_top (y := (b2i false)) (by decide) ?_
    exact ck_zret (b := false) hx hb hrt hlk () (by have ez : (0 : Int32).toInt = 0 := (by decide); have e0 : (nI 0).toInt = 0 := (by decide); have e1 : (nI 9999).toInt = 9999 := (by decide); have e2 : (nI 10000).toInt = 10000 := (by decide); simp only [i_lt, i_le] at cz_1 cz_2; refine congrArg b2i (Eq.symm ?_); rw [ckIn_f]; omega) hP hD hS ⟨Nat.le_of_ble_eq_true rfl, Nat.le_of_ble_eq_true rfl⟩ dX10_isSpot_16
  refine lv_iconst (v := (nI 1)) hx hb dX10_isSpot_11 (by decide) ?_
  refine lv_goto (tgt := 16) hx hb dX10_isSpot_12 (by decide) ?_
  refine ck_top (y := (b2i true)) (by decide) ?_
  exact ck_zret (b := true) hx hb hrt hlk () (by have ez : (0 : Int32).toInt = 0 := (by decide); have e0 : (nI 0).toInt = 0 := (by decide); have e1 : (nI 9999).toInt = 9999 := (by decide); have e2 : (nI 10000).toInt = 10000 := (by decide); simp only [i_lt, i_le] at cz_1 cz_2; refine congrArg b2i (Eq.symm ?_); rw [ckIn_iff]; omega) hP hD hS ⟨Nat.le_of_ble_eq_true rfl, Nat.le_of_ble_eq_true rfl⟩ dX10_isSpot_16
set_option maxHeartbeats 4000000 in
set_option maxRecDepth 100000 in
/-- X10_isHeight -/
theorem c_X10_isHeight (l : Launch) (N : ckN) (x : Int32)  : ckI l yX10_isHeight cX10_isHeight 1 (some FieldType.boolean) { frames := 2, cells := 0, slots := 0, locals := 60 } N [.int x] [] (fun (r : Int32) (u : Unit) => r = (b2i (ckIn x (nI 0) (nI 3)))) (fun (u : Unit) => []) := by
  refine ckI.of (by decide) (Nat.le_of_ble_eq_true rfl) ?_
  intro pg eg sg mg blw mth cg Ag ls hx hb hrt hml hown hlk hin hg hE hA hP hD hS hl
  have hown : sg.vm.findClass RX10 = some mg.cls := hown
  have hl : lv_has ls 1 [(0, .int x)] := hl
  have C0 : ckC pg sg mg ([.int x]).toArray cg cX10_isHeight 1 RX10 N Ag := ⟨⟨hx, hb, hml, hown, hg⟩, hE, hA⟩
  generalize hHe : sg.heap = H at hP
  have hS : va_S Ag sg.heap H [] := hHe ▸ hS
  refine lv_iload_n hx hb dX10_isHeight_0 rfl (lv_at hl 0 rfl) ?_
  refine lv_if_lt (tgt := 13) hx hb dX10_isHeight_1 (by decide) (fun cz_1 => ?_) (fun cz_1 => ?_)
  · refine lv_iconst (v := (nI 0)) hx hb dX10_isHeight_13 (by decide) ?_
    refine ck_top (y := (b2i false)) (by decide) ?_
    exact ck_zret (b := false) hx hb hrt hlk () (by have ez : (0 : Int32).toInt = 0 := (by decide); have e0 : (nI 0).toInt = 0 := (by decide); have e1 : (nI 3).toInt = 3 := (by decide); have e2 : (nI 4).toInt = 4 := (by decide); simp only [i_lt, i_le] at cz_1; refine congrArg b2i (Eq.symm ?_); rw [ckIn_f]; omega) hP hD hS ⟨Nat.le_of_ble_eq_true rfl, Nat.le_of_ble_eq_true rfl⟩ dX10_isHeight_14
  refine lv_iload_n hx hb dX10_isHeight_4 rfl (lv_at hl 0 rfl) ?_
  refine lv_iconst (v := (nI 4)) hx hb dX10_isHeight_5 (by decide) ?_
  refine lv_icmp_ge (tgt := 13) hx hb dX10_isHeight_6 (by decide) (fun cz_2 => ?_) (fun cz_2 => ?_)
  · refine lv_iconst (v := (nI 0)) hx hb dX10_isHeight_13 (by decide) ?_
    refine ck_top (y := (b2i false)) (by decide) ?_
    exact ck_zret (b := false) hx hb hrt hlk () (by have ez : (0 : Int32).toInt = 0 := (by decide); have e0 : (nI 0).toInt = 0 := (by decide); have e1 : (nI 3).toInt = 3 := (by decide); have e2 : (nI 4).toInt = 4 := (by decide); simp only [i_lt, i_le] at cz_1 cz_2; refine congrArg b2i (Eq.symm ?_); rw [ckIn_f]; omega) hP hD hS ⟨Nat.le_of_ble_eq_true rfl, Nat.le_of_ble_eq_true rfl⟩ dX10_isHeight_14
  refine lv_iconst (v := (nI 1)) hx hb dX10_isHeight_9 (by decide) ?_
  refine lv_goto (tgt := 14) hx hb dX10_isHeight_10 (by decide) ?_
  refine ck_top (y := (b2i true)) (by decide) ?_
  exact ck_zret (b := true) hx hb hrt hlk () (by have ez : (0 : Int32).toInt = 0 := (by decide); have e0 : (nI 0).toInt = 0 := (by decide); have e1 : (nI 3).toInt = 3 := (by decide); have e2 : (nI 4).toInt = 4 := (by decide); simp only [i_lt, i_le] at cz_1 cz_2; refine congrArg b2i (Eq.symm ?_); rw [ckIn_iff]; omega) hP hD hS ⟨Nat.le_of_ble_eq_true rfl, Nat.le_of_ble_eq_true rfl⟩ dX10_isHeight_14
set_option maxHeartbeats 4000000 in
set_option maxRecDepth 100000 in
/-- X10_isLine -/
theorem c_X10_isLine (l : Launch) (N : ckN) (x : Int32)  : ckI l yX10_isLine cX10_isLine 1 (some FieldType.boolean) { frames := 2, cells := 0, slots := 0, locals := 60 } N [.int x] [] (fun (r : Int32) (u : Unit) => r = (b2i (ckIn x (nI 1) (nI 40)))) (fun (u : Unit) => []) := by
  refine ckI.of (by decide) (Nat.le_of_ble_eq_true rfl) ?_
  intro pg eg sg mg blw mth cg Ag ls hx hb hrt hml hown hlk hin hg hE hA hP hD hS hl
  have hown : sg.vm.findClass RX10 = some mg.cls := hown
  have hl : lv_has ls 1 [(0, .int x)] := hl
  have C0 : ckC pg sg mg ([.int x]).toArray cg cX10_isLine 1 RX10 N Ag := ⟨⟨hx, hb, hml, hown, hg⟩, hE, hA⟩
  generalize hHe : sg.heap = H at hP
  have hS : va_S Ag sg.heap H [] := hHe ▸ hS
  refine lv_iload_n hx hb dX10_isLine_0 rfl (lv_at hl 0 rfl) ?_
  refine lv_iconst (v := (nI 1)) hx hb dX10_isLine_1 (by decide) ?_
  refine lv_icmp_lt (tgt := 15) hx hb dX10_isLine_2 (by decide) (fun cz_1 => ?_) (fun cz_1 => ?_)
  · refine lv_iconst (v := (nI 0)) hx hb dX10_isLine_15 (by decide) ?_
    refine ck_top (y := (b2i false)) (by decide) ?_
    exact ck_zret (b := false) hx hb hrt hlk () (by have ez : (0 : Int32).toInt = 0 := (by decide); have e0 : (nI 1).toInt = 1 := (by decide); have e1 : (nI 40).toInt = 40 := (by decide); have e2 : (nI 41).toInt = 41 := (by decide); simp only [i_lt, i_le] at cz_1; refine congrArg b2i (Eq.symm ?_); rw [ckIn_f]; omega) hP hD hS ⟨Nat.le_of_ble_eq_true rfl, Nat.le_of_ble_eq_true rfl⟩ dX10_isLine_16
  refine lv_iload_n hx hb dX10_isLine_5 rfl (lv_at hl 0 rfl) ?_
  refine lv_bipush (v := (nI 40)) hx hb dX10_isLine_6 (by decide) ?_
  refine lv_icmp_gt (tgt := 15) hx hb dX10_isLine_8 (by decide) (fun cz_2 => ?_) (fun cz_2 => ?_)
  · refine lv_iconst (v := (nI 0)) hx hb dX10_isLine_15 (by decide) ?_
    refine ck_top (y := (b2i false)) (by decide) ?_
    exact ck_zret (b := false) hx hb hrt hlk () (by have ez : (0 : Int32).toInt = 0 := (by decide); have e0 : (nI 1).toInt = 1 := (by decide); have e1 : (nI 40).toInt = 40 := (by decide); have e2 : (nI 41).toInt = 41 := (by decide); simp only [i_lt, i_le] at cz_1 cz_2; refine congrArg b2i (Eq.symm ?_); rw [ckIn_f]; omega) hP hD hS ⟨Nat.le_of_ble_eq_true rfl, Nat.le_of_ble_eq_true rfl⟩ dX10_isLine_16
  refine lv_iconst (v := (nI 1)) hx hb dX10_isLine_11 (by decide) ?_
  refine lv_goto (tgt := 16) hx hb dX10_isLine_12 (by decide) ?_
  refine ck_top (y := (b2i true)) (by decide) ?_
  exact ck_zret (b := true) hx hb hrt hlk () (by have ez : (0 : Int32).toInt = 0 := (by decide); have e0 : (nI 1).toInt = 1 := (by decide); have e1 : (nI 40).toInt = 40 := (by decide); have e2 : (nI 41).toInt = 41 := (by decide); simp only [i_lt, i_le] at cz_1 cz_2; refine congrArg b2i (Eq.symm ?_); rw [ckIn_iff]; omega) hP hD hS ⟨Nat.le_of_ble_eq_true rfl, Nat.le_of_ble_eq_true rfl⟩ dX10_isLine_16
set_option maxHeartbeats 4000000 in
set_option maxRecDepth 100000 in
/-- X10_isForce -/
theorem c_X10_isForce (l : Launch) (N : ckN) (x : Int32)  : ckI l yX10_isForce cX10_isForce 1 (some FieldType.boolean) { frames := 2, cells := 0, slots := 0, locals := 60 } N [.int x] [] (fun (r : Int32) (u : Unit) => r = (b2i (ckIn x (nI 0) (nI 12)))) (fun (u : Unit) => []) := by
  refine ckI.of (by decide) (Nat.le_of_ble_eq_true rfl) ?_
  intro pg eg sg mg blw mth cg Ag ls hx hb hrt hml hown hlk hin hg hE hA hP hD hS hl
  have hown : sg.vm.findClass RX10 = some mg.cls := hown
  have hl : lv_has ls 1 [(0, .int x)] := hl
  have C0 : ckC pg sg mg ([.int x]).toArray cg cX10_isForce 1 RX10 N Ag := ⟨⟨hx, hb, hml, hown, hg⟩, hE, hA⟩
  generalize hHe : sg.heap = H at hP
  have hS : va_S Ag sg.heap H [] := hHe ▸ hS
  refine lv_iload_n hx hb dX10_isForce_0 rfl (lv_at hl 0 rfl) ?_
  refine lv_if_lt (tgt := 14) hx hb dX10_isForce_1 (by decide) (fun cz_1 => ?_) (fun cz_1 => ?_)
  · refine lv_iconst (v := (nI 0)) hx hb dX10_isForce_14 (by decide) ?_
    refine ck_top (y := (b2i false)) (by decide) ?_
    exact ck_zret (b := false) hx hb hrt hlk () (by have ez : (0 : Int32).toInt = 0 := (by decide); have e0 : (nI 0).toInt = 0 := (by decide); have e1 : (nI 12).toInt = 12 := (by decide); have e2 : (nI 13).toInt = 13 := (by decide); simp only [i_lt, i_le] at cz_1; refine congrArg b2i (Eq.symm ?_); rw [ckIn_f]; omega) hP hD hS ⟨Nat.le_of_ble_eq_true rfl, Nat.le_of_ble_eq_true rfl⟩ dX10_isForce_15
  refine lv_iload_n hx hb dX10_isForce_4 rfl (lv_at hl 0 rfl) ?_
  refine lv_bipush (v := (nI 12)) hx hb dX10_isForce_5 (by decide) ?_
  refine lv_icmp_gt (tgt := 14) hx hb dX10_isForce_7 (by decide) (fun cz_2 => ?_) (fun cz_2 => ?_)
  · refine lv_iconst (v := (nI 0)) hx hb dX10_isForce_14 (by decide) ?_
    refine ck_top (y := (b2i false)) (by decide) ?_
    exact ck_zret (b := false) hx hb hrt hlk () (by have ez : (0 : Int32).toInt = 0 := (by decide); have e0 : (nI 0).toInt = 0 := (by decide); have e1 : (nI 12).toInt = 12 := (by decide); have e2 : (nI 13).toInt = 13 := (by decide); simp only [i_lt, i_le] at cz_1 cz_2; refine congrArg b2i (Eq.symm ?_); rw [ckIn_f]; omega) hP hD hS ⟨Nat.le_of_ble_eq_true rfl, Nat.le_of_ble_eq_true rfl⟩ dX10_isForce_15
  refine lv_iconst (v := (nI 1)) hx hb dX10_isForce_10 (by decide) ?_
  refine lv_goto (tgt := 15) hx hb dX10_isForce_11 (by decide) ?_
  refine ck_top (y := (b2i true)) (by decide) ?_
  exact ck_zret (b := true) hx hb hrt hlk () (by have ez : (0 : Int32).toInt = 0 := (by decide); have e0 : (nI 0).toInt = 0 := (by decide); have e1 : (nI 12).toInt = 12 := (by decide); have e2 : (nI 13).toInt = 13 := (by decide); simp only [i_lt, i_le] at cz_1 cz_2; refine congrArg b2i (Eq.symm ?_); rw [ckIn_iff]; omega) hP hD hS ⟨Nat.le_of_ble_eq_true rfl, Nat.le_of_ble_eq_true rfl⟩ dX10_isForce_15
set_option maxHeartbeats 4000000 in
set_option maxRecDepth 100000 in
/-- X10_isMinute -/
theorem c_X10_isMinute (l : Launch) (N : ckN) (x : Int32)  : ckI l yX10_isMinute cX10_isMinute 1 (some FieldType.boolean) { frames := 2, cells := 0, slots := 0, locals := 60 } N [.int x] [] (fun (r : Int32) (u : Unit) => r = (b2i (ckIn x (nI 0) (nI 19)))) (fun (u : Unit) => []) := by
  refine ckI.of (by decide) (Nat.le_of_ble_eq_true rfl) ?_
  intro pg eg sg mg blw mth cg Ag ls hx hb hrt hml hown hlk hin hg hE hA hP hD hS hl
  have hown : sg.vm.findClass RX10 = some mg.cls := hown
  have hl : lv_has ls 1 [(0, .int x)] := hl
  have C0 : ckC pg sg mg ([.int x]).toArray cg cX10_isMinute 1 RX10 N Ag := ⟨⟨hx, hb, hml, hown, hg⟩, hE, hA⟩
  generalize hHe : sg.heap = H at hP
  have hS : va_S Ag sg.heap H [] := hHe ▸ hS
  refine lv_iload_n hx hb dX10_isMinute_0 rfl (lv_at hl 0 rfl) ?_
  refine lv_if_lt (tgt := 14) hx hb dX10_isMinute_1 (by decide) (fun cz_1 => ?_) (fun cz_1 => ?_)
  · refine lv_iconst (v := (nI 0)) hx hb dX10_isMinute_14 (by decide) ?_
    refine ck_top (y := (b2i false)) (by decide) ?_
    exact ck_zret (b := false) hx hb hrt hlk () (by have ez : (0 : Int32).toInt = 0 := (by decide); have e0 : (nI 0).toInt = 0 := (by decide); have e1 : (nI 19).toInt = 19 := (by decide); have e2 : (nI 20).toInt = 20 := (by decide); simp only [i_lt, i_le] at cz_1; refine congrArg b2i (Eq.symm ?_); rw [ckIn_f]; omega) hP hD hS ⟨Nat.le_of_ble_eq_true rfl, Nat.le_of_ble_eq_true rfl⟩ dX10_isMinute_15
  refine lv_iload_n hx hb dX10_isMinute_4 rfl (lv_at hl 0 rfl) ?_
  refine lv_bipush (v := (nI 20)) hx hb dX10_isMinute_5 (by decide) ?_
  refine lv_icmp_ge (tgt := 14) hx hb dX10_isMinute_7 (by decide) (fun cz_2 => ?_) (fun cz_2 => ?_)
  · refine lv_iconst (v := (nI 0)) hx hb dX10_isMinute_14 (by decide) ?_
    refine ck_top (y := (b2i false)) (by decide) ?_
    exact ck_zret (b := false) hx hb hrt hlk () (by have ez : (0 : Int32).toInt = 0 := (by decide); have e0 : (nI 0).toInt = 0 := (by decide); have e1 : (nI 19).toInt = 19 := (by decide); have e2 : (nI 20).toInt = 20 := (by decide); simp only [i_lt, i_le] at cz_1 cz_2; refine congrArg b2i (Eq.symm ?_); rw [ckIn_f]; omega) hP hD hS ⟨Nat.le_of_ble_eq_true rfl, Nat.le_of_ble_eq_true rfl⟩ dX10_isMinute_15
  refine lv_iconst (v := (nI 1)) hx hb dX10_isMinute_10 (by decide) ?_
  refine lv_goto (tgt := 15) hx hb dX10_isMinute_11 (by decide) ?_
  refine ck_top (y := (b2i true)) (by decide) ?_
  exact ck_zret (b := true) hx hb hrt hlk () (by have ez : (0 : Int32).toInt = 0 := (by decide); have e0 : (nI 0).toInt = 0 := (by decide); have e1 : (nI 19).toInt = 19 := (by decide); have e2 : (nI 20).toInt = 20 := (by decide); simp only [i_lt, i_le] at cz_1 cz_2; refine congrArg b2i (Eq.symm ?_); rw [ckIn_iff]; omega) hP hD hS ⟨Nat.le_of_ble_eq_true rfl, Nat.le_of_ble_eq_true rfl⟩ dX10_isMinute_15
set_option maxHeartbeats 4000000 in
set_option maxRecDepth 100000 in
/-- X10_isRowSize -/
theorem c_X10_isRowSize (l : Launch) (N : ckN) (x : Int32)  : ckI l yX10_isRowSize cX10_isRowSize 1 (some FieldType.boolean) { frames := 2, cells := 0, slots := 0, locals := 60 } N [.int x] [] (fun (r : Int32) (u : Unit) => r = (b2i (ckIn x (nI 2) (nI 5)))) (fun (u : Unit) => []) := by
  refine ckI.of (by decide) (Nat.le_of_ble_eq_true rfl) ?_
  intro pg eg sg mg blw mth cg Ag ls hx hb hrt hml hown hlk hin hg hE hA hP hD hS hl
  have hown : sg.vm.findClass RX10 = some mg.cls := hown
  have hl : lv_has ls 1 [(0, .int x)] := hl
  have C0 : ckC pg sg mg ([.int x]).toArray cg cX10_isRowSize 1 RX10 N Ag := ⟨⟨hx, hb, hml, hown, hg⟩, hE, hA⟩
  generalize hHe : sg.heap = H at hP
  have hS : va_S Ag sg.heap H [] := hHe ▸ hS
  refine lv_iload_n hx hb dX10_isRowSize_0 rfl (lv_at hl 0 rfl) ?_
  refine lv_iconst (v := (nI 2)) hx hb dX10_isRowSize_1 (by decide) ?_
  refine lv_icmp_lt (tgt := 14) hx hb dX10_isRowSize_2 (by decide) (fun cz_1 => ?_) (fun cz_1 => ?_)
  · refine lv_iconst (v := (nI 0)) hx hb dX10_isRowSize_14 (by decide) ?_
    refine ck_top (y := (b2i false)) (by decide) ?_
    exact ck_zret (b := false) hx hb hrt hlk () (by have ez : (0 : Int32).toInt = 0 := (by decide); have e0 : (nI 2).toInt = 2 := (by decide); have e1 : (nI 5).toInt = 5 := (by decide); have e2 : (nI 6).toInt = 6 := (by decide); simp only [i_lt, i_le] at cz_1; refine congrArg b2i (Eq.symm ?_); rw [ckIn_f]; omega) hP hD hS ⟨Nat.le_of_ble_eq_true rfl, Nat.le_of_ble_eq_true rfl⟩ dX10_isRowSize_15
  refine lv_iload_n hx hb dX10_isRowSize_5 rfl (lv_at hl 0 rfl) ?_
  refine lv_iconst (v := (nI 5)) hx hb dX10_isRowSize_6 (by decide) ?_
  refine lv_icmp_gt (tgt := 14) hx hb dX10_isRowSize_7 (by decide) (fun cz_2 => ?_) (fun cz_2 => ?_)
  · refine lv_iconst (v := (nI 0)) hx hb dX10_isRowSize_14 (by decide) ?_
    refine ck_top (y := (b2i false)) (by decide) ?_
    exact ck_zret (b := false) hx hb hrt hlk () (by have ez : (0 : Int32).toInt = 0 := (by decide); have e0 : (nI 2).toInt = 2 := (by decide); have e1 : (nI 5).toInt = 5 := (by decide); have e2 : (nI 6).toInt = 6 := (by decide); simp only [i_lt, i_le] at cz_1 cz_2; refine congrArg b2i (Eq.symm ?_); rw [ckIn_f]; omega) hP hD hS ⟨Nat.le_of_ble_eq_true rfl, Nat.le_of_ble_eq_true rfl⟩ dX10_isRowSize_15
  refine lv_iconst (v := (nI 1)) hx hb dX10_isRowSize_10 (by decide) ?_
  refine lv_goto (tgt := 15) hx hb dX10_isRowSize_11 (by decide) ?_
  refine ck_top (y := (b2i true)) (by decide) ?_
  exact ck_zret (b := true) hx hb hrt hlk () (by have ez : (0 : Int32).toInt = 0 := (by decide); have e0 : (nI 2).toInt = 2 := (by decide); have e1 : (nI 5).toInt = 5 := (by decide); have e2 : (nI 6).toInt = 6 := (by decide); simp only [i_lt, i_le] at cz_1 cz_2; refine congrArg b2i (Eq.symm ?_); rw [ckIn_iff]; omega) hP hD hS ⟨Nat.le_of_ble_eq_true rfl, Nat.le_of_ble_eq_true rfl⟩ dX10_isRowSize_15
set_option maxHeartbeats 4000000 in
set_option maxRecDepth 100000 in
/-- X10_isSheet -/
theorem c_X10_isSheet (l : Launch) (N : ckN) (x : Int32)  : ckI l yX10_isSheet cX10_isSheet 1 (some FieldType.boolean) { frames := 2, cells := 0, slots := 0, locals := 60 } N [.int x] [] (fun (r : Int32) (u : Unit) => r = (b2i (ckIn x (nI 0) (nI 3)))) (fun (u : Unit) => []) := by
  refine ckI.of (by decide) (Nat.le_of_ble_eq_true rfl) ?_
  intro pg eg sg mg blw mth cg Ag ls hx hb hrt hml hown hlk hin hg hE hA hP hD hS hl
  have hown : sg.vm.findClass RX10 = some mg.cls := hown
  have hl : lv_has ls 1 [(0, .int x)] := hl
  have C0 : ckC pg sg mg ([.int x]).toArray cg cX10_isSheet 1 RX10 N Ag := ⟨⟨hx, hb, hml, hown, hg⟩, hE, hA⟩
  generalize hHe : sg.heap = H at hP
  have hS : va_S Ag sg.heap H [] := hHe ▸ hS
  refine lv_iload_n hx hb dX10_isSheet_0 rfl (lv_at hl 0 rfl) ?_
  refine lv_if_lt (tgt := 13) hx hb dX10_isSheet_1 (by decide) (fun cz_1 => ?_) (fun cz_1 => ?_)
  · refine lv_iconst (v := (nI 0)) hx hb dX10_isSheet_13 (by decide) ?_
    refine ck_top (y := (b2i false)) (by decide) ?_
    exact ck_zret (b := false) hx hb hrt hlk () (by have ez : (0 : Int32).toInt = 0 := (by decide); have e0 : (nI 0).toInt = 0 := (by decide); have e1 : (nI 3).toInt = 3 := (by decide); have e2 : (nI 4).toInt = 4 := (by decide); simp only [i_lt, i_le] at cz_1; refine congrArg b2i (Eq.symm ?_); rw [ckIn_f]; omega) hP hD hS ⟨Nat.le_of_ble_eq_true rfl, Nat.le_of_ble_eq_true rfl⟩ dX10_isSheet_14
  refine lv_iload_n hx hb dX10_isSheet_4 rfl (lv_at hl 0 rfl) ?_
  refine lv_iconst (v := (nI 4)) hx hb dX10_isSheet_5 (by decide) ?_
  refine lv_icmp_ge (tgt := 13) hx hb dX10_isSheet_6 (by decide) (fun cz_2 => ?_) (fun cz_2 => ?_)
  · refine lv_iconst (v := (nI 0)) hx hb dX10_isSheet_13 (by decide) ?_
    refine ck_top (y := (b2i false)) (by decide) ?_
    exact ck_zret (b := false) hx hb hrt hlk () (by have ez : (0 : Int32).toInt = 0 := (by decide); have e0 : (nI 0).toInt = 0 := (by decide); have e1 : (nI 3).toInt = 3 := (by decide); have e2 : (nI 4).toInt = 4 := (by decide); simp only [i_lt, i_le] at cz_1 cz_2; refine congrArg b2i (Eq.symm ?_); rw [ckIn_f]; omega) hP hD hS ⟨Nat.le_of_ble_eq_true rfl, Nat.le_of_ble_eq_true rfl⟩ dX10_isSheet_14
  refine lv_iconst (v := (nI 1)) hx hb dX10_isSheet_9 (by decide) ?_
  refine lv_goto (tgt := 14) hx hb dX10_isSheet_10 (by decide) ?_
  refine ck_top (y := (b2i true)) (by decide) ?_
  exact ck_zret (b := true) hx hb hrt hlk () (by have ez : (0 : Int32).toInt = 0 := (by decide); have e0 : (nI 0).toInt = 0 := (by decide); have e1 : (nI 3).toInt = 3 := (by decide); have e2 : (nI 4).toInt = 4 := (by decide); simp only [i_lt, i_le] at cz_1 cz_2; refine congrArg b2i (Eq.symm ?_); rw [ckIn_iff]; omega) hP hD hS ⟨Nat.le_of_ble_eq_true rfl, Nat.le_of_ble_eq_true rfl⟩ dX10_isSheet_14
set_option maxHeartbeats 4000000 in
set_option maxRecDepth 100000 in
/-- X10_oneIf -/
theorem c_X10_oneIf (l : Launch) (N : ckN) (b : Bool)  : ckI l yX10_oneIf cX10_oneIf 1 (some FieldType.int) { frames := 2, cells := 0, slots := 0, locals := 60 } N [.int (b2i b)] [] (fun (r : Int32) (u : Unit) => r = (b2i b)) (fun (u : Unit) => []) := by
  refine ckI.of (by decide) (Nat.le_of_ble_eq_true rfl) ?_
  intro pg eg sg mg blw mth cg Ag ls hx hb hrt hml hown hlk hin hg hE hA hP hD hS hl
  have hown : sg.vm.findClass RX10 = some mg.cls := hown
  have hl : lv_has ls 1 [(0, .int (b2i b))] := hl
  have C0 : ckC pg sg mg ([.int (b2i b)]).toArray cg cX10_oneIf 1 RX10 N Ag := ⟨⟨hx, hb, hml, hown, hg⟩, hE, hA⟩
  generalize hHe : sg.heap = H at hP
  have hS : va_S Ag sg.heap H [] := hHe ▸ hS
  refine lv_iload_n hx hb dX10_oneIf_0 rfl (lv_at hl 0 rfl) ?_
  refine ck_ifeq (b := b) (tgt := 8) hx hb dX10_oneIf_1 (by decide) (fun cz_1 => ?_) (fun cz_1 => ?_)
  · refine lv_iconst (v := (nI 0)) hx hb dX10_oneIf_8 (by decide) ?_
    exact ck_iret hx hb hrt hlk () (by rw [cz_1]; rfl) hP hD hS ⟨Nat.le_of_ble_eq_true rfl, Nat.le_of_ble_eq_true rfl⟩ dX10_oneIf_9
  refine lv_iconst (v := (nI 1)) hx hb dX10_oneIf_4 (by decide) ?_
  refine lv_goto (tgt := 9) hx hb dX10_oneIf_5 (by decide) ?_
  exact ck_iret hx hb hrt hlk () (by rw [cz_1]; rfl) hP hD hS ⟨Nat.le_of_ble_eq_true rfl, Nat.le_of_ble_eq_true rfl⟩ dX10_oneIf_9
set_option maxHeartbeats 4000000 in
set_option maxRecDepth 100000 in
/-- X10_leastOf -/
theorem c_X10_leastOf (l : Launch) (N : ckN) (n : Nat) (hn : n < 2 ^ 31) : ckI l yX10_leastOf cX10_leastOf 1 (some FieldType.int) { frames := 2, cells := 0, slots := 0, locals := 60 } N [.int (nI n)] [] (fun (r : Int32) (u : Unit) => r = (nI (n / 16))) (fun (u : Unit) => []) := by
  refine ckI.of (by decide) (Nat.le_of_ble_eq_true rfl) ?_
  intro pg eg sg mg blw mth cg Ag ls hx hb hrt hml hown hlk hin hg hE hA hP hD hS hl
  have hown : sg.vm.findClass RX10 = some mg.cls := hown
  have hl : lv_has ls 1 [(0, .int (nI n))] := hl
  have C0 : ckC pg sg mg ([.int (nI n)]).toArray cg cX10_leastOf 1 RX10 N Ag := ⟨⟨hx, hb, hml, hown, hg⟩, hE, hA⟩
  generalize hHe : sg.heap = H at hP
  have hS : va_S Ag sg.heap H [] := hHe ▸ hS
  refine lv_iload_n hx hb dX10_leastOf_0 rfl (lv_at hl 0 rfl) ?_
  refine lv_bipush (v := (nI 16)) hx hb dX10_leastOf_1 (by decide) ?_
  refine lv_idiv hx hb dX10_leastOf_3 (by decide) ?_
  refine ck_top (y := (nI (n / 16))) (pk_div (by omega) (by omega) (by omega)) ?_
  exact ck_iret hx hb hrt hlk () rfl hP hD hS ⟨Nat.le_of_ble_eq_true rfl, Nat.le_of_ble_eq_true rfl⟩ dX10_leastOf_4
set_option maxHeartbeats 4000000 in
set_option maxRecDepth 100000 in
/-- X10_mostOf -/
theorem c_X10_mostOf (l : Launch) (N : ckN) (n : Nat) (hn : n < 2 ^ 31) : ckI l yX10_mostOf cX10_mostOf 1 (some FieldType.int) { frames := 2, cells := 0, slots := 0, locals := 60 } N [.int (nI n)] [] (fun (r : Int32) (u : Unit) => r = (nI (n % 16))) (fun (u : Unit) => []) := by
  refine ckI.of (by decide) (Nat.le_of_ble_eq_true rfl) ?_
  intro pg eg sg mg blw mth cg Ag ls hx hb hrt hml hown hlk hin hg hE hA hP hD hS hl
  have hown : sg.vm.findClass RX10 = some mg.cls := hown
  have hl : lv_has ls 1 [(0, .int (nI n))] := hl
  have C0 : ckC pg sg mg ([.int (nI n)]).toArray cg cX10_mostOf 1 RX10 N Ag := ⟨⟨hx, hb, hml, hown, hg⟩, hE, hA⟩
  generalize hHe : sg.heap = H at hP
  have hS : va_S Ag sg.heap H [] := hHe ▸ hS
  refine lv_iload_n hx hb dX10_mostOf_0 rfl (lv_at hl 0 rfl) ?_
  refine lv_bipush (v := (nI 16)) hx hb dX10_mostOf_1 (by decide) ?_
  refine lv_irem hx hb dX10_mostOf_3 (by decide) ?_
  refine ck_top (y := (nI (n % 16))) (pk_rem (by omega) (by omega) (by omega)) ?_
  exact ck_iret hx hb hrt hlk () rfl hP hD hS ⟨Nat.le_of_ble_eq_true rfl, Nat.le_of_ble_eq_true rfl⟩ dX10_mostOf_4
set_option maxHeartbeats 4000000 in
set_option maxRecDepth 100000 in
/-- X10_walksOf -/
theorem c_X10_walksOf (l : Launch) (N : ckN) (n : Nat) (h1 : 1 ≤ n) (hn : n < 2 ^ 31) : ckI l yX10_walksOf cX10_walksOf 1 (some FieldType.int) { frames := 2, cells := 0, slots := 0, locals := 60 } N [.int (nI n)] [] (fun (r : Int32) (u : Unit) => r = (nI (2 * (n - 1)))) (fun (u : Unit) => []) := by
  refine ckI.of (by decide) (Nat.le_of_ble_eq_true rfl) ?_
  intro pg eg sg mg blw mth cg Ag ls hx hb hrt hml hown hlk hin hg hE hA hP hD hS hl
  have hown : sg.vm.findClass RX10 = some mg.cls := hown
  have hl : lv_has ls 1 [(0, .int (nI n))] := hl
  have C0 : ckC pg sg mg ([.int (nI n)]).toArray cg cX10_walksOf 1 RX10 N Ag := ⟨⟨hx, hb, hml, hown, hg⟩, hE, hA⟩
  generalize hHe : sg.heap = H at hP
  have hS : va_S Ag sg.heap H [] := hHe ▸ hS
  refine lv_iconst (v := (nI 2)) hx hb dX10_walksOf_0 (by decide) ?_
  refine lv_iload_n hx hb dX10_walksOf_1 rfl (lv_at hl 0 rfl) ?_
  refine lv_iconst (v := (nI 1)) hx hb dX10_walksOf_2 (by decide) ?_
  refine lv_isub hx hb dX10_walksOf_3 ?_
  refine ck_top (y := (nI (n - 1))) (pk_sub (by omega)) ?_
  refine lv_imul hx hb dX10_walksOf_4 ?_
  refine ck_top (y := (nI (2 * (n - 1)))) (pk_mul _ _) ?_
  exact ck_iret hx hb hrt hlk () rfl hP hD hS ⟨Nat.le_of_ble_eq_true rfl, Nat.le_of_ble_eq_true rfl⟩ dX10_walksOf_5
set_option maxHeartbeats 4000000 in
set_option maxRecDepth 100000 in
/-- X10_placeOf -/
theorem c_X10_placeOf (l : Launch) (N : ckN) (n : Nat) (hn : n < 2 ^ 31) : ckI l yX10_placeOf cX10_placeOf 1 (some FieldType.int) { frames := 2, cells := 0, slots := 0, locals := 60 } N [.int (nI n)] [] (fun (r : Int32) (u : Unit) => r = (nI (n / 2))) (fun (u : Unit) => []) := by
  refine ckI.of (by decide) (Nat.le_of_ble_eq_true rfl) ?_
  intro pg eg sg mg blw mth cg Ag ls hx hb hrt hml hown hlk hin hg hE hA hP hD hS hl
  have hown : sg.vm.findClass RX10 = some mg.cls := hown
  have hl : lv_has ls 1 [(0, .int (nI n))] := hl
  have C0 : ckC pg sg mg ([.int (nI n)]).toArray cg cX10_placeOf 1 RX10 N Ag := ⟨⟨hx, hb, hml, hown, hg⟩, hE, hA⟩
  generalize hHe : sg.heap = H at hP
  have hS : va_S Ag sg.heap H [] := hHe ▸ hS
  refine lv_iload_n hx hb dX10_placeOf_0 rfl (lv_at hl 0 rfl) ?_
  refine lv_iconst (v := (nI 2)) hx hb dX10_placeOf_1 (by decide) ?_
  refine lv_idiv hx hb dX10_placeOf_2 (by decide) ?_
  refine ck_top (y := (nI (n / 2))) (pk_div (by omega) (by omega) (by omega)) ?_
  exact ck_iret hx hb hrt hlk () rfl hP hD hS ⟨Nat.le_of_ble_eq_true rfl, Nat.le_of_ble_eq_true rfl⟩ dX10_placeOf_3
set_option maxHeartbeats 4000000 in
set_option maxRecDepth 100000 in
/-- X10_isFront -/
theorem c_X10_isFront (l : Launch) (N : ckN) (n : Nat) (hn : n < 2 ^ 31) : ckI l yX10_isFront cX10_isFront 1 (some FieldType.boolean) { frames := 2, cells := 0, slots := 0, locals := 60 } N [.int (nI n)] [] (fun (r : Int32) (u : Unit) => r = (b2i (decide (n % 2 = 0)))) (fun (u : Unit) => []) := by
  refine ckI.of (by decide) (Nat.le_of_ble_eq_true rfl) ?_
  intro pg eg sg mg blw mth cg Ag ls hx hb hrt hml hown hlk hin hg hE hA hP hD hS hl
  have hown : sg.vm.findClass RX10 = some mg.cls := hown
  have hl : lv_has ls 1 [(0, .int (nI n))] := hl
  have C0 : ckC pg sg mg ([.int (nI n)]).toArray cg cX10_isFront 1 RX10 N Ag := ⟨⟨hx, hb, hml, hown, hg⟩, hE, hA⟩
  generalize hHe : sg.heap = H at hP
  have hS : va_S Ag sg.heap H [] := hHe ▸ hS
  refine lv_iload_n hx hb dX10_isFront_0 rfl (lv_at hl 0 rfl) ?_
  refine lv_iconst (v := (nI 2)) hx hb dX10_isFront_1 (by decide) ?_
  refine lv_irem hx hb dX10_isFront_2 (by decide) ?_
  refine ck_top (y := (nI (n % 2))) (pk_rem (by omega) (by omega) (by omega)) ?_
  refine ck_if0_ne (tgt := 10) hx hb dX10_isFront_3 (by decide) (by omega) (fun cz_1 => ?_) (fun cz_1 => ?_)
  · refine lv_iconst (v := (nI 0)) hx hb dX10_isFront_10 (by decide) ?_
    refine ck_top (y := (b2i false)) (by decide) ?_
    exact ck_zret (b := false) hx hb hrt hlk () (congrArg b2i (Eq.symm (decide_eq_false (by omega)))) hP hD hS ⟨Nat.le_of_ble_eq_true rfl, Nat.le_of_ble_eq_true rfl⟩ dX10_isFront_11
  refine lv_iconst (v := (nI 1)) hx hb dX10_isFront_6 (by decide) ?_
  refine lv_goto (tgt := 11) hx hb dX10_isFront_7 (by decide) ?_
  refine ck_top (y := (b2i true)) (by decide) ?_
  exact ck_zret (b := true) hx hb hrt hlk () (congrArg b2i (Eq.symm (decide_eq_true (by omega)))) hP hD hS ⟨Nat.le_of_ble_eq_true rfl, Nat.le_of_ble_eq_true rfl⟩ dX10_isFront_11
set_option maxHeartbeats 4000000 in
set_option maxRecDepth 100000 in
/-- X3_turned -/
theorem c_X3_turned (l : Launch) (N : ckN) (n : Nat) (hn : n < 20) : ckI l yX3_turned cX3_turned 1 (some FieldType.int) { frames := 2, cells := 0, slots := 0, locals := 60 } N [.int (nI n)] [] (fun (r : Int32) (u : Unit) => r = (nI (ckT n))) (fun (u : Unit) => []) := by
  refine ckI.of (by decide) (Nat.le_of_ble_eq_true rfl) ?_
  intro pg eg sg mg blw mth cg Ag ls hx hb hrt hml hown hlk hin hg hE hA hP hD hS hl
  have hown : sg.vm.findClass RX3 = some mg.cls := hown
  have hl : lv_has ls 1 [(0, .int (nI n))] := hl
  have C0 : ckC pg sg mg ([.int (nI n)]).toArray cg cX3_turned 1 RX3 N Ag := ⟨⟨hx, hb, hml, hown, hg⟩, hE, hA⟩
  generalize hHe : sg.heap = H at hP
  have hS : va_S Ag sg.heap H [] := hHe ▸ hS
  refine lv_iload_n hx hb dX3_turned_0 rfl (lv_at hl 0 rfl) ?_
  refine lv_bipush (v := (nI 10)) hx hb dX3_turned_1 (by decide) ?_
  refine ck_ic_ge (tgt := 13) hx hb dX3_turned_3 (by decide) (by omega) (by omega) (fun cz_1 => ?_) (fun cz_1 => ?_)
  · refine lv_iload_n hx hb dX3_turned_13 rfl (lv_at hl 0 rfl) ?_
    refine lv_bipush (v := (nI 10)) hx hb dX3_turned_14 (by decide) ?_
    refine lv_isub hx hb dX3_turned_16 ?_
    refine ck_top (y := (nI (n - 10))) (pk_sub (by omega)) ?_
    exact ck_iret hx hb hrt hlk () (congrArg nI (by simp only [ckT]; split <;> omega)) hP hD hS ⟨Nat.le_of_ble_eq_true rfl, Nat.le_of_ble_eq_true rfl⟩ dX3_turned_17
  refine lv_iload_n hx hb dX3_turned_6 rfl (lv_at hl 0 rfl) ?_
  refine lv_bipush (v := (nI 10)) hx hb dX3_turned_7 (by decide) ?_
  refine lv_iadd hx hb dX3_turned_9 ?_
  refine ck_top (y := (nI (n + 10))) (nI_add _ _) ?_
  refine lv_goto (tgt := 17) hx hb dX3_turned_10 (by decide) ?_
  exact ck_iret hx hb hrt hlk () (congrArg nI (by simp only [ckT]; split <;> omega)) hP hD hS ⟨Nat.le_of_ble_eq_true rfl, Nat.le_of_ble_eq_true rfl⟩ dX3_turned_17
set_option maxHeartbeats 4000000 in
set_option maxRecDepth 100000 in
/-- X4_pair -/
theorem c_X4_pair (l : Launch) (N : ckN) (a : Nat) (b : Nat) (ha : a < 100) (hbb : b < 100) : ckI l yX4_pair cX4_pair 2 (some FieldType.int) { frames := 2, cells := 0, slots := 0, locals := 60 } N [.int (nI a), .int (nI b)] [] (fun (r : Int32) (u : Unit) => r = (nI (5 * min a b + max a b))) (fun (u : Unit) => []) := by
  refine ckI.of (by decide) (Nat.le_of_ble_eq_true rfl) ?_
  intro pg eg sg mg blw mth cg Ag ls hx hb hrt hml hown hlk hin hg hE hA hP hD hS hl
  have hown : sg.vm.findClass RX4 = some mg.cls := hown
  have hl : lv_has ls 2 [(0, .int (nI a)), (1, .int (nI b))] := hl
  have C0 : ckC pg sg mg ([.int (nI a), .int (nI b)]).toArray cg cX4_pair 2 RX4 N Ag := ⟨⟨hx, hb, hml, hown, hg⟩, hE, hA⟩
  generalize hHe : sg.heap = H at hP
  have hS : va_S Ag sg.heap H [] := hHe ▸ hS
  refine lv_iconst (v := (nI 5)) hx hb dX4_pair_0 (by decide) ?_
  refine lv_iload_n hx hb dX4_pair_1 rfl (lv_at hl 0 rfl) ?_
  refine lv_iload_n hx hb dX4_pair_2 rfl (lv_at hl 1 rfl) ?_
  refine va_mmin hx hb (by rw [hml]; exact hl.1.symm) hown (hg _ k3_63) (hg _ k2_73) (hg _ k1_14) (hg _ k2_74) (Nat.le_of_ble_eq_true rfl) (Nat.le_of_ble_eq_true rfl) (Nat.le_of_ble_eq_true rfl) (Nat.le_of_ble_eq_true rfl) dX4_pair_3 ?_
  refine ck_top (y := (nI (min a b))) (ck_min (by omega) (by omega)) ?_
  refine lv_imul hx hb dX4_pair_6 ?_
  refine ck_top (y := (nI (5 * (min a b)))) (pk_mul _ _) ?_
  refine lv_iload_n hx hb dX4_pair_7 rfl (lv_at hl 0 rfl) ?_
  refine lv_iload_n hx hb dX4_pair_8 rfl (lv_at hl 1 rfl) ?_
  refine va_mmax hx hb (by rw [hml]; exact hl.1.symm) hown (hg _ k3_64) (hg _ k3_65) (hg _ k1_14) (hg _ k3_66) (Nat.le_of_ble_eq_true rfl) (Nat.le_of_ble_eq_true rfl) (Nat.le_of_ble_eq_true rfl) (Nat.le_of_ble_eq_true rfl) dX4_pair_9 ?_
  refine ck_top (y := (nI (max a b))) (ck_max (by omega) (by omega)) ?_
  refine lv_iadd hx hb dX4_pair_12 ?_
  refine ck_top (y := (nI (5 * (min a b) + (max a b)))) (nI_add _ _) ?_
  exact ck_iret hx hb hrt hlk () rfl hP hD hS ⟨Nat.le_of_ble_eq_true rfl, Nat.le_of_ble_eq_true rfl⟩ dX4_pair_13
set_option maxHeartbeats 4000000 in
set_option maxRecDepth 100000 in
/-- X10_isUnder -/
theorem c_X10_isUnder (l : Launch) (N : ckN) (k : Nat) (o : Nat) (hk : k < 4) (ho : o < 4) : ckI l yX10_isUnder cX10_isUnder 4 (some FieldType.boolean) { frames := 2, cells := 0, slots := 0, locals := 60 } N [.int (nI k), .int (nI o)] [] (fun (r : Int32) (u : Unit) => r = (b2i (ckUnder k o))) (fun (u : Unit) => []) := by
  refine ckI.of (by decide) (Nat.le_of_ble_eq_true rfl) ?_
  intro pg eg sg mg blw mth cg Ag ls hx hb hrt hml hown hlk hin hg hE hA hP hD hS hl
  have hown : sg.vm.findClass RX10 = some mg.cls := hown
  have hl : lv_has ls 4 [(0, .int (nI k)), (1, .int (nI o))] := hl
  have C0 : ckC pg sg mg ([.int (nI k), .int (nI o)]).toArray cg cX10_isUnder 4 RX10 N Ag := ⟨⟨hx, hb, hml, hown, hg⟩, hE, hA⟩
  generalize hHe : sg.heap = H at hP
  have hS : va_S Ag sg.heap H [] := hHe ▸ hS
  rcases (show k = 0 ∨ k = 1 ∨ k = 2 ∨ k = 3 by omega) with rfl | rfl | rfl | rfl
  · refine lv_iload_n hx hb dX10_isUnder_0 rfl (lv_at hl 0 rfl) ?_
    refine lv_istore_n (lv' := [(2, .int (nI 0)), (0, .int (nI 0)), (1, .int (nI o))]) hx hb dX10_isUnder_1 rfl hl (by decide) rfl (fun ls hl => ?_)
    refine lv_iconst (v := (nI 0)) hx hb dX10_isUnder_2 (by decide) ?_
    refine lv_istore_n (lv' := [(3, .int (nI 0)), (2, .int (nI 0)), (0, .int (nI 0)), (1, .int (nI o))]) hx hb dX10_isUnder_3 rfl hl (by decide) rfl (fun ls hl => ?_)
    refine lv_iload_n hx hb dX10_isUnder_4 rfl (lv_at hl 0 rfl) ?_
    refine lv_iconst (v := (nI 4)) hx hb dX10_isUnder_5 (by decide) ?_
    refine lv_icmp_ge (tgt := 37) hx hb dX10_isUnder_6 (by decide) (fun cz_1 => absurd cz_1 (by decide)) (fun cz_1 => ?_)
    refine lv_iload_n hx hb dX10_isUnder_9 rfl (lv_at hl 1 rfl) ?_
    refine lv_if_lt (tgt := 37) hx hb dX10_isUnder_10 (by decide) (fun cz_2 => absurd cz_2 (by decide)) (fun cz_2 => ?_)
    refine lv_iload_n hx hb dX10_isUnder_13 rfl (lv_at hl 1 rfl) ?_
    refine lv_iconst (v := (nI 4)) hx hb dX10_isUnder_14 (by decide) ?_
    refine lv_icmp_ge (tgt := 37) hx hb dX10_isUnder_15 (by decide) (fun cz_3 => absurd cz_3 (by decide)) (fun cz_3 => ?_)
    refine lv_iload_n hx hb dX10_isUnder_18 rfl (lv_at hl 1 rfl) ?_
    refine lv_iload_n hx hb dX10_isUnder_19 rfl (lv_at hl 3 rfl) ?_
    refine ck_ic_ne (tgt := 25) hx hb dX10_isUnder_20 (by decide) (by omega) (by omega) (fun cz_4 => ?_) (fun cz_4 => ?_)
    · refine va_gets hx hb hE.2.2.2.2.2.1.1 hS hown (hg _ k2_108) (fun _ h9 => h9) dX10_isUnder_25 ?_
      refine lv_iload_n hx hb dX10_isUnder_28 rfl (lv_at hl 1 rfl) ?_
      refine va_ti (v := .int (ckOVER 0)) hx hb hE.2.2.2.2.2.1.2 hS (vp_in_nI (by omega) (by decide)) (by rw [nI_clamp (by omega)]) dX10_isUnder_29 ?_
      refine ck_top (y := (-1)) (by decide) ?_
      refine lv_istore_n (lv' := [(2, .int (-1)), (3, .int (nI 0)), (0, .int (nI 0)), (1, .int (nI o))]) hx hb dX10_isUnder_30 rfl hl (by decide) rfl (fun ls hl => ?_)
      refine lv_iinc (v := (nI 1)) (lv' := [(3, .int (nI 1)), (2, .int (-1)), (0, .int (nI 0)), (1, .int (nI o))]) hx hb dX10_isUnder_31 hl (k := 1) rfl (by decide) (by decide) rfl (fun ls hl => ?_)
      refine lv_goto (tgt := 4) hx hb dX10_isUnder_34 (by decide) ?_
      refine lv_iload_n hx hb dX10_isUnder_4 rfl (lv_at hl 0 rfl) ?_
      refine lv_iconst (v := (nI 4)) hx hb dX10_isUnder_5 (by decide) ?_
      refine lv_icmp_ge (tgt := 37) hx hb dX10_isUnder_6 (by decide) (fun cz_5 => absurd cz_5 (by decide)) (fun cz_5 => ?_)
      refine lv_iload_n hx hb dX10_isUnder_9 rfl (lv_at hl 1 rfl) ?_
      refine lv_if_lt (tgt := 37) hx hb dX10_isUnder_10 (by decide) (fun cz_6 => ?_) (fun cz_6 => absurd cz_6 (by decide))
      refine lv_iconst (v := (nI 0)) hx hb dX10_isUnder_37 (by decide) ?_
      refine ck_top (y := (b2i false)) (by decide) ?_
      exact ck_zret (b := false) hx hb hrt hlk () (congrArg b2i (Eq.symm (decide_eq_false (by omega)))) hP hD hS ⟨Nat.le_of_ble_eq_true rfl, Nat.le_of_ble_eq_true rfl⟩ dX10_isUnder_38
    refine lv_iconst (v := (nI 1)) hx hb dX10_isUnder_23 (by decide) ?_
    refine ck_top (y := (b2i true)) (by decide) ?_
    exact ck_zret (b := true) hx hb hrt hlk () (congrArg b2i (Eq.symm (decide_eq_true (by omega)))) hP hD hS ⟨Nat.le_of_ble_eq_true rfl, Nat.le_of_ble_eq_true rfl⟩ dX10_isUnder_24
  · refine lv_iload_n hx hb dX10_isUnder_0 rfl (lv_at hl 0 rfl) ?_
    refine lv_istore_n (lv' := [(2, .int (nI 1)), (0, .int (nI 1)), (1, .int (nI o))]) hx hb dX10_isUnder_1 rfl hl (by decide) rfl (fun ls hl => ?_)
    refine lv_iconst (v := (nI 0)) hx hb dX10_isUnder_2 (by decide) ?_
    refine lv_istore_n (lv' := [(3, .int (nI 0)), (2, .int (nI 1)), (0, .int (nI 1)), (1, .int (nI o))]) hx hb dX10_isUnder_3 rfl hl (by decide) rfl (fun ls hl => ?_)
    refine lv_iload_n hx hb dX10_isUnder_4 rfl (lv_at hl 0 rfl) ?_
    refine lv_iconst (v := (nI 4)) hx hb dX10_isUnder_5 (by decide) ?_
    refine lv_icmp_ge (tgt := 37) hx hb dX10_isUnder_6 (by decide) (fun cz_7 => absurd cz_7 (by decide)) (fun cz_7 => ?_)
    refine lv_iload_n hx hb dX10_isUnder_9 rfl (lv_at hl 1 rfl) ?_
    refine lv_if_lt (tgt := 37) hx hb dX10_isUnder_10 (by decide) (fun cz_8 => absurd cz_8 (by decide)) (fun cz_8 => ?_)
    refine lv_iload_n hx hb dX10_isUnder_13 rfl (lv_at hl 1 rfl) ?_
    refine lv_iconst (v := (nI 4)) hx hb dX10_isUnder_14 (by decide) ?_
    refine lv_icmp_ge (tgt := 37) hx hb dX10_isUnder_15 (by decide) (fun cz_9 => absurd cz_9 (by decide)) (fun cz_9 => ?_)
    refine lv_iload_n hx hb dX10_isUnder_18 rfl (lv_at hl 1 rfl) ?_
    refine lv_iload_n hx hb dX10_isUnder_19 rfl (lv_at hl 3 rfl) ?_
    refine ck_ic_ne (tgt := 25) hx hb dX10_isUnder_20 (by decide) (by omega) (by omega) (fun cz_10 => ?_) (fun cz_10 => ?_)
    · refine va_gets hx hb hE.2.2.2.2.2.1.1 hS hown (hg _ k2_108) (fun _ h9 => h9) dX10_isUnder_25 ?_
      refine lv_iload_n hx hb dX10_isUnder_28 rfl (lv_at hl 1 rfl) ?_
      refine va_ti (v := .int (ckOVER 1)) hx hb hE.2.2.2.2.2.1.2 hS (vp_in_nI (by omega) (by decide)) (by rw [nI_clamp (by omega)]) dX10_isUnder_29 ?_
      refine ck_top (y := (nI 0)) (by decide) ?_
      refine lv_istore_n (lv' := [(2, .int (nI 0)), (3, .int (nI 0)), (0, .int (nI 1)), (1, .int (nI o))]) hx hb dX10_isUnder_30 rfl hl (by decide) rfl (fun ls hl => ?_)
      refine lv_iinc (v := (nI 1)) (lv' := [(3, .int (nI 1)), (2, .int (nI 0)), (0, .int (nI 1)), (1, .int (nI o))]) hx hb dX10_isUnder_31 hl (k := 1) rfl (by decide) (by decide) rfl (fun ls hl => ?_)
      refine lv_goto (tgt := 4) hx hb dX10_isUnder_34 (by decide) ?_
      refine lv_iload_n hx hb dX10_isUnder_4 rfl (lv_at hl 0 rfl) ?_
      refine lv_iconst (v := (nI 4)) hx hb dX10_isUnder_5 (by decide) ?_
      refine lv_icmp_ge (tgt := 37) hx hb dX10_isUnder_6 (by decide) (fun cz_11 => absurd cz_11 (by decide)) (fun cz_11 => ?_)
      refine lv_iload_n hx hb dX10_isUnder_9 rfl (lv_at hl 1 rfl) ?_
      refine lv_if_lt (tgt := 37) hx hb dX10_isUnder_10 (by decide) (fun cz_12 => absurd cz_12 (by decide)) (fun cz_12 => ?_)
      refine lv_iload_n hx hb dX10_isUnder_13 rfl (lv_at hl 1 rfl) ?_
      refine lv_iconst (v := (nI 4)) hx hb dX10_isUnder_14 (by decide) ?_
      refine lv_icmp_ge (tgt := 37) hx hb dX10_isUnder_15 (by decide) (fun cz_13 => absurd cz_13 (by decide)) (fun cz_13 => ?_)
      refine lv_iload_n hx hb dX10_isUnder_18 rfl (lv_at hl 1 rfl) ?_
      refine lv_iload_n hx hb dX10_isUnder_19 rfl (lv_at hl 3 rfl) ?_
      refine ck_ic_ne (tgt := 25) hx hb dX10_isUnder_20 (by decide) (by omega) (by omega) (fun cz_14 => ?_) (fun cz_14 => ?_)
      · refine va_gets hx hb hE.2.2.2.2.2.1.1 hS hown (hg _ k2_108) (fun _ h9 => h9) dX10_isUnder_25 ?_
        refine lv_iload_n hx hb dX10_isUnder_28 rfl (lv_at hl 1 rfl) ?_
        refine va_ti (v := .int (ckOVER 0)) hx hb hE.2.2.2.2.2.1.2 hS (vp_in_nI (by omega) (by decide)) (by rw [nI_clamp (by omega)]) dX10_isUnder_29 ?_
        refine ck_top (y := (-1)) (by decide) ?_
        refine lv_istore_n (lv' := [(2, .int (-1)), (3, .int (nI 1)), (0, .int (nI 1)), (1, .int (nI o))]) hx hb dX10_isUnder_30 rfl hl (by decide) rfl (fun ls hl => ?_)
        refine lv_iinc (v := (nI 2)) (lv' := [(3, .int (nI 2)), (2, .int (-1)), (0, .int (nI 1)), (1, .int (nI o))]) hx hb dX10_isUnder_31 hl (k := 1) rfl (by decide) (by decide) rfl (fun ls hl => ?_)
        refine lv_goto (tgt := 4) hx hb dX10_isUnder_34 (by decide) ?_
        refine lv_iload_n hx hb dX10_isUnder_4 rfl (lv_at hl 0 rfl) ?_
        refine lv_iconst (v := (nI 4)) hx hb dX10_isUnder_5 (by decide) ?_
        refine lv_icmp_ge (tgt := 37) hx hb dX10_isUnder_6 (by decide) (fun cz_15 => absurd cz_15 (by decide)) (fun cz_15 => ?_)
        refine lv_iload_n hx hb dX10_isUnder_9 rfl (lv_at hl 1 rfl) ?_
        refine lv_if_lt (tgt := 37) hx hb dX10_isUnder_10 (by decide) (fun cz_16 => ?_) (fun cz_16 => absurd cz_16 (by decide))
        refine lv_iconst (v := (nI 0)) hx hb dX10_isUnder_37 (by decide) ?_
        refine ck_top (y := (b2i false)) (by decide) ?_
        exact ck_zret (b := false) hx hb hrt hlk () (congrArg b2i (Eq.symm (decide_eq_false (by omega)))) hP hD hS ⟨Nat.le_of_ble_eq_true rfl, Nat.le_of_ble_eq_true rfl⟩ dX10_isUnder_38
      refine lv_iconst (v := (nI 1)) hx hb dX10_isUnder_23 (by decide) ?_
      refine ck_top (y := (b2i true)) (by decide) ?_
      exact ck_zret (b := true) hx hb hrt hlk () (congrArg b2i (Eq.symm (decide_eq_true (by omega)))) hP hD hS ⟨Nat.le_of_ble_eq_true rfl, Nat.le_of_ble_eq_true rfl⟩ dX10_isUnder_24
    refine lv_iconst (v := (nI 1)) hx hb dX10_isUnder_23 (by decide) ?_
    refine ck_top (y := (b2i true)) (by decide) ?_
    exact ck_zret (b := true) hx hb hrt hlk () (congrArg b2i (Eq.symm (decide_eq_true (by omega)))) hP hD hS ⟨Nat.le_of_ble_eq_true rfl, Nat.le_of_ble_eq_true rfl⟩ dX10_isUnder_24
  · refine lv_iload_n hx hb dX10_isUnder_0 rfl (lv_at hl 0 rfl) ?_
    refine lv_istore_n (lv' := [(2, .int (nI 2)), (0, .int (nI 2)), (1, .int (nI o))]) hx hb dX10_isUnder_1 rfl hl (by decide) rfl (fun ls hl => ?_)
    refine lv_iconst (v := (nI 0)) hx hb dX10_isUnder_2 (by decide) ?_
    refine lv_istore_n (lv' := [(3, .int (nI 0)), (2, .int (nI 2)), (0, .int (nI 2)), (1, .int (nI o))]) hx hb dX10_isUnder_3 rfl hl (by decide) rfl (fun ls hl => ?_)
    refine lv_iload_n hx hb dX10_isUnder_4 rfl (lv_at hl 0 rfl) ?_
    refine lv_iconst (v := (nI 4)) hx hb dX10_isUnder_5 (by decide) ?_
    refine lv_icmp_ge (tgt := 37) hx hb dX10_isUnder_6 (by decide) (fun cz_17 => absurd cz_17 (by decide)) (fun cz_17 => ?_)
    refine lv_iload_n hx hb dX10_isUnder_9 rfl (lv_at hl 1 rfl) ?_
    refine lv_if_lt (tgt := 37) hx hb dX10_isUnder_10 (by decide) (fun cz_18 => absurd cz_18 (by decide)) (fun cz_18 => ?_)
    refine lv_iload_n hx hb dX10_isUnder_13 rfl (lv_at hl 1 rfl) ?_
    refine lv_iconst (v := (nI 4)) hx hb dX10_isUnder_14 (by decide) ?_
    refine lv_icmp_ge (tgt := 37) hx hb dX10_isUnder_15 (by decide) (fun cz_19 => absurd cz_19 (by decide)) (fun cz_19 => ?_)
    refine lv_iload_n hx hb dX10_isUnder_18 rfl (lv_at hl 1 rfl) ?_
    refine lv_iload_n hx hb dX10_isUnder_19 rfl (lv_at hl 3 rfl) ?_
    refine ck_ic_ne (tgt := 25) hx hb dX10_isUnder_20 (by decide) (by omega) (by omega) (fun cz_20 => ?_) (fun cz_20 => ?_)
    · refine va_gets hx hb hE.2.2.2.2.2.1.1 hS hown (hg _ k2_108) (fun _ h9 => h9) dX10_isUnder_25 ?_
      refine lv_iload_n hx hb dX10_isUnder_28 rfl (lv_at hl 1 rfl) ?_
      refine va_ti (v := .int (ckOVER 2)) hx hb hE.2.2.2.2.2.1.2 hS (vp_in_nI (by omega) (by decide)) (by rw [nI_clamp (by omega)]) dX10_isUnder_29 ?_
      refine ck_top (y := (nI 0)) (by decide) ?_
      refine lv_istore_n (lv' := [(2, .int (nI 0)), (3, .int (nI 0)), (0, .int (nI 2)), (1, .int (nI o))]) hx hb dX10_isUnder_30 rfl hl (by decide) rfl (fun ls hl => ?_)
      refine lv_iinc (v := (nI 1)) (lv' := [(3, .int (nI 1)), (2, .int (nI 0)), (0, .int (nI 2)), (1, .int (nI o))]) hx hb dX10_isUnder_31 hl (k := 1) rfl (by decide) (by decide) rfl (fun ls hl => ?_)
      refine lv_goto (tgt := 4) hx hb dX10_isUnder_34 (by decide) ?_
      refine lv_iload_n hx hb dX10_isUnder_4 rfl (lv_at hl 0 rfl) ?_
      refine lv_iconst (v := (nI 4)) hx hb dX10_isUnder_5 (by decide) ?_
      refine lv_icmp_ge (tgt := 37) hx hb dX10_isUnder_6 (by decide) (fun cz_21 => absurd cz_21 (by decide)) (fun cz_21 => ?_)
      refine lv_iload_n hx hb dX10_isUnder_9 rfl (lv_at hl 1 rfl) ?_
      refine lv_if_lt (tgt := 37) hx hb dX10_isUnder_10 (by decide) (fun cz_22 => absurd cz_22 (by decide)) (fun cz_22 => ?_)
      refine lv_iload_n hx hb dX10_isUnder_13 rfl (lv_at hl 1 rfl) ?_
      refine lv_iconst (v := (nI 4)) hx hb dX10_isUnder_14 (by decide) ?_
      refine lv_icmp_ge (tgt := 37) hx hb dX10_isUnder_15 (by decide) (fun cz_23 => absurd cz_23 (by decide)) (fun cz_23 => ?_)
      refine lv_iload_n hx hb dX10_isUnder_18 rfl (lv_at hl 1 rfl) ?_
      refine lv_iload_n hx hb dX10_isUnder_19 rfl (lv_at hl 3 rfl) ?_
      refine ck_ic_ne (tgt := 25) hx hb dX10_isUnder_20 (by decide) (by omega) (by omega) (fun cz_24 => ?_) (fun cz_24 => ?_)
      · refine va_gets hx hb hE.2.2.2.2.2.1.1 hS hown (hg _ k2_108) (fun _ h9 => h9) dX10_isUnder_25 ?_
        refine lv_iload_n hx hb dX10_isUnder_28 rfl (lv_at hl 1 rfl) ?_
        refine va_ti (v := .int (ckOVER 0)) hx hb hE.2.2.2.2.2.1.2 hS (vp_in_nI (by omega) (by decide)) (by rw [nI_clamp (by omega)]) dX10_isUnder_29 ?_
        refine ck_top (y := (-1)) (by decide) ?_
        refine lv_istore_n (lv' := [(2, .int (-1)), (3, .int (nI 1)), (0, .int (nI 2)), (1, .int (nI o))]) hx hb dX10_isUnder_30 rfl hl (by decide) rfl (fun ls hl => ?_)
        refine lv_iinc (v := (nI 2)) (lv' := [(3, .int (nI 2)), (2, .int (-1)), (0, .int (nI 2)), (1, .int (nI o))]) hx hb dX10_isUnder_31 hl (k := 1) rfl (by decide) (by decide) rfl (fun ls hl => ?_)
        refine lv_goto (tgt := 4) hx hb dX10_isUnder_34 (by decide) ?_
        refine lv_iload_n hx hb dX10_isUnder_4 rfl (lv_at hl 0 rfl) ?_
        refine lv_iconst (v := (nI 4)) hx hb dX10_isUnder_5 (by decide) ?_
        refine lv_icmp_ge (tgt := 37) hx hb dX10_isUnder_6 (by decide) (fun cz_25 => absurd cz_25 (by decide)) (fun cz_25 => ?_)
        refine lv_iload_n hx hb dX10_isUnder_9 rfl (lv_at hl 1 rfl) ?_
        refine lv_if_lt (tgt := 37) hx hb dX10_isUnder_10 (by decide) (fun cz_26 => ?_) (fun cz_26 => absurd cz_26 (by decide))
        refine lv_iconst (v := (nI 0)) hx hb dX10_isUnder_37 (by decide) ?_
        refine ck_top (y := (b2i false)) (by decide) ?_
        exact ck_zret (b := false) hx hb hrt hlk () (congrArg b2i (Eq.symm (decide_eq_false (by omega)))) hP hD hS ⟨Nat.le_of_ble_eq_true rfl, Nat.le_of_ble_eq_true rfl⟩ dX10_isUnder_38
      refine lv_iconst (v := (nI 1)) hx hb dX10_isUnder_23 (by decide) ?_
      refine ck_top (y := (b2i true)) (by decide) ?_
      exact ck_zret (b := true) hx hb hrt hlk () (congrArg b2i (Eq.symm (decide_eq_true (by omega)))) hP hD hS ⟨Nat.le_of_ble_eq_true rfl, Nat.le_of_ble_eq_true rfl⟩ dX10_isUnder_24
    refine lv_iconst (v := (nI 1)) hx hb dX10_isUnder_23 (by decide) ?_
    refine ck_top (y := (b2i true)) (by decide) ?_
    exact ck_zret (b := true) hx hb hrt hlk () (congrArg b2i (Eq.symm (decide_eq_true (by omega)))) hP hD hS ⟨Nat.le_of_ble_eq_true rfl, Nat.le_of_ble_eq_true rfl⟩ dX10_isUnder_24
  · refine lv_iload_n hx hb dX10_isUnder_0 rfl (lv_at hl 0 rfl) ?_
    refine lv_istore_n (lv' := [(2, .int (nI 3)), (0, .int (nI 3)), (1, .int (nI o))]) hx hb dX10_isUnder_1 rfl hl (by decide) rfl (fun ls hl => ?_)
    refine lv_iconst (v := (nI 0)) hx hb dX10_isUnder_2 (by decide) ?_
    refine lv_istore_n (lv' := [(3, .int (nI 0)), (2, .int (nI 3)), (0, .int (nI 3)), (1, .int (nI o))]) hx hb dX10_isUnder_3 rfl hl (by decide) rfl (fun ls hl => ?_)
    refine lv_iload_n hx hb dX10_isUnder_4 rfl (lv_at hl 0 rfl) ?_
    refine lv_iconst (v := (nI 4)) hx hb dX10_isUnder_5 (by decide) ?_
    refine lv_icmp_ge (tgt := 37) hx hb dX10_isUnder_6 (by decide) (fun cz_27 => absurd cz_27 (by decide)) (fun cz_27 => ?_)
    refine lv_iload_n hx hb dX10_isUnder_9 rfl (lv_at hl 1 rfl) ?_
    refine lv_if_lt (tgt := 37) hx hb dX10_isUnder_10 (by decide) (fun cz_28 => absurd cz_28 (by decide)) (fun cz_28 => ?_)
    refine lv_iload_n hx hb dX10_isUnder_13 rfl (lv_at hl 1 rfl) ?_
    refine lv_iconst (v := (nI 4)) hx hb dX10_isUnder_14 (by decide) ?_
    refine lv_icmp_ge (tgt := 37) hx hb dX10_isUnder_15 (by decide) (fun cz_29 => absurd cz_29 (by decide)) (fun cz_29 => ?_)
    refine lv_iload_n hx hb dX10_isUnder_18 rfl (lv_at hl 1 rfl) ?_
    refine lv_iload_n hx hb dX10_isUnder_19 rfl (lv_at hl 3 rfl) ?_
    refine ck_ic_ne (tgt := 25) hx hb dX10_isUnder_20 (by decide) (by omega) (by omega) (fun cz_30 => ?_) (fun cz_30 => ?_)
    · refine va_gets hx hb hE.2.2.2.2.2.1.1 hS hown (hg _ k2_108) (fun _ h9 => h9) dX10_isUnder_25 ?_
      refine lv_iload_n hx hb dX10_isUnder_28 rfl (lv_at hl 1 rfl) ?_
      refine va_ti (v := .int (ckOVER 3)) hx hb hE.2.2.2.2.2.1.2 hS (vp_in_nI (by omega) (by decide)) (by rw [nI_clamp (by omega)]) dX10_isUnder_29 ?_
      refine ck_top (y := (nI 1)) (by decide) ?_
      refine lv_istore_n (lv' := [(2, .int (nI 1)), (3, .int (nI 0)), (0, .int (nI 3)), (1, .int (nI o))]) hx hb dX10_isUnder_30 rfl hl (by decide) rfl (fun ls hl => ?_)
      refine lv_iinc (v := (nI 1)) (lv' := [(3, .int (nI 1)), (2, .int (nI 1)), (0, .int (nI 3)), (1, .int (nI o))]) hx hb dX10_isUnder_31 hl (k := 1) rfl (by decide) (by decide) rfl (fun ls hl => ?_)
      refine lv_goto (tgt := 4) hx hb dX10_isUnder_34 (by decide) ?_
      refine lv_iload_n hx hb dX10_isUnder_4 rfl (lv_at hl 0 rfl) ?_
      refine lv_iconst (v := (nI 4)) hx hb dX10_isUnder_5 (by decide) ?_
      refine lv_icmp_ge (tgt := 37) hx hb dX10_isUnder_6 (by decide) (fun cz_31 => absurd cz_31 (by decide)) (fun cz_31 => ?_)
      refine lv_iload_n hx hb dX10_isUnder_9 rfl (lv_at hl 1 rfl) ?_
      refine lv_if_lt (tgt := 37) hx hb dX10_isUnder_10 (by decide) (fun cz_32 => absurd cz_32 (by decide)) (fun cz_32 => ?_)
      refine lv_iload_n hx hb dX10_isUnder_13 rfl (lv_at hl 1 rfl) ?_
      refine lv_iconst (v := (nI 4)) hx hb dX10_isUnder_14 (by decide) ?_
      refine lv_icmp_ge (tgt := 37) hx hb dX10_isUnder_15 (by decide) (fun cz_33 => absurd cz_33 (by decide)) (fun cz_33 => ?_)
      refine lv_iload_n hx hb dX10_isUnder_18 rfl (lv_at hl 1 rfl) ?_
      refine lv_iload_n hx hb dX10_isUnder_19 rfl (lv_at hl 3 rfl) ?_
      refine ck_ic_ne (tgt := 25) hx hb dX10_isUnder_20 (by decide) (by omega) (by omega) (fun cz_34 => ?_) (fun cz_34 => ?_)
      · refine va_gets hx hb hE.2.2.2.2.2.1.1 hS hown (hg _ k2_108) (fun _ h9 => h9) dX10_isUnder_25 ?_
        refine lv_iload_n hx hb dX10_isUnder_28 rfl (lv_at hl 1 rfl) ?_
        refine va_ti (v := .int (ckOVER 1)) hx hb hE.2.2.2.2.2.1.2 hS (vp_in_nI (by omega) (by decide)) (by rw [nI_clamp (by omega)]) dX10_isUnder_29 ?_
        refine ck_top (y := (nI 0)) (by decide) ?_
        refine lv_istore_n (lv' := [(2, .int (nI 0)), (3, .int (nI 1)), (0, .int (nI 3)), (1, .int (nI o))]) hx hb dX10_isUnder_30 rfl hl (by decide) rfl (fun ls hl => ?_)
        refine lv_iinc (v := (nI 2)) (lv' := [(3, .int (nI 2)), (2, .int (nI 0)), (0, .int (nI 3)), (1, .int (nI o))]) hx hb dX10_isUnder_31 hl (k := 1) rfl (by decide) (by decide) rfl (fun ls hl => ?_)
        refine lv_goto (tgt := 4) hx hb dX10_isUnder_34 (by decide) ?_
        refine lv_iload_n hx hb dX10_isUnder_4 rfl (lv_at hl 0 rfl) ?_
        refine lv_iconst (v := (nI 4)) hx hb dX10_isUnder_5 (by decide) ?_
        refine lv_icmp_ge (tgt := 37) hx hb dX10_isUnder_6 (by decide) (fun cz_35 => absurd cz_35 (by decide)) (fun cz_35 => ?_)
        refine lv_iload_n hx hb dX10_isUnder_9 rfl (lv_at hl 1 rfl) ?_
        refine lv_if_lt (tgt := 37) hx hb dX10_isUnder_10 (by decide) (fun cz_36 => absurd cz_36 (by decide)) (fun cz_36 => ?_)
        refine lv_iload_n hx hb dX10_isUnder_13 rfl (lv_at hl 1 rfl) ?_
        refine lv_iconst (v := (nI 4)) hx hb dX10_isUnder_14 (by decide) ?_
        refine lv_icmp_ge (tgt := 37) hx hb dX10_isUnder_15 (by decide) (fun cz_37 => absurd cz_37 (by decide)) (fun cz_37 => ?_)
        refine lv_iload_n hx hb dX10_isUnder_18 rfl (lv_at hl 1 rfl) ?_
        refine lv_iload_n hx hb dX10_isUnder_19 rfl (lv_at hl 3 rfl) ?_
        refine ck_ic_ne (tgt := 25) hx hb dX10_isUnder_20 (by decide) (by omega) (by omega) (fun cz_38 => ?_) (fun cz_38 => ?_)
        · refine va_gets hx hb hE.2.2.2.2.2.1.1 hS hown (hg _ k2_108) (fun _ h9 => h9) dX10_isUnder_25 ?_
          refine lv_iload_n hx hb dX10_isUnder_28 rfl (lv_at hl 1 rfl) ?_
          refine va_ti (v := .int (ckOVER 0)) hx hb hE.2.2.2.2.2.1.2 hS (vp_in_nI (by omega) (by decide)) (by rw [nI_clamp (by omega)]) dX10_isUnder_29 ?_
          refine ck_top (y := (-1)) (by decide) ?_
          refine lv_istore_n (lv' := [(2, .int (-1)), (3, .int (nI 2)), (0, .int (nI 3)), (1, .int (nI o))]) hx hb dX10_isUnder_30 rfl hl (by decide) rfl (fun ls hl => ?_)
          refine lv_iinc (v := (nI 3)) (lv' := [(3, .int (nI 3)), (2, .int (-1)), (0, .int (nI 3)), (1, .int (nI o))]) hx hb dX10_isUnder_31 hl (k := 1) rfl (by decide) (by decide) rfl (fun ls hl => ?_)
          refine lv_goto (tgt := 4) hx hb dX10_isUnder_34 (by decide) ?_
          refine lv_iload_n hx hb dX10_isUnder_4 rfl (lv_at hl 0 rfl) ?_
          refine lv_iconst (v := (nI 4)) hx hb dX10_isUnder_5 (by decide) ?_
          refine lv_icmp_ge (tgt := 37) hx hb dX10_isUnder_6 (by decide) (fun cz_39 => absurd cz_39 (by decide)) (fun cz_39 => ?_)
          refine lv_iload_n hx hb dX10_isUnder_9 rfl (lv_at hl 1 rfl) ?_
          refine lv_if_lt (tgt := 37) hx hb dX10_isUnder_10 (by decide) (fun cz_40 => ?_) (fun cz_40 => absurd cz_40 (by decide))
          refine lv_iconst (v := (nI 0)) hx hb dX10_isUnder_37 (by decide) ?_
          refine ck_top (y := (b2i false)) (by decide) ?_
          exact ck_zret (b := false) hx hb hrt hlk () (congrArg b2i (Eq.symm (decide_eq_false (by omega)))) hP hD hS ⟨Nat.le_of_ble_eq_true rfl, Nat.le_of_ble_eq_true rfl⟩ dX10_isUnder_38
        refine lv_iconst (v := (nI 1)) hx hb dX10_isUnder_23 (by decide) ?_
        refine ck_top (y := (b2i true)) (by decide) ?_
        exact ck_zret (b := true) hx hb hrt hlk () (congrArg b2i (Eq.symm (decide_eq_true (by omega)))) hP hD hS ⟨Nat.le_of_ble_eq_true rfl, Nat.le_of_ble_eq_true rfl⟩ dX10_isUnder_24
      refine lv_iconst (v := (nI 1)) hx hb dX10_isUnder_23 (by decide) ?_
      refine ck_top (y := (b2i true)) (by decide) ?_
      exact ck_zret (b := true) hx hb hrt hlk () (congrArg b2i (Eq.symm (decide_eq_true (by omega)))) hP hD hS ⟨Nat.le_of_ble_eq_true rfl, Nat.le_of_ble_eq_true rfl⟩ dX10_isUnder_24
    refine lv_iconst (v := (nI 1)) hx hb dX10_isUnder_23 (by decide) ?_
    refine ck_top (y := (b2i true)) (by decide) ?_
    exact ck_zret (b := true) hx hb hrt hlk () (congrArg b2i (Eq.symm (decide_eq_true (by omega)))) hP hD hS ⟨Nat.le_of_ble_eq_true rfl, Nat.le_of_ble_eq_true rfl⟩ dX10_isUnder_24
