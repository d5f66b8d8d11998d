/-! small classes: Flyers, Winds, Sheet -/
def ckLt (x : Int32) (n : Nat) : Bool := decide (0 ≤ x.toInt ∧ x.toInt < (n : Int))
theorem ckLt_t {x : Int32} {n : Nat} (hn : n ≤ 2 ^ 31) : ckLt x n = true ↔ ∃ j : Nat, j < n ∧ x = nI j := by
  rw [ckLt, decide_eq_true_eq]
  constructor
  · intro h
    have h0 : ¬ x < 0 := by rw [i_lt]; show ¬ x.toInt < (nI 0).toInt; rw [nI_toInt (by decide)]; omega
    obtain ⟨j, hj, rfl⟩ := nI_of h0
    rw [nI_toInt hj] at h
    exact ⟨j, by omega, rfl⟩
  · rintro ⟨j, h1, rfl⟩
    rw [nI_toInt (by omega)]
    omega
theorem ckLt_nI {i n : Nat} (hi : i < 2 ^ 31) : ckLt (nI i) n = decide (i < n) := by
  rw [ckLt, nI_toInt hi]
  exact decide_eq_decide.mpr (by omega)
theorem ck_fill {f g : Nat → Int32} {k : Nat} {x : Int32} (h : ∀ j, j < k → f j = g j) (hx : x = g k) : ∀ j, j < k + 1 → upd f k x j = g j := by
  intro j hj
  by_cases hjk : j = k
  · subst hjk; rw [upd, if_pos rfl]; exact hx
  · rw [upd, if_neg hjk]; exact h j (by omega)
theorem fb_rng (x : Int32) : -2147483648 ≤ x.toInt ∧ x.toInt < 2147483648 := i_rng x
theorem fb_bmod {z : Int} (h1 : -2147483648 ≤ z) (h2 : z < 2147483648) : z.bmod (2 ^ 32) = z := by
  rw [Int.bmod_eq_of_le] <;> omega
theorem fb_addI {x y : Int32} (h1 : -2147483648 ≤ x.toInt + y.toInt) (h2 : x.toInt + y.toInt < 2147483648) : (x + y).toInt = x.toInt + y.toInt := by
  rw [Int32.toInt_add, fb_bmod h1 h2]
theorem fb_subI {x y : Int32} (h1 : -2147483648 ≤ x.toInt - y.toInt) (h2 : x.toInt - y.toInt < 2147483648) : (x - y).toInt = x.toInt - y.toInt := by
  rw [Int32.toInt_sub, fb_bmod h1 h2]
theorem fb_mulI {x y : Int32} (h1 : -2147483648 ≤ x.toInt * y.toInt) (h2 : x.toInt * y.toInt < 2147483648) : (x * y).toInt = x.toInt * y.toInt := by
  rw [Int32.toInt_mul, fb_bmod h1 h2]
theorem fb_negI {x : Int32} (h : x.toInt ≠ -2147483648) : (-x).toInt = -x.toInt := by
  have := i_rng x
  rw [Int32.toInt_neg, fb_bmod (by omega) (by omega)]
def ckWithin (nu : Nat → Int32) (n M : Nat) : Bool := decide (∀ i, i < n → ckIn (nu i) (nI 0) (nI M) = true)
def ckWr (b : Nat) (v : Int32) : Int32 := (v <<< (nI (32 - b) &&& 31)) >>> (nI (32 - b) &&& 31)
set_option maxHeartbeats 4000000 in
set_option maxRecDepth 100000 in
/-- X1_init -/
theorem c_X1_init (l : Launch) (N : ckN) (a : Nat)  : ckV l yX1_init cX1_init 1 none { frames := 2, cells := 1, slots := 64, locals := 60 } N [.ref a] [(a, .inr (1, [.null, .int (nI 0)]))] (fun (u : Nat) => True) (fun (u : Nat) => [(a, .inr (1, [.ref u, .int (nI 0)])), (u, .inl (N.2 0, 64, .inl (fun _ => 0)))]) := by
  refine ckV.of (by decide) (Nat.le_of_ble_eq_true rfl) ?_
  intro pg eg sg mg blw mth cg Ag ls hx hb hrt hml hown hlk hin hg hE hA hP hD hS hl
  have hown : sg.vm.findClass RX1 = some mg.cls := hown
  have hl : lv_has ls 1 [(0, .ref a)] := hl
  have C0 : ckC pg sg mg ([.ref a]).toArray cg cX1_init 1 RX1 N Ag := ⟨⟨hx, hb, hml, hown, hg⟩, hE, hA⟩
  generalize hHe : sg.heap = H at hP
  have hS : va_S Ag sg.heap H [] := hHe ▸ hS
  refine lv_aload_n hx hb dX1_init_0 rfl (lv_at hl 0 rfl) ?_
  refine W.objInit hx hb hown (hg _ k1_41) (hg _ k1_22) (hg _ k1_23) rfl (by rw [hml]; exact hl.1) rfl dX1_init_1 (Nat.le_of_ble_eq_true rfl) (Nat.le_of_ble_eq_true rfl) ?_
  refine W.eq (g2 := F0 mg 4 ls []) rfl ?_
  refine lv_aload_n hx hb dX1_init_4 rfl (lv_at hl 0 rfl) ?_
  refine lv_bipush (v := (nI 64)) hx hb dX1_init_5 (by decide) ?_
  refine ck_newa (n := 64) hx hb (hg _ k1_51) hE hP hD hS hA (by decide) (by decide) (Nat.le_of_ble_eq_true rfl) (Nat.le_of_ble_eq_true rfl) dX1_init_7 (fun q_1 H hP hD hS => ?_)
  have hP : va_P N.1 vwCl [(a, .inr (1, [.null, .int (nI 0)])), (q_1, .inl (N.2 0, 64, .inl (fun _ => 0)))] H := hP
  have hD : va_D Ag [(a, .inr (1, [.null, .int (nI 0)])), (q_1, .inl (N.2 0, 64, .inl (fun _ => 0)))] := hD
  refine va_putF (ci := 1) (v := .ref q_1) (C := RX1) (T := TX1) (N := 2) hx hb hg inX1 tyX1 tyX1_ok nmX1 hown hE.1 hP hD hS 0 rfl rfl 0 (by decide) (hg _ k1_42) (fun _ h9 => h9) rfl hin rfl (tyX1_ok 0 (by decide)) rfl rfl (Nat.le_of_ble_eq_true rfl) dX1_init_9 (fun H locs hP hD hS => ?_)
  have hP : va_P N.1 vwCl [(a, .inr (1, [.ref q_1, .int (nI 0)])), (q_1, .inl (N.2 0, 64, .inl (fun _ => 0)))] H := hP
  have hD : va_D Ag [(a, .inr (1, [.ref q_1, .int (nI 0)])), (q_1, .inl (N.2 0, 64, .inl (fun _ => 0)))] := hD
  exact ck_vret hx hb hrt hlk (q_1) trivial hP hD hS ⟨Nat.le_of_ble_eq_true rfl, Nat.le_of_ble_eq_true rfl⟩ dX1_init_12
set_option maxHeartbeats 4000000 in
set_option maxRecDepth 100000 in
/-- X1_have -/
theorem c_X1_have (l : Launch) (N : ckN) (a : Nat) (t : Nat) (tr : Nat → Int32) (n : Nat) (x : Int32) (hn : n < 2 ^ 31) : ckI l yX1_have cX1_have 2 (some FieldType.boolean) { frames := 2, cells := 0, slots := 0, locals := 60 } N [.ref a, .int x] [(a, .inr (1, [.ref t, .int (nI n)])), (t, .inl (N.2 0, 64, .inl tr))] (fun (r : Int32) (u : Unit) => r = (b2i (ckLt x n))) (fun (u : Unit) => [(a, .inr (1, [.ref t, .int (nI n)])), (t, .inl (N.2 0, 64, .inl tr))]) := by
  refine ckI.of (by decide) (Nat.le_of_ble_eq_true rfl) ?_
  intro pg eg sg mg blw mth cg Ag ls hx hb hrt hml hown hlk hin hg hE hA hP hD hS hl
  have hown : sg.vm.findClass RX1 = some mg.cls := hown
  have hl : lv_has ls 2 [(0, .ref a), (1, .int x)] := hl
  have C0 : ckC pg sg mg ([.ref a, .int x]).toArray cg cX1_have 2 RX1 N Ag := ⟨⟨hx, hb, hml, hown, hg⟩, hE, hA⟩
  generalize hHe : sg.heap = H at hP
  have hS : va_S Ag sg.heap H [] := hHe ▸ hS
  refine lv_iload_n hx hb dX1_have_0 rfl (lv_at hl 1 rfl) ?_
  refine lv_if_lt (tgt := 16) hx hb dX1_have_1 (by decide) (fun cz_1 => ?_) (fun cz_1 => ?_)
  · refine lv_iconst (v := (nI 0)) hx hb dX1_have_16 (by decide) ?_
    refine ck_top (y := (b2i false)) (by decide) ?_
    exact ck_zret (b := false) hx hb hrt hlk () (by have ez : (0 : Int32).toInt = 0 := (by decide); have en := nI_toInt hn; simp only [i_lt, i_le] at cz_1; exact congrArg b2i (Eq.symm (decide_eq_false (by omega)))) hP hD hS ⟨Nat.le_of_ble_eq_true rfl, Nat.le_of_ble_eq_true rfl⟩ dX1_have_17
  refine lv_iload_n hx hb dX1_have_4 rfl (lv_at hl 1 rfl) ?_
  refine lv_aload_n hx hb dX1_have_5 rfl (lv_at hl 0 rfl) ?_
  refine va_get (ci := 1) (v := .int (nI n)) (C := RX1) (T := TX1) (N := 2) hx hb hg inX1 hown hE.1 hP 0 rfl rfl 1 (by decide) (hg _ k1_43) (fun _ h9 => h9) rfl dX1_have_6 ?_
  refine lv_icmp_ge (tgt := 16) hx hb dX1_have_9 (by decide) (fun cz_2 => ?_) (fun cz_2 => ?_)
  · refine lv_iconst (v := (nI 0)) hx hb dX1_have_16 (by decide) ?_
    refine ck_top (y := (b2i false)) (by decide) ?_
    exact ck_zret (b := false) hx hb hrt hlk () (by have ez : (0 : Int32).toInt = 0 := (by decide); have en := nI_toInt hn; simp only [i_lt, i_le] at cz_1 cz_2; exact congrArg b2i (Eq.symm (decide_eq_false (by omega)))) hP hD hS ⟨Nat.le_of_ble_eq_true rfl, Nat.le_of_ble_eq_true rfl⟩ dX1_have_17
  refine lv_iconst (v := (nI 1)) hx hb dX1_have_12 (by decide) ?_
  refine lv_goto (tgt := 17) hx hb dX1_have_13 (by decide) ?_
  refine ck_top (y := (b2i true)) (by decide) ?_
  exact ck_zret (b := true) hx hb hrt hlk () (by have ez : (0 : Int32).toInt = 0 := (by decide); have en := nI_toInt hn; simp only [i_lt, i_le] at cz_1 cz_2; exact congrArg b2i (Eq.symm (decide_eq_true (by omega)))) hP hD hS ⟨Nat.le_of_ble_eq_true rfl, Nat.le_of_ble_eq_true rfl⟩ dX1_have_17
set_option maxHeartbeats 4000000 in
set_option maxRecDepth 100000 in
/-- X1_areFull -/
theorem c_X1_areFull (l : Launch) (N : ckN) (a : Nat) (t : Nat) (tr : Nat → Int32) (n : Nat) (hn : n < 2 ^ 31) : ckI l yX1_areFull cX1_areFull 1 (some FieldType.boolean) { frames := 2, cells := 0, slots := 0, locals := 60 } N [.ref a] [(a, .inr (1, [.ref t, .int (nI n)])), (t, .inl (N.2 0, 64, .inl tr))] (fun (r : Int32) (u : Unit) => r = (b2i (decide (8 ≤ n)))) (fun (u : Unit) => [(a, .inr (1, [.ref t, .int (nI n)])), (t, .inl (N.2 0, 64, .inl tr))]) := by
  refine ckI.of (by decide) (Nat.le_of_ble_eq_true rfl) ?_
  intro pg eg sg mg blw mth cg Ag ls hx hb hrt hml hown hlk hin hg hE hA hP hD hS hl
  have hown : sg.vm.findClass RX1 = some mg.cls := hown
  have hl : lv_has ls 1 [(0, .ref a)] := hl
  have C0 : ckC pg sg mg ([.ref a]).toArray cg cX1_areFull 1 RX1 N Ag := ⟨⟨hx, hb, hml, hown, hg⟩, hE, hA⟩
  generalize hHe : sg.heap = H at hP
  have hS : va_S Ag sg.heap H [] := hHe ▸ hS
  refine lv_aload_n hx hb dX1_areFull_0 rfl (lv_at hl 0 rfl) ?_
  refine va_get (ci := 1) (v := .int (nI n)) (C := RX1) (T := TX1) (N := 2) hx hb hg inX1 hown hE.1 hP 0 rfl rfl 1 (by decide) (hg _ k1_43) (fun _ h9 => h9) rfl dX1_areFull_1 ?_
  refine lv_bipush (v := (nI 8)) hx hb dX1_areFull_4 (by decide) ?_
  refine ck_ic_lt (tgt := 13) hx hb dX1_areFull_6 (by decide) (by omega) (by omega) (fun cz_1 => ?_) (fun cz_1 => ?_)
  · refine lv_iconst (v := (nI 0)) hx hb dX1_areFull_13 (by decide) ?_
    refine ck_top (y := (b2i false)) (by decide) ?_
    exact ck_zret (b := false) hx hb hrt hlk () (congrArg b2i (Eq.symm (decide_eq_false (by omega)))) hP hD hS ⟨Nat.le_of_ble_eq_true rfl, Nat.le_of_ble_eq_true rfl⟩ dX1_areFull_14
  refine lv_iconst (v := (nI 1)) hx hb dX1_areFull_9 (by decide) ?_
  refine lv_goto (tgt := 14) hx hb dX1_areFull_10 (by decide) ?_
  refine ck_top (y := (b2i true)) (by decide) ?_
  exact ck_zret (b := true) hx hb hrt hlk () (congrArg b2i (Eq.symm (decide_eq_true (by omega)))) hP hD hS ⟨Nat.le_of_ble_eq_true rfl, Nat.le_of_ble_eq_true rfl⟩ dX1_areFull_14
set_option maxHeartbeats 4000000 in
set_option maxRecDepth 100000 in
/-- X1_told -/
theorem c_X1_told (l : Launch) (N : ckN) (a : Nat) (t : Nat) (tr : Nat → Int32) (n : Nat) (i : Nat) (k : Nat) (hi : i * 8 + k < 64) : ckI l yX1_told cX1_told 3 (some FieldType.int) { frames := 2, cells := 0, slots := 0, locals := 60 } N [.ref a, .int (nI i), .int (nI k)] [(a, .inr (1, [.ref t, .int (nI n)])), (t, .inl (N.2 0, 64, .inl tr))] (fun (r : Int32) (u : Unit) => r = (tr (i * 8 + k))) (fun (u : Unit) => [(a, .inr (1, [.ref t, .int (nI n)])), (t, .inl (N.2 0, 64, .inl tr))]) := by
  refine ckI.of (by decide) (Nat.le_of_ble_eq_true rfl) ?_
  intro pg eg sg mg blw mth cg Ag ls hx hb hrt hml hown hlk hin hg hE hA hP hD hS hl
  have hown : sg.vm.findClass RX1 = some mg.cls := hown
  have hl : lv_has ls 3 [(0, .ref a), (1, .int (nI i)), (2, .int (nI k))] := hl
  have C0 : ckC pg sg mg ([.ref a, .int (nI i), .int (nI k)]).toArray cg cX1_told 3 RX1 N Ag := ⟨⟨hx, hb, hml, hown, hg⟩, hE, hA⟩
  generalize hHe : sg.heap = H at hP
  have hS : va_S Ag sg.heap H [] := hHe ▸ hS
  refine lv_aload_n hx hb dX1_told_0 rfl (lv_at hl 0 rfl) ?_
  refine va_get (ci := 1) (v := .ref t) (C := RX1) (T := TX1) (N := 2) hx hb hg inX1 hown hE.1 hP 0 rfl rfl 0 (by decide) (hg _ k1_42) (fun _ h9 => h9) rfl dX1_told_1 ?_
  refine lv_iload_n hx hb dX1_told_4 rfl (lv_at hl 1 rfl) ?_
  refine lv_bipush (v := (nI 8)) hx hb dX1_told_5 (by decide) ?_
  refine lv_imul hx hb dX1_told_7 ?_
  refine ck_top (y := (nI (i * 8))) (pk_mul _ _) ?_
  refine lv_iload_n hx hb dX1_told_8 rfl (lv_at hl 2 rfl) ?_
  refine lv_iadd hx hb dX1_told_9 ?_
  refine ck_top (y := (nI (i * 8 + k))) (nI_add _ _) ?_
  refine ck_iald hx hb hE hP 1 rfl (by omega) (by decide) dX1_told_10 ?_
  exact ck_iret hx hb hrt hlk () rfl hP hD hS ⟨Nat.le_of_ble_eq_true rfl, Nat.le_of_ble_eq_true rfl⟩ dX1_told_11
set_option maxHeartbeats 4000000 in
set_option maxRecDepth 100000 in
/-- X1_tell -/
theorem c_X1_tell (l : Launch) (N : ckN) (a : Nat) (t : Nat) (tr : Nat → Int32) (n : Nat) (i : Nat) (k : Nat) (v : Int32) (hi : i * 8 + k < 64) : ckV l yX1_tell cX1_tell 4 none { frames := 2, cells := 0, slots := 0, locals := 60 } N [.ref a, .int (nI i), .int (nI k), .int v] [(a, .inr (1, [.ref t, .int (nI n)])), (t, .inl (N.2 0, 64, .inl tr))] (fun (u : Unit) => True) (fun (u : Unit) => [(a, .inr (1, [.ref t, .int (nI n)])), (t, .inl (N.2 0, 64, .inl (upd tr (i * 8 + k) v)))]) := by
  refine ckV.of (by decide) (Nat.le_of_ble_eq_true rfl) ?_
  intro pg eg sg mg blw mth cg Ag ls hx hb hrt hml hown hlk hin hg hE hA hP hD hS hl
  have hown : sg.vm.findClass RX1 = some mg.cls := hown
  have hl : lv_has ls 4 [(0, .ref a), (1, .int (nI i)), (2, .int (nI k)), (3, .int v)] := hl
  have C0 : ckC pg sg mg ([.ref a, .int (nI i), .int (nI k), .int v]).toArray cg cX1_tell 4 RX1 N Ag := ⟨⟨hx, hb, hml, hown, hg⟩, hE, hA⟩
  generalize hHe : sg.heap = H at hP
  have hS : va_S Ag sg.heap H [] := hHe ▸ hS
  refine lv_aload_n hx hb dX1_tell_0 rfl (lv_at hl 0 rfl) ?_
  refine va_get (ci := 1) (v := .ref t) (C := RX1) (T := TX1) (N := 2) hx hb hg inX1 hown hE.1 hP 0 rfl rfl 0 (by decide) (hg _ k1_42) (fun _ h9 => h9) rfl dX1_tell_1 ?_
  refine lv_iload_n hx hb dX1_tell_4 rfl (lv_at hl 1 rfl) ?_
  refine lv_bipush (v := (nI 8)) hx hb dX1_tell_5 (by decide) ?_
  refine lv_imul hx hb dX1_tell_7 ?_
  refine ck_top (y := (nI (i * 8))) (pk_mul _ _) ?_
  refine lv_iload_n hx hb dX1_tell_8 rfl (lv_at hl 2 rfl) ?_
  refine lv_iadd hx hb dX1_tell_9 ?_
  refine ck_top (y := (nI (i * 8 + k))) (nI_add _ _) ?_
  refine lv_iload_n hx hb dX1_tell_10 rfl (lv_at hl 3 rfl) ?_
  refine ck_iast hx hb hE hP hD hS 1 rfl (by omega) (by decide) dX1_tell_11 (ws1 := [(a, .inr (1, [.ref t, .int (nI n)])), (t, .inl (N.2 0, 64, .inl (upd tr (i * 8 + k) v)))]) rfl (fun H locs hP hD hS => ?_)
  exact ck_vret hx hb hrt hlk () trivial hP hD hS ⟨Nat.le_of_ble_eq_true rfl, Nat.le_of_ble_eq_true rfl⟩ dX1_tell_12
set_option maxHeartbeats 4000000 in
set_option maxRecDepth 100000 in
/-- X1_stand -/
theorem c_X1_stand (l : Launch) (N : ckN) (a : Nat) (t : Nat) (tr : Nat → Int32) (n : Nat) (i : Nat) (sp : Nat) (hi : i < 8) (hs : sp < 2 ^ 31) : ckV l yX1_stand cX1_stand 3 none { frames := 3, cells := 0, slots := 0, locals := 83 } N [.ref a, .int (nI i), .int (nI sp)] [(a, .inr (1, [.ref t, .int (nI n)])), (t, .inl (N.2 0, 64, .inl tr))] (fun (u : Unit) => True) (fun (u : Unit) => [(a, .inr (1, [.ref t, .int (nI n)])), (t, .inl (N.2 0, 64, .inl (upd (upd tr (i * 8 + 1) (nI (sp / 100))) (i * 8 + 2) (nI (sp % 100)))))]) := by
  refine ckV.of (by decide) (Nat.le_of_ble_eq_true rfl) ?_
  intro pg eg sg mg blw mth cg Ag ls hx hb hrt hml hown hlk hin hg hE hA hP hD hS hl
  have hown : sg.vm.findClass RX1 = some mg.cls := hown
  have hl : lv_has ls 3 [(0, .ref a), (1, .int (nI i)), (2, .int (nI sp))] := hl
  have C0 : ckC pg sg mg ([.ref a, .int (nI i), .int (nI sp)]).toArray cg cX1_stand 3 RX1 N Ag := ⟨⟨hx, hb, hml, hown, hg⟩, hE, hA⟩
  generalize hHe : sg.heap = H at hP
  have hS : va_S Ag sg.heap H [] := hHe ▸ hS
  refine lv_aload_n hx hb dX1_stand_0 rfl (lv_at hl 0 rfl) ?_
  refine lv_iload_n hx hb dX1_stand_1 rfl (lv_at hl 1 rfl) ?_
  refine lv_iconst (v := (nI 1)) hx hb dX1_stand_2 (by decide) ?_
  refine lv_iload_n hx hb dX1_stand_3 rfl (lv_at hl 2 rfl) ?_
  refine lv_bipush (v := (nI 100)) hx hb dX1_stand_4 (by decide) ?_
  refine lv_idiv hx hb dX1_stand_6 (by decide) ?_
  refine ck_top (y := (nI (sp / 100))) (pk_div (by omega) (by omega) (by omega)) ?_
  refine ck_Vv (As := [.int (nI i), .int (nI 1), .int (nI (sp / 100))]) (rest := []) (wr := []) C0 hP hD hS (c_X1_tell l N a t tr n i 1 (nI (sp / 100)) (by omega)) myX1_tell k2_79 ⟨Nat.le_of_ble_eq_true rfl, Nat.le_of_ble_eq_true rfl⟩ [0, 1] [] ⟨⟨rfl, rfl⟩, by decide, by decide, by decide⟩ 0 rfl rfl rfl rfl hl.1 rfl (Nat.le_of_ble_eq_true rfl) dX1_stand_7 ⟨Nat.le_of_ble_eq_true rfl, Nat.le_of_ble_eq_true rfl⟩ (fun u0 H locs hw0 hP hD hS => ?_)
  have hP : va_P N.1 vwCl [(a, .inr (1, [.ref t, .int (nI n)])), (t, .inl (N.2 0, 64, .inl (upd tr (i * 8 + 1) (nI (sp / 100)))))] H := hP
  have hD : va_D Ag [(a, .inr (1, [.ref t, .int (nI n)])), (t, .inl (N.2 0, 64, .inl (upd tr (i * 8 + 1) (nI (sp / 100)))))] := hD
  refine lv_aload_n hx hb dX1_stand_10 rfl (lv_at hl 0 rfl) ?_
  refine lv_iload_n hx hb dX1_stand_11 rfl (lv_at hl 1 rfl) ?_
  refine lv_iconst (v := (nI 2)) hx hb dX1_stand_12 (by decide) ?_
  refine lv_iload_n hx hb dX1_stand_13 rfl (lv_at hl 2 rfl) ?_
  refine lv_bipush (v := (nI 100)) hx hb dX1_stand_14 (by decide) ?_
  refine lv_irem hx hb dX1_stand_16 (by decide) ?_
  refine ck_top (y := (nI (sp % 100))) (pk_rem (by omega) (by omega) (by omega)) ?_
  refine ck_Vv (As := [.int (nI i), .int (nI 2), .int (nI (sp % 100))]) (rest := []) (wr := []) C0 hP hD hS (c_X1_tell l N a t (upd tr (i * 8 + 1) (nI (sp / 100))) n i 2 (nI (sp % 100)) (by omega)) myX1_tell k2_79 ⟨Nat.le_of_ble_eq_true rfl, Nat.le_of_ble_eq_true rfl⟩ [0, 1] [] ⟨⟨rfl, rfl⟩, by decide, by decide, by decide⟩ 0 rfl rfl rfl rfl hl.1 rfl (Nat.le_of_ble_eq_true rfl) dX1_stand_17 ⟨Nat.le_of_ble_eq_true rfl, Nat.le_of_ble_eq_true rfl⟩ (fun u0 H locs hw0 hP hD hS => ?_)
  have hP : va_P N.1 vwCl [(a, .inr (1, [.ref t, .int (nI n)])), (t, .inl (N.2 0, 64, .inl (upd (upd tr (i * 8 + 1) (nI (sp / 100))) (i * 8 + 2) (nI (sp % 100)))))] H := hP
  have hD : va_D Ag [(a, .inr (1, [.ref t, .int (nI n)])), (t, .inl (N.2 0, 64, .inl (upd (upd tr (i * 8 + 1) (nI (sp / 100))) (i * 8 + 2) (nI (sp % 100)))))] := hD
  exact ck_vret hx hb hrt hlk () trivial hP hD hS ⟨Nat.le_of_ble_eq_true rfl, Nat.le_of_ble_eq_true rfl⟩ dX1_stand_20
set_option maxHeartbeats 4000000 in
set_option maxRecDepth 100000 in
/-- X1_add -/
theorem c_X1_add (l : Launch) (N : ckN) (a : Nat) (t : Nat) (tr : Nat → Int32) (n : Nat) (kd : Int32) (sp : Nat) (hh : Int32) (hn : n < 8) (hs : sp < 2 ^ 31) : ckI l yX1_add cX1_add 5 (some FieldType.int) { frames := 4, cells := 0, slots := 0, locals := 105 } N [.ref a, .int kd, .int (nI sp), .int hh] [(a, .inr (1, [.ref t, .int (nI n)])), (t, .inl (N.2 0, 64, .inl tr))] (fun (r : Int32) (u : Unit) => r = (nI n)) (fun (u : Unit) => [(a, .inr (1, [.ref t, .int (nI (n + 1))])), (t, .inl (N.2 0, 64, .inl (upd (upd (upd (upd tr (n * 8 + 0) kd) (n * 8 + 1) (nI (sp / 100))) (n * 8 + 2) (nI (sp % 100))) (n * 8 + 3) hh)))]) := by
  refine ckI.of (by decide) (Nat.le_of_ble_eq_true rfl) ?_
  intro pg eg sg mg blw mth cg Ag ls hx hb hrt hml hown hlk hin hg hE hA hP hD hS hl
  have hown : sg.vm.findClass RX1 = some mg.cls := hown
  have hl : lv_has ls 5 [(0, .ref a), (1, .int kd), (2, .int (nI sp)), (3, .int hh)] := hl
  have C0 : ckC pg sg mg ([.ref a, .int kd, .int (nI sp), .int hh]).toArray cg cX1_add 5 RX1 N Ag := ⟨⟨hx, hb, hml, hown, hg⟩, hE, hA⟩
  generalize hHe : sg.heap = H at hP
  have hS : va_S Ag sg.heap H [] := hHe ▸ hS
  refine lv_aload_n hx hb dX1_add_0 rfl (lv_at hl 0 rfl) ?_
  refine va_get (ci := 1) (v := .int (nI n)) (C := RX1) (T := TX1) (N := 2) hx hb hg inX1 hown hE.1 hP 0 rfl rfl 1 (by decide) (hg _ k1_43) (fun _ h9 => h9) rfl dX1_add_1 ?_
  refine lv_istore (lv' := [(4, .int (nI n)), (0, .ref a), (1, .int kd), (2, .int (nI sp)), (3, .int hh)]) hx hb dX1_add_4 hl (by decide) rfl (fun ls hl => ?_)
  refine lv_aload_n hx hb dX1_add_6 rfl (lv_at hl 1 rfl) ?_
  refine lv_dup hx hb dX1_add_7 rfl ?_
  refine va_get (ci := 1) (v := .int (nI n)) (C := RX1) (T := TX1) (N := 2) hx hb hg inX1 hown hE.1 hP 0 rfl rfl 1 (by decide) (hg _ k1_43) (fun _ h9 => h9) rfl dX1_add_8 ?_
  refine lv_iconst (v := (nI 1)) hx hb dX1_add_11 (by decide) ?_
  refine lv_iadd hx hb dX1_add_12 ?_
  refine ck_top (y := (nI (n + 1))) (nI_add _ _) ?_
  refine va_put (ci := 1) (v := .int (nI (n + 1))) (C := RX1) (T := TX1) (N := 2) hx hb hg inX1 tyX1 tyX1_ok nmX1 hown hE.1 hP hD hS 0 rfl rfl 1 (by decide) (hg _ k1_43) (fun _ h9 => h9) rfl (tyX1_ok 1 (by decide)) rfl rfl (Nat.le_of_ble_eq_true rfl) dX1_add_13 (fun H locs hP hD hS => ?_)
  have hP : va_P N.1 vwCl [(a, .inr (1, [.ref t, .int (nI (n + 1))])), (t, .inl (N.2 0, 64, .inl tr))] H := hP
  have hD : va_D Ag [(a, .inr (1, [.ref t, .int (nI (n + 1))])), (t, .inl (N.2 0, 64, .inl tr))] := hD
  refine lv_aload_n hx hb dX1_add_16 rfl (lv_at hl 1 rfl) ?_
  refine lv_iload hx hb dX1_add_17 (lv_at hl 0 rfl) ?_
  refine lv_iconst (v := (nI 0)) hx hb dX1_add_19 (by decide) ?_
  refine lv_iload_n hx hb dX1_add_20 rfl (lv_at hl 2 rfl) ?_
  refine ck_Vv (As := [.int (nI n), .int (nI 0), .int kd]) (rest := []) (wr := []) C0 hP hD hS (c_X1_tell l N a t tr (n + 1) n 0 kd (by omega)) myX1_tell k2_79 ⟨Nat.le_of_ble_eq_true rfl, Nat.le_of_ble_eq_true rfl⟩ [0, 1] [] ⟨⟨rfl, rfl⟩, by decide, by decide, by decide⟩ 0 rfl rfl rfl rfl hl.1 rfl (Nat.le_of_ble_eq_true rfl) dX1_add_21 ⟨Nat.le_of_ble_eq_true rfl, Nat.le_of_ble_eq_true rfl⟩ (fun u0 H locs hw0 hP hD hS => ?_)
  have hP : va_P N.1 vwCl [(a, .inr (1, [.ref t, .int (nI (n + 1))])), (t, .inl (N.2 0, 64, .inl (upd tr (n * 8 + 0) kd)))] H := hP
  have hD : va_D Ag [(a, .inr (1, [.ref t, .int (nI (n + 1))])), (t, .inl (N.2 0, 64, .inl (upd tr (n * 8 + 0) kd)))] := hD
  refine lv_aload_n hx hb dX1_add_24 rfl (lv_at hl 1 rfl) ?_
  refine lv_iload hx hb dX1_add_25 (lv_at hl 0 rfl) ?_
  refine lv_iload_n hx hb dX1_add_27 rfl (lv_at hl 3 rfl) ?_
  refine ck_Vv (As := [.int (nI n), .int (nI sp)]) (rest := []) (wr := []) C0 hP hD hS (c_X1_stand l N a t (upd tr (n * 8 + 0) kd) (n + 1) n sp (by omega) (by omega)) myX1_stand k2_83 ⟨Nat.le_of_ble_eq_true rfl, Nat.le_of_ble_eq_true rfl⟩ [0, 1] [] ⟨⟨rfl, rfl⟩, by decide, by decide, by decide⟩ 0 rfl rfl rfl rfl hl.1 rfl (Nat.le_of_ble_eq_true rfl) dX1_add_28 ⟨Nat.le_of_ble_eq_true rfl, Nat.le_of_ble_eq_true rfl⟩ (fun u0 H locs hw0 hP hD hS => ?_)
  have hP : va_P N.1 vwCl [(a, .inr (1, [.ref t, .int (nI (n + 1))])), (t, .inl (N.2 0, 64, .inl (upd (upd (upd tr (n * 8 + 0) kd) (n * 8 + 1) (nI (sp / 100))) (n * 8 + 2) (nI (sp % 100)))))] H := hP
  have hD : va_D Ag [(a, .inr (1, [.ref t, .int (nI (n + 1))])), (t, .inl (N.2 0, 64, .inl (upd (upd (upd tr (n * 8 + 0) kd) (n * 8 + 1) (nI (sp / 100))) (n * 8 + 2) (nI (sp % 100)))))] := hD
  refine lv_aload_n hx hb dX1_add_31 rfl (lv_at hl 1 rfl) ?_
  refine lv_iload hx hb dX1_add_32 (lv_at hl 0 rfl) ?_
  refine lv_iconst (v := (nI 3)) hx hb dX1_add_34 (by decide) ?_
  refine lv_iload_n hx hb dX1_add_35 rfl (lv_at hl 4 rfl) ?_
  refine ck_Vv (As := [.int (nI n), .int (nI 3), .int hh]) (rest := []) (wr := []) C0 hP hD hS (c_X1_tell l N a t (upd (upd (upd tr (n * 8 + 0) kd) (n * 8 + 1) (nI (sp / 100))) (n * 8 + 2) (nI (sp % 100))) (n + 1) n 3 hh (by omega)) myX1_tell k2_79 ⟨Nat.le_of_ble_eq_true rfl, Nat.le_of_ble_eq_true rfl⟩ [0, 1] [] ⟨⟨rfl, rfl⟩, by decide, by decide, by decide⟩ 0 rfl rfl rfl rfl hl.1 rfl (Nat.le_of_ble_eq_true rfl) dX1_add_36 ⟨Nat.le_of_ble_eq_true rfl, Nat.le_of_ble_eq_true rfl⟩ (fun u0 H locs hw0 hP hD hS => ?_)
  have hP : va_P N.1 vwCl [(a, .inr (1, [.ref t, .int (nI (n + 1))])), (t, .inl (N.2 0, 64, .inl (upd (upd (upd (upd tr (n * 8 + 0) kd) (n * 8 + 1) (nI (sp / 100))) (n * 8 + 2) (nI (sp % 100))) (n * 8 + 3) hh)))] H := hP
  have hD : va_D Ag [(a, .inr (1, [.ref t, .int (nI (n + 1))])), (t, .inl (N.2 0, 64, .inl (upd (upd (upd (upd tr (n * 8 + 0) kd) (n * 8 + 1) (nI (sp / 100))) (n * 8 + 2) (nI (sp % 100))) (n * 8 + 3) hh)))] := hD
  refine lv_iload hx hb dX1_add_39 (lv_at hl 0 rfl) ?_
  exact ck_iret hx hb hrt hlk () rfl hP hD hS ⟨Nat.le_of_ble_eq_true rfl, Nat.le_of_ble_eq_true rfl⟩ dX1_add_41
set_option maxHeartbeats 4000000 in
set_option maxRecDepth 100000 in
/-- X1_equip -/
theorem c_X1_equip (l : Launch) (N : ckN) (a : Nat) (t : Nat) (tr : Nat → Int32) (n : Nat) (i : Nat) (lg : Int32) (sn : Int32) (fc : Nat) (hi : i < 8) (hf : fc < 2 ^ 31) : ckV l yX1_equip cX1_equip 5 none { frames := 3, cells := 0, slots := 0, locals := 83 } N [.ref a, .int (nI i), .int lg, .int sn, .int (nI fc)] [(a, .inr (1, [.ref t, .int (nI n)])), (t, .inl (N.2 0, 64, .inl tr))] (fun (u : Unit) => True) (fun (u : Unit) => [(a, .inr (1, [.ref t, .int (nI n)])), (t, .inl (N.2 0, 64, .inl (upd (upd (upd (upd tr (i * 8 + 4) lg) (i * 8 + 5) sn) (i * 8 + 6) (nI (fc / 16))) (i * 8 + 7) (nI (fc % 16)))))]) := by
  refine ckV.of (by decide) (Nat.le_of_ble_eq_true rfl) ?_
  intro pg eg sg mg blw mth cg Ag ls hx hb hrt hml hown hlk hin hg hE hA hP hD hS hl
  have hown : sg.vm.findClass RX1 = some mg.cls := hown
  have hl : lv_has ls 5 [(0, .ref a), (1, .int (nI i)), (2, .int lg), (3, .int sn), (4, .int (nI fc))] := hl
  have C0 : ckC pg sg mg ([.ref a, .int (nI i), .int lg, .int sn, .int (nI fc)]).toArray cg cX1_equip 5 RX1 N Ag := ⟨⟨hx, hb, hml, hown, hg⟩, hE, hA⟩
  generalize hHe : sg.heap = H at hP
  have hS : va_S Ag sg.heap H [] := hHe ▸ hS
  refine lv_aload_n hx hb dX1_equip_0 rfl (lv_at hl 0 rfl) ?_
  refine lv_iload_n hx hb dX1_equip_1 rfl (lv_at hl 1 rfl) ?_
  refine lv_iconst (v := (nI 4)) hx hb dX1_equip_2 (by decide) ?_
  refine lv_iload_n hx hb dX1_equip_3 rfl (lv_at hl 2 rfl) ?_
  refine ck_Vv (As := [.int (nI i), .int (nI 4), .int lg]) (rest := []) (wr := []) C0 hP hD hS (c_X1_tell l N a t tr n i 4 lg (by omega)) myX1_tell k2_79 ⟨Nat.le_of_ble_eq_true rfl, Nat.le_of_ble_eq_true rfl⟩ [0, 1] [] ⟨⟨rfl, rfl⟩, by decide, by decide, by decide⟩ 0 rfl rfl rfl rfl hl.1 rfl (Nat.le_of_ble_eq_true rfl) dX1_equip_4 ⟨Nat.le_of_ble_eq_true rfl, Nat.le_of_ble_eq_true rfl⟩ (fun u0 H locs hw0 hP hD hS => ?_)
  have hP : va_P N.1 vwCl [(a, .inr (1, [.ref t, .int (nI n)])), (t, .inl (N.2 0, 64, .inl (upd tr (i * 8 + 4) lg)))] H := hP
  have hD : va_D Ag [(a, .inr (1, [.ref t, .int (nI n)])), (t, .inl (N.2 0, 64, .inl (upd tr (i * 8 + 4) lg)))] := hD
  refine lv_aload_n hx hb dX1_equip_7 rfl (lv_at hl 0 rfl) ?_
  refine lv_iload_n hx hb dX1_equip_8 rfl (lv_at hl 1 rfl) ?_
  refine lv_iconst (v := (nI 5)) hx hb dX1_equip_9 (by decide) ?_
  refine lv_iload_n hx hb dX1_equip_10 rfl (lv_at hl 3 rfl) ?_
  refine ck_Vv (As := [.int (nI i), .int (nI 5), .int sn]) (rest := []) (wr := []) C0 hP hD hS (c_X1_tell l N a t (upd tr (i * 8 + 4) lg) n i 5 sn (by omega)) myX1_tell k2_79 ⟨Nat.le_of_ble_eq_true rfl, Nat.le_of_ble_eq_true rfl⟩ [0, 1] [] ⟨⟨rfl, rfl⟩, by decide, by decide, by decide⟩ 0 rfl rfl rfl rfl hl.1 rfl (Nat.le_of_ble_eq_true rfl) dX1_equip_11 ⟨Nat.le_of_ble_eq_true rfl, Nat.le_of_ble_eq_true rfl⟩ (fun u0 H locs hw0 hP hD hS => ?_)
  have hP : va_P N.1 vwCl [(a, .inr (1, [.ref t, .int (nI n)])), (t, .inl (N.2 0, 64, .inl (upd (upd tr (i * 8 + 4) lg) (i * 8 + 5) sn)))] H := hP
  have hD : va_D Ag [(a, .inr (1, [.ref t, .int (nI n)])), (t, .inl (N.2 0, 64, .inl (upd (upd tr (i * 8 + 4) lg) (i * 8 + 5) sn)))] := hD
  refine lv_aload_n hx hb dX1_equip_14 rfl (lv_at hl 0 rfl) ?_
  refine lv_iload_n hx hb dX1_equip_15 rfl (lv_at hl 1 rfl) ?_
  refine lv_bipush (v := (nI 6)) hx hb dX1_equip_16 (by decide) ?_
  refine lv_iload hx hb dX1_equip_18 (lv_at hl 4 rfl) ?_
  refine ck_SNi (As := [.int (nI fc)]) (rest := [.int (nI 6), .int (nI i), .ref a]) (wr := [(a, .inr (1, [.ref t, .int (nI n)])), (t, .inl (N.2 0, 64, .inl (upd (upd tr (i * 8 + 4) lg) (i * 8 + 5) sn)))]) C0 hP hD hS (c_X10_leastOf l N fc (by omega)) myX10_leastOf 11 rfl ⟨Nat.le_of_ble_eq_true rfl, Nat.le_of_ble_eq_true rfl⟩ [] [0, 1] ⟨⟨rfl, rfl⟩, by decide, by decide, by decide⟩ rfl hl.1 rfl (Nat.le_of_ble_eq_true rfl) dX1_equip_20 ⟨Nat.le_of_ble_eq_true rfl, Nat.le_of_ble_eq_true rfl⟩ (fun r_5 u0 H locs hw0 hP hD hS => ?_)
  have hw_6 : r_5 = (nI (fc / 16)) := hw0
  subst hw_6
  have hP : va_P N.1 vwCl [(a, .inr (1, [.ref t, .int (nI n)])), (t, .inl (N.2 0, 64, .inl (upd (upd tr (i * 8 + 4) lg) (i * 8 + 5) sn)))] H := hP
  have hD : va_D Ag [(a, .inr (1, [.ref t, .int (nI n)])), (t, .inl (N.2 0, 64, .inl (upd (upd tr (i * 8 + 4) lg) (i * 8 + 5) sn)))] := hD
  refine ck_Vv (As := [.int (nI i), .int (nI 6), .int (nI (fc / 16))]) (rest := []) (wr := []) C0 hP hD hS (c_X1_tell l N a t (upd (upd tr (i * 8 + 4) lg) (i * 8 + 5) sn) n i 6 (nI (fc / 16)) (by omega)) myX1_tell k2_79 ⟨Nat.le_of_ble_eq_true rfl, Nat.le_of_ble_eq_true rfl⟩ [0, 1] [] ⟨⟨rfl, rfl⟩, by decide, by decide, by decide⟩ 0 rfl rfl rfl rfl hl.1 rfl (Nat.le_of_ble_eq_true rfl) dX1_equip_23 ⟨Nat.le_of_ble_eq_true rfl, Nat.le_of_ble_eq_true rfl⟩ (fun u0 H locs hw0 hP hD hS => ?_)
  have hP : va_P N.1 vwCl [(a, .inr (1, [.ref t, .int (nI n)])), (t, .inl (N.2 0, 64, .inl (upd (upd (upd tr (i * 8 + 4) lg) (i * 8 + 5) sn) (i * 8 + 6) (nI (fc / 16)))))] H := hP
  have hD : va_D Ag [(a, .inr (1, [.ref t, .int (nI n)])), (t, .inl (N.2 0, 64, .inl (upd (upd (upd tr (i * 8 + 4) lg) (i * 8 + 5) sn) (i * 8 + 6) (nI (fc / 16)))))] := hD
  refine lv_aload_n hx hb dX1_equip_26 rfl (lv_at hl 0 rfl) ?_
  refine lv_iload_n hx hb dX1_equip_27 rfl (lv_at hl 1 rfl) ?_
  refine lv_bipush (v := (nI 7)) hx hb dX1_equip_28 (by decide) ?_
  refine lv_iload hx hb dX1_equip_30 (lv_at hl 4 rfl) ?_
  refine ck_SNi (As := [.int (nI fc)]) (rest := [.int (nI 7), .int (nI i), .ref a]) (wr := [(a, .inr (1, [.ref t, .int (nI n)])), (t, .inl (N.2 0, 64, .inl (upd (upd (upd tr (i * 8 + 4) lg) (i * 8 + 5) sn) (i * 8 + 6) (nI (fc / 16)))))]) C0 hP hD hS (c_X10_mostOf l N fc (by omega)) myX10_mostOf 12 rfl ⟨Nat.le_of_ble_eq_true rfl, Nat.le_of_ble_eq_true rfl⟩ [] [0, 1] ⟨⟨rfl, rfl⟩, by decide, by decide, by decide⟩ rfl hl.1 rfl (Nat.le_of_ble_eq_true rfl) dX1_equip_32 ⟨Nat.le_of_ble_eq_true rfl, Nat.le_of_ble_eq_true rfl⟩ (fun r_9 u0 H locs hw0 hP hD hS => ?_)
  have hw_10 : r_9 = (nI (fc % 16)) := hw0
  subst hw_10
  have hP : va_P N.1 vwCl [(a, .inr (1, [.ref t, .int (nI n)])), (t, .inl (N.2 0, 64, .inl (upd (upd (upd tr (i * 8 + 4) lg) (i * 8 + 5) sn) (i * 8 + 6) (nI (fc / 16)))))] H := hP
  have hD : va_D Ag [(a, .inr (1, [.ref t, .int (nI n)])), (t, .inl (N.2 0, 64, .inl (upd (upd (upd tr (i * 8 + 4) lg) (i * 8 + 5) sn) (i * 8 + 6) (nI (fc / 16)))))] := hD
  refine ck_Vv (As := [.int (nI i), .int (nI 7), .int (nI (fc % 16))]) (rest := []) (wr := []) C0 hP hD hS (c_X1_tell l N a t (upd (upd (upd tr (i * 8 + 4) lg) (i * 8 + 5) sn) (i * 8 + 6) (nI (fc / 16))) n i 7 (nI (fc % 16)) (by omega)) myX1_tell k2_79 ⟨Nat.le_of_ble_eq_true rfl, Nat.le_of_ble_eq_true rfl⟩ [0, 1] [] ⟨⟨rfl, rfl⟩, by decide, by decide, by decide⟩ 0 rfl rfl rfl rfl hl.1 rfl (Nat.le_of_ble_eq_true rfl) dX1_equip_35 ⟨Nat.le_of_ble_eq_true rfl, Nat.le_of_ble_eq_true rfl⟩ (fun u0 H locs hw0 hP hD hS => ?_)
  have hP : va_P N.1 vwCl [(a, .inr (1, [.ref t, .int (nI n)])), (t, .inl (N.2 0, 64, .inl (upd (upd (upd (upd tr (i * 8 + 4) lg) (i * 8 + 5) sn) (i * 8 + 6) (nI (fc / 16))) (i * 8 + 7) (nI (fc % 16)))))] H := hP
  have hD : va_D Ag [(a, .inr (1, [.ref t, .int (nI n)])), (t, .inl (N.2 0, 64, .inl (upd (upd (upd (upd tr (i * 8 + 4) lg) (i * 8 + 5) sn) (i * 8 + 6) (nI (fc / 16))) (i * 8 + 7) (nI (fc % 16)))))] := hD
  exact ck_vret hx hb hrt hlk () trivial hP hD hS ⟨Nat.le_of_ble_eq_true rfl, Nat.le_of_ble_eq_true rfl⟩ dX1_equip_38
set_option maxHeartbeats 4000000 in
set_option maxRecDepth 100000 in
/-- X1_spotOf -/
theorem c_X1_spotOf (l : Launch) (N : ckN) (a : Nat) (t : Nat) (tr : Nat → Int32) (n : Nat) (i : Nat) (hi : i < 8) : ckI l yX1_spotOf cX1_spotOf 2 (some FieldType.int) { frames := 3, cells := 0, slots := 0, locals := 82 } N [.ref a, .int (nI i)] [(a, .inr (1, [.ref t, .int (nI n)])), (t, .inl (N.2 0, 64, .inl tr))] (fun (r : Int32) (u : Unit) => r = ((nI 100) * (tr (i * 8 + 1)) + (tr (i * 8 + 2)))) (fun (u : Unit) => [(a, .inr (1, [.ref t, .int (nI n)])), (t, .inl (N.2 0, 64, .inl tr))]) := by
  refine ckI.of (by decide) (Nat.le_of_ble_eq_true rfl) ?_
  intro pg eg sg mg blw mth cg Ag ls hx hb hrt hml hown hlk hin hg hE hA hP hD hS hl
  have hown : sg.vm.findClass RX1 = some mg.cls := hown
  have hl : lv_has ls 2 [(0, .ref a), (1, .int (nI i))] := hl
  have C0 : ckC pg sg mg ([.ref a, .int (nI i)]).toArray cg cX1_spotOf 2 RX1 N Ag := ⟨⟨hx, hb, hml, hown, hg⟩, hE, hA⟩
  generalize hHe : sg.heap = H at hP
  have hS : va_S Ag sg.heap H [] := hHe ▸ hS
  refine lv_bipush (v := (nI 100)) hx hb dX1_spotOf_0 (by decide) ?_
  refine lv_aload_n hx hb dX1_spotOf_2 rfl (lv_at hl 0 rfl) ?_
  refine lv_iload_n hx hb dX1_spotOf_3 rfl (lv_at hl 1 rfl) ?_
  refine lv_iconst (v := (nI 1)) hx hb dX1_spotOf_4 (by decide) ?_
  refine ck_Vi (As := [.int (nI i), .int (nI 1)]) (rest := [.int (nI 100)]) (wr := []) C0 hP hD hS (c_X1_told l N a t tr n i 1 (by omega)) myX1_told k2_123 ⟨Nat.le_of_ble_eq_true rfl, Nat.le_of_ble_eq_true rfl⟩ [0, 1] [] ⟨⟨rfl, rfl⟩, by decide, by decide, by decide⟩ 0 rfl rfl rfl rfl hl.1 rfl (Nat.le_of_ble_eq_true rfl) dX1_spotOf_5 ⟨Nat.le_of_ble_eq_true rfl, Nat.le_of_ble_eq_true rfl⟩ (fun r_1 u0 H locs hw0 hP hD hS => ?_)
  have hw_2 : r_1 = (tr (i * 8 + 1)) := hw0
  subst hw_2
  have hP : va_P N.1 vwCl [(a, .inr (1, [.ref t, .int (nI n)])), (t, .inl (N.2 0, 64, .inl tr))] H := hP
  have hD : va_D Ag [(a, .inr (1, [.ref t, .int (nI n)])), (t, .inl (N.2 0, 64, .inl tr))] := hD
  refine lv_imul hx hb dX1_spotOf_8 ?_
  refine lv_aload_n hx hb dX1_spotOf_9 rfl (lv_at hl 0 rfl) ?_
  refine lv_iload_n hx hb dX1_spotOf_10 rfl (lv_at hl 1 rfl) ?_
  refine lv_iconst (v := (nI 2)) hx hb dX1_spotOf_11 (by decide) ?_
  refine ck_Vi (As := [.int (nI i), .int (nI 2)]) (rest := [.int ((nI 100) * (tr (i * 8 + 1)))]) (wr := []) C0 hP hD hS (c_X1_told l N a t tr n i 2 (by omega)) myX1_told k2_123 ⟨Nat.le_of_ble_eq_true rfl, Nat.le_of_ble_eq_true rfl⟩ [0, 1] [] ⟨⟨rfl, rfl⟩, by decide, by decide, by decide⟩ 0 rfl rfl rfl rfl hl.1 rfl (Nat.le_of_ble_eq_true rfl) dX1_spotOf_12 ⟨Nat.le_of_ble_eq_true rfl, Nat.le_of_ble_eq_true rfl⟩ (fun r_3 u0 H locs hw0 hP hD hS => ?_)
  have hw_4 : r_3 = (tr (i * 8 + 2)) := hw0
  subst hw_4
  have hP : va_P N.1 vwCl [(a, .inr (1, [.ref t, .int (nI n)])), (t, .inl (N.2 0, 64, .inl tr))] H := hP
  have hD : va_D Ag [(a, .inr (1, [.ref t, .int (nI n)])), (t, .inl (N.2 0, 64, .inl tr))] := hD
  refine lv_iadd hx hb dX1_spotOf_15 ?_
  exact ck_iret hx hb hrt hlk () rfl hP hD hS ⟨Nat.le_of_ble_eq_true rfl, Nat.le_of_ble_eq_true rfl⟩ dX1_spotOf_16
set_option maxHeartbeats 4000000 in
set_option maxRecDepth 100000 in
/-- X1_fight -/
theorem c_X1_fight (l : Launch) (N : ckN) (a : Nat) (t : Nat) (tr : Nat → Int32) (n : Nat) (i : Nat) (hi : i < 8) (hn : n < 2 ^ 31) : ckI l yX1_fight cX1_fight 2 (some FieldType.boolean) { frames := 3, cells := 0, slots := 0, locals := 82 } N [.ref a, .int (nI i)] [(a, .inr (1, [.ref t, .int (nI n)])), (t, .inl (N.2 0, 64, .inl tr))] (fun (r : Int32) (u : Unit) => r = (b2i (decide (i < n) && decide (tr (i * 8 + 0) = nI 3)))) (fun (u : Unit) => [(a, .inr (1, [.ref t, .int (nI n)])), (t, .inl (N.2 0, 64, .inl tr))]) := by
  refine ckI.of (by decide) (Nat.le_of_ble_eq_true rfl) ?_
  intro pg eg sg mg blw mth cg Ag ls hx hb hrt hml hown hlk hin hg hE hA hP hD hS hl
  have hown : sg.vm.findClass RX1 = some mg.cls := hown
  have hl : lv_has ls 2 [(0, .ref a), (1, .int (nI i))] := hl
  have C0 : ckC pg sg mg ([.ref a, .int (nI i)]).toArray cg cX1_fight 2 RX1 N Ag := ⟨⟨hx, hb, hml, hown, hg⟩, hE, hA⟩
  generalize hHe : sg.heap = H at hP
  have hS : va_S Ag sg.heap H [] := hHe ▸ hS
  refine lv_aload_n hx hb dX1_fight_0 rfl (lv_at hl 0 rfl) ?_
  refine lv_iload_n hx hb dX1_fight_1 rfl (lv_at hl 1 rfl) ?_
  refine ck_Vi (As := [.int (nI i)]) (rest := []) (wr := []) C0 hP hD hS (c_X1_have l N a t tr n (nI i) (by omega)) myX1_have k3_75 ⟨Nat.le_of_ble_eq_true rfl, Nat.le_of_ble_eq_true rfl⟩ [0, 1] [] ⟨⟨rfl, rfl⟩, by decide, by decide, by decide⟩ 0 rfl rfl rfl rfl hl.1 rfl (Nat.le_of_ble_eq_true rfl) dX1_fight_2 ⟨Nat.le_of_ble_eq_true rfl, Nat.le_of_ble_eq_true rfl⟩ (fun r_1 u0 H locs hw0 hP hD hS => ?_)
  have hw_2 : r_1 = (b2i (ckLt (nI i) n)) := hw0
  subst hw_2
  have hP : va_P N.1 vwCl [(a, .inr (1, [.ref t, .int (nI n)])), (t, .inl (N.2 0, 64, .inl tr))] H := hP
  have hD : va_D Ag [(a, .inr (1, [.ref t, .int (nI n)])), (t, .inl (N.2 0, 64, .inl tr))] := hD
  refine ck_ifeq (b := ckLt (nI i) n) (tgt := 22) hx hb dX1_fight_5 (by decide) (fun cz_3 => ?_) (fun cz_3 => ?_)
  · refine lv_iconst (v := (nI 0)) hx hb dX1_fight_22 (by decide) ?_
    refine ck_top (y := (b2i false)) (by decide) ?_
    exact ck_zret (b := false) hx hb hrt hlk () (congrArg b2i (by rw [ckLt_nI (by omega)] at cz_3; rw [cz_3]; rfl)) hP hD hS ⟨Nat.le_of_ble_eq_true rfl, Nat.le_of_ble_eq_true rfl⟩ dX1_fight_23
  refine lv_aload_n hx hb dX1_fight_8 rfl (lv_at hl 0 rfl) ?_
  refine lv_iload_n hx hb dX1_fight_9 rfl (lv_at hl 1 rfl) ?_
  refine lv_iconst (v := (nI 0)) hx hb dX1_fight_10 (by decide) ?_
  refine ck_Vi (As := [.int (nI i), .int (nI 0)]) (rest := []) (wr := []) C0 hP hD hS (c_X1_told l N a t tr n i 0 (by omega)) myX1_told k2_123 ⟨Nat.le_of_ble_eq_true rfl, Nat.le_of_ble_eq_true rfl⟩ [0, 1] [] ⟨⟨rfl, rfl⟩, by decide, by decide, by decide⟩ 0 rfl rfl rfl rfl hl.1 rfl (Nat.le_of_ble_eq_true rfl) dX1_fight_11 ⟨Nat.le_of_ble_eq_true rfl, Nat.le_of_ble_eq_true rfl⟩ (fun r_4 u0 H locs hw0 hP hD hS => ?_)
  have hw_5 : r_4 = (tr (i * 8 + 0)) := hw0
  subst hw_5
  have hP : va_P N.1 vwCl [(a, .inr (1, [.ref t, .int (nI n)])), (t, .inl (N.2 0, 64, .inl tr))] H := hP
  have hD : va_D Ag [(a, .inr (1, [.ref t, .int (nI n)])), (t, .inl (N.2 0, 64, .inl tr))] := hD
  refine lv_iconst (v := (nI 3)) hx hb dX1_fight_14 (by decide) ?_
  refine lv_icmp_ne (tgt := 22) hx hb dX1_fight_15 (by decide) (fun cz_6 => ?_) (fun cz_6 => ?_)
  · refine lv_iconst (v := (nI 0)) hx hb dX1_fight_22 (by decide) ?_
    refine ck_top (y := (b2i false)) (by decide) ?_
    exact ck_zret (b := false) hx hb hrt hlk () (congrArg b2i (by rw [ckLt_nI (by omega)] at cz_3; rw [cz_3, decide_eq_false cz_6]; rfl)) hP hD hS ⟨Nat.le_of_ble_eq_true rfl, Nat.le_of_ble_eq_true rfl⟩ dX1_fight_23
  refine lv_iconst (v := (nI 1)) hx hb dX1_fight_18 (by decide) ?_
  refine lv_goto (tgt := 23) hx hb dX1_fight_19 (by decide) ?_
  refine ck_top (y := (b2i true)) (by decide) ?_
  exact ck_zret (b := true) hx hb hrt hlk () (congrArg b2i (by rw [ckLt_nI (by omega)] at cz_3; rw [cz_3, decide_eq_true cz_6]; rfl)) hP hD hS ⟨Nat.le_of_ble_eq_true rfl, Nat.le_of_ble_eq_true rfl⟩ dX1_fight_23
set_option maxHeartbeats 4000000 in
set_option maxRecDepth 100000 in
/-- X1_takeFrom -/
theorem c_X1_takeFrom (l : Launch) (N : ckN) (a : Nat) (t : Nat) (tr : Nat → Int32) (n : Nat) (a2 : Nat) (t2 : Nat) (tr2 : Nat → Int32) (n2 : Nat)  : ckV l yX1_takeFrom cX1_takeFrom 2 none { frames := 2, cells := 0, slots := 0, locals := 60 } N [.ref a, .ref a2] [(a, .inr (1, [.ref t, .int (nI n)])), (t, .inl (N.2 0, 64, .inl tr)), (a2, .inr (1, [.ref t2, .int (nI n2)])), (t2, .inl (N.2 0, 64, .inl tr2))] (fun (u : (Nat → Int32)) => ∀ j, j < 64 → u j = tr2 j) (fun (u : (Nat → Int32)) => [(a, .inr (1, [.ref t, .int (nI n2)])), (t, .inl (N.2 0, 64, .inl u)), (a2, .inr (1, [.ref t2, .int (nI n2)])), (t2, .inl (N.2 0, 64, .inl tr2))]) := by
  refine ckV.of (by decide) (Nat.le_of_ble_eq_true rfl) ?_
  intro pg eg sg mg blw mth cg Ag ls hx hb hrt hml hown hlk hin hg hE hA hP hD hS hl
  have hown : sg.vm.findClass RX1 = some mg.cls := hown
  have hl : lv_has ls 2 [(0, .ref a), (1, .ref a2)] := hl
  have C0 : ckC pg sg mg ([.ref a, .ref a2]).toArray cg cX1_takeFrom 2 RX1 N Ag := ⟨⟨hx, hb, hml, hown, hg⟩, hE, hA⟩
  generalize hHe : sg.heap = H at hP
  have hS : va_S Ag sg.heap H [] := hHe ▸ hS
  refine lv_aload_n hx hb dX1_takeFrom_0 rfl (lv_at hl 1 rfl) ?_
  refine va_get (ci := 1) (v := .ref t2) (C := RX1) (T := TX1) (N := 2) hx hb hg inX1 hown hE.1 hP 2 rfl rfl 0 (by decide) (hg _ k1_42) (fun _ h9 => h9) rfl dX1_takeFrom_1 ?_
  refine lv_iconst (v := (nI 0)) hx hb dX1_takeFrom_4 (by decide) ?_
  refine lv_aload_n hx hb dX1_takeFrom_5 rfl (lv_at hl 0 rfl) ?_
  refine va_get (ci := 1) (v := .ref t) (C := RX1) (T := TX1) (N := 2) hx hb hg inX1 hown hE.1 hP 0 rfl rfl 0 (by decide) (hg _ k1_42) (fun _ h9 => h9) rfl dX1_takeFrom_6 ?_
  refine lv_iconst (v := (nI 0)) hx hb dX1_takeFrom_9 (by decide) ?_
  refine lv_aload_n hx hb dX1_takeFrom_10 rfl (lv_at hl 0 rfl) ?_
  refine va_get (ci := 1) (v := .ref t) (C := RX1) (T := TX1) (N := 2) hx hb hg inX1 hown hE.1 hP 0 rfl rfl 0 (by decide) (hg _ k1_42) (fun _ h9 => h9) rfl dX1_takeFrom_11 ?_
  refine va_alen (v := nI 64) hx hb hE.1 hP 1 0 rfl rfl rfl dX1_takeFrom_14 ?_
  refine ck_copy hx hb (by rw [hml]; exact hl.1.symm) hown (hg _ k2_50) (hg _ k2_52) (hg _ k2_51) (hg _ k1_13) hE hP hD hS 3 1 rfl rfl (by omega) (by omega) ⟨by omega, by omega, by omega⟩ (Nat.le_of_ble_eq_true rfl) (Nat.le_of_ble_eq_true rfl) dX1_takeFrom_15 (ws1 := [(a, .inr (1, [.ref t, .int (nI n)])), (t, .inl (N.2 0, 64, .inl (va_cpy tr2 tr 0 0 64))), (a2, .inr (1, [.ref t2, .int (nI n2)])), (t2, .inl (N.2 0, 64, .inl tr2))]) rfl (fun H locs hP hD hS => ?_)
  refine lv_aload_n hx hb dX1_takeFrom_18 rfl (lv_at hl 0 rfl) ?_
  refine lv_aload_n hx hb dX1_takeFrom_19 rfl (lv_at hl 1 rfl) ?_
  refine va_get (ci := 1) (v := .int (nI n2)) (C := RX1) (T := TX1) (N := 2) hx hb hg inX1 hown hE.1 hP 2 rfl rfl 1 (by decide) (hg _ k1_43) (fun _ h9 => h9) rfl dX1_takeFrom_20 ?_
  refine va_put (ci := 1) (v := .int (nI n2)) (C := RX1) (T := TX1) (N := 2) hx hb hg inX1 tyX1 tyX1_ok nmX1 hown hE.1 hP hD hS 0 rfl rfl 1 (by decide) (hg _ k1_43) (fun _ h9 => h9) rfl (tyX1_ok 1 (by decide)) rfl rfl (Nat.le_of_ble_eq_true rfl) dX1_takeFrom_23 (fun H locs hP hD hS => ?_)
  have hP : va_P N.1 vwCl [(a, .inr (1, [.ref t, .int (nI n2)])), (t, .inl (N.2 0, 64, .inl (va_cpy tr2 tr 0 0 64))), (a2, .inr (1, [.ref t2, .int (nI n2)])), (t2, .inl (N.2 0, 64, .inl tr2))] H := hP
  have hD : va_D Ag [(a, .inr (1, [.ref t, .int (nI n2)])), (t, .inl (N.2 0, 64, .inl (va_cpy tr2 tr 0 0 64))), (a2, .inr (1, [.ref t2, .int (nI n2)])), (t2, .inl (N.2 0, 64, .inl tr2))] := hD
  exact ck_vret hx hb hrt hlk (va_cpy tr2 tr 0 0 64) (fun j hj => pk_cpy_in (Nat.zero_le j) (by omega) |>.trans (by rw [Nat.zero_add, Nat.sub_zero])) hP hD hS ⟨Nat.le_of_ble_eq_true rfl, Nat.le_of_ble_eq_true rfl⟩ dX1_takeFrom_26
set_option maxHeartbeats 4000000 in
set_option maxRecDepth 100000 in
/-- X8_init -/
theorem c_X8_init (l : Launch) (N : ckN) (a : Nat)  : ckV l yX8_init cX8_init 1 none { frames := 2, cells := 2, slots := 160, locals := 60 } N [.ref a] [(a, .inr (8, [.null, .null]))] (fun (u : Nat × Nat) => True) (fun (u : Nat × Nat) => [(a, .inr (8, [.ref u.1, .ref u.2])), (u.1, .inl (N.2 0, 80, .inl (fun _ => 0))), (u.2, .inl (N.2 0, 80, .inl (fun _ => 0)))]) := by
  refine ckV.of (by decide) (Nat.le_of_ble_eq_true rfl) ?_
  intro pg eg sg mg blw mth cg Ag ls hx hb hrt hml hown hlk hin hg hE hA hP hD hS hl
  have hown : sg.vm.findClass RX8 = some mg.cls := hown
  have hl : lv_has ls 1 [(0, .ref a)] := hl
  have C0 : ckC pg sg mg ([.ref a]).toArray cg cX8_init 1 RX8 N Ag := ⟨⟨hx, hb, hml, hown, hg⟩, hE, hA⟩
  generalize hHe : sg.heap = H at hP
  have hS : va_S Ag sg.heap H [] := hHe ▸ hS
  refine lv_aload_n hx hb dX8_init_0 rfl (lv_at hl 0 rfl) ?_
  refine W.objInit hx hb hown (hg _ k1_57) (hg _ k1_22) (hg _ k1_23) rfl (by rw [hml]; exact hl.1) rfl dX8_init_1 (Nat.le_of_ble_eq_true rfl) (Nat.le_of_ble_eq_true rfl) ?_
  refine W.eq (g2 := F0 mg 4 ls []) rfl ?_
  refine lv_aload_n hx hb dX8_init_4 rfl (lv_at hl 0 rfl) ?_
  refine lv_bipush (v := (nI 80)) hx hb dX8_init_5 (by decide) ?_
  refine ck_newa (n := 80) hx hb (hg _ k1_51) hE hP hD hS hA (by decide) (by decide) (Nat.le_of_ble_eq_true rfl) (Nat.le_of_ble_eq_true rfl) dX8_init_7 (fun q_1 H hP hD hS => ?_)
  have hP : va_P N.1 vwCl [(a, .inr (8, [.null, .null])), (q_1, .inl (N.2 0, 80, .inl (fun _ => 0)))] H := hP
  have hD : va_D Ag [(a, .inr (8, [.null, .null])), (q_1, .inl (N.2 0, 80, .inl (fun _ => 0)))] := hD
  refine va_putF (ci := 8) (v := .ref q_1) (C := RX8) (T := TX8) (N := 2) hx hb hg inX8 tyX8 tyX8_ok nmX8 hown hE.1 hP hD hS 0 rfl rfl 0 (by decide) (hg _ k1_58) (fun _ h9 => h9) rfl hin rfl (tyX8_ok 0 (by decide)) rfl rfl (Nat.le_of_ble_eq_true rfl) dX8_init_9 (fun H locs hP hD hS => ?_)
  have hP : va_P N.1 vwCl [(a, .inr (8, [.ref q_1, .null])), (q_1, .inl (N.2 0, 80, .inl (fun _ => 0)))] H := hP
  have hD : va_D Ag [(a, .inr (8, [.ref q_1, .null])), (q_1, .inl (N.2 0, 80, .inl (fun _ => 0)))] := hD
  refine lv_aload_n hx hb dX8_init_12 rfl (lv_at hl 0 rfl) ?_
  refine lv_bipush (v := (nI 80)) hx hb dX8_init_13 (by decide) ?_
  refine ck_newa (n := 80) hx hb (hg _ k1_51) hE hP hD hS hA (by decide) (by decide) (Nat.le_of_ble_eq_true rfl) (Nat.le_of_ble_eq_true rfl) dX8_init_15 (fun q_2 H hP hD hS => ?_)
  have hP : va_P N.1 vwCl [(a, .inr (8, [.ref q_1, .null])), (q_1, .inl (N.2 0, 80, .inl (fun _ => 0))), (q_2, .inl (N.2 0, 80, .inl (fun _ => 0)))] H := hP
  have hD : va_D Ag [(a, .inr (8, [.ref q_1, .null])), (q_1, .inl (N.2 0, 80, .inl (fun _ => 0))), (q_2, .inl (N.2 0, 80, .inl (fun _ => 0)))] := hD
  refine va_putF (ci := 8) (v := .ref q_2) (C := RX8) (T := TX8) (N := 2) hx hb hg inX8 tyX8 tyX8_ok nmX8 hown hE.1 hP hD hS 0 rfl rfl 1 (by decide) (hg _ k1_59) (fun _ h9 => h9) rfl hin rfl (tyX8_ok 1 (by decide)) rfl rfl (Nat.le_of_ble_eq_true rfl) dX8_init_17 (fun H locs hP hD hS => ?_)
  have hP : va_P N.1 vwCl [(a, .inr (8, [.ref q_1, .ref q_2])), (q_1, .inl (N.2 0, 80, .inl (fun _ => 0))), (q_2, .inl (N.2 0, 80, .inl (fun _ => 0)))] H := hP
  have hD : va_D Ag [(a, .inr (8, [.ref q_1, .ref q_2])), (q_1, .inl (N.2 0, 80, .inl (fun _ => 0))), (q_2, .inl (N.2 0, 80, .inl (fun _ => 0)))] := hD
  exact ck_vret hx hb hrt hlk ⟨q_1, q_2⟩ trivial hP hD hS ⟨Nat.le_of_ble_eq_true rfl, Nat.le_of_ble_eq_true rfl⟩ dX8_init_20
set_option maxHeartbeats 4000000 in
set_option maxRecDepth 100000 in
/-- X8_directionOf -/
theorem c_X8_directionOf (l : Launch) (N : ckN) (a : Nat) (d : Nat) (f : Nat) (di : Nat → Int32) (fo : Nat → Int32) (h : Nat) (mi : Nat) (hh : h * 20 + mi < 80) : ckI l yX8_directionOf cX8_directionOf 3 (some FieldType.int) { frames := 2, cells := 0, slots := 0, locals := 60 } N [.ref a, .int (nI h), .int (nI mi)] [(a, .inr (8, [.ref d, .ref f])), (d, .inl (N.2 0, 80, .inl di)), (f, .inl (N.2 0, 80, .inl fo))] (fun (r : Int32) (u : Unit) => r = (di (h * 20 + mi))) (fun (u : Unit) => [(a, .inr (8, [.ref d, .ref f])), (d, .inl (N.2 0, 80, .inl di)), (f, .inl (N.2 0, 80, .inl fo))]) := by
  refine ckI.of (by decide) (Nat.le_of_ble_eq_true rfl) ?_
  intro pg eg sg mg blw mth cg Ag ls hx hb hrt hml hown hlk hin hg hE hA hP hD hS hl
  have hown : sg.vm.findClass RX8 = some mg.cls := hown
  have hl : lv_has ls 3 [(0, .ref a), (1, .int (nI h)), (2, .int (nI mi))] := hl
  have C0 : ckC pg sg mg ([.ref a, .int (nI h), .int (nI mi)]).toArray cg cX8_directionOf 3 RX8 N Ag := ⟨⟨hx, hb, hml, hown, hg⟩, hE, hA⟩
  generalize hHe : sg.heap = H at hP
  have hS : va_S Ag sg.heap H [] := hHe ▸ hS
  refine lv_aload_n hx hb dX8_directionOf_0 rfl (lv_at hl 0 rfl) ?_
  refine va_get (ci := 8) (v := .ref d) (C := RX8) (T := TX8) (N := 2) hx hb hg inX8 hown hE.1 hP 0 rfl rfl 0 (by decide) (hg _ k1_58) (fun _ h9 => h9) rfl dX8_directionOf_1 ?_
  refine lv_iload_n hx hb dX8_directionOf_4 rfl (lv_at hl 1 rfl) ?_
  refine lv_bipush (v := (nI 20)) hx hb dX8_directionOf_5 (by decide) ?_
  refine lv_imul hx hb dX8_directionOf_7 ?_
  refine ck_top (y := (nI (h * 20))) (pk_mul _ _) ?_
  refine lv_iload_n hx hb dX8_directionOf_8 rfl (lv_at hl 2 rfl) ?_
  refine lv_iadd hx hb dX8_directionOf_9 ?_
  refine ck_top (y := (nI (h * 20 + mi))) (nI_add _ _) ?_
  refine ck_iald hx hb hE hP 1 rfl (by omega) (by decide) dX8_directionOf_10 ?_
  exact ck_iret hx hb hrt hlk () rfl hP hD hS ⟨Nat.le_of_ble_eq_true rfl, Nat.le_of_ble_eq_true rfl⟩ dX8_directionOf_11
set_option maxHeartbeats 4000000 in
set_option maxRecDepth 100000 in
/-- X8_forceOf -/
theorem c_X8_forceOf (l : Launch) (N : ckN) (a : Nat) (d : Nat) (f : Nat) (di : Nat → Int32) (fo : Nat → Int32) (h : Nat) (mi : Nat) (hh : h * 20 + mi < 80) : ckI l yX8_forceOf cX8_forceOf 3 (some FieldType.int) { frames := 2, cells := 0, slots := 0, locals := 60 } N [.ref a, .int (nI h), .int (nI mi)] [(a, .inr (8, [.ref d, .ref f])), (d, .inl (N.2 0, 80, .inl di)), (f, .inl (N.2 0, 80, .inl fo))] (fun (r : Int32) (u : Unit) => r = (fo (h * 20 + mi))) (fun (u : Unit) => [(a, .inr (8, [.ref d, .ref f])), (d, .inl (N.2 0, 80, .inl di)), (f, .inl (N.2 0, 80, .inl fo))]) := by
  refine ckI.of (by decide) (Nat.le_of_ble_eq_true rfl) ?_
  intro pg eg sg mg blw mth cg Ag ls hx hb hrt hml hown hlk hin hg hE hA hP hD hS hl
  have hown : sg.vm.findClass RX8 = some mg.cls := hown
  have hl : lv_has ls 3 [(0, .ref a), (1, .int (nI h)), (2, .int (nI mi))] := hl
  have C0 : ckC pg sg mg ([.ref a, .int (nI h), .int (nI mi)]).toArray cg cX8_forceOf 3 RX8 N Ag := ⟨⟨hx, hb, hml, hown, hg⟩, hE, hA⟩
  generalize hHe : sg.heap = H at hP
  have hS : va_S Ag sg.heap H [] := hHe ▸ hS
  refine lv_aload_n hx hb dX8_forceOf_0 rfl (lv_at hl 0 rfl) ?_
  refine va_get (ci := 8) (v := .ref f) (C := RX8) (T := TX8) (N := 2) hx hb hg inX8 hown hE.1 hP 0 rfl rfl 1 (by decide) (hg _ k1_59) (fun _ h9 => h9) rfl dX8_forceOf_1 ?_
  refine lv_iload_n hx hb dX8_forceOf_4 rfl (lv_at hl 1 rfl) ?_
  refine lv_bipush (v := (nI 20)) hx hb dX8_forceOf_5 (by decide) ?_
  refine lv_imul hx hb dX8_forceOf_7 ?_
  refine ck_top (y := (nI (h * 20))) (pk_mul _ _) ?_
  refine lv_iload_n hx hb dX8_forceOf_8 rfl (lv_at hl 2 rfl) ?_
  refine lv_iadd hx hb dX8_forceOf_9 ?_
  refine ck_top (y := (nI (h * 20 + mi))) (nI_add _ _) ?_
  refine ck_iald hx hb hE hP 2 rfl (by omega) (by decide) dX8_forceOf_10 ?_
  exact ck_iret hx hb hrt hlk () rfl hP hD hS ⟨Nat.le_of_ble_eq_true rfl, Nat.le_of_ble_eq_true rfl⟩ dX8_forceOf_11
set_option maxHeartbeats 4000000 in
set_option maxRecDepth 100000 in
/-- X8_turn -/
theorem c_X8_turn (l : Launch) (N : ckN) (a : Nat) (d : Nat) (f : Nat) (di : Nat → Int32) (fo : Nat → Int32) (h : Nat) (mi : Nat) (v : Int32) (hh : h * 20 + mi < 80) : ckV l yX8_turn cX8_turn 4 none { frames := 2, cells := 0, slots := 0, locals := 60 } N [.ref a, .int (nI h), .int (nI mi), .int v] [(a, .inr (8, [.ref d, .ref f])), (d, .inl (N.2 0, 80, .inl di)), (f, .inl (N.2 0, 80, .inl fo))] (fun (u : Unit) => True) (fun (u : Unit) => [(a, .inr (8, [.ref d, .ref f])), (d, .inl (N.2 0, 80, .inl (upd di (h * 20 + mi) v))), (f, .inl (N.2 0, 80, .inl fo))]) := by
  refine ckV.of (by decide) (Nat.le_of_ble_eq_true rfl) ?_
  intro pg eg sg mg blw mth cg Ag ls hx hb hrt hml hown hlk hin hg hE hA hP hD hS hl
  have hown : sg.vm.findClass RX8 = some mg.cls := hown
  have hl : lv_has ls 4 [(0, .ref a), (1, .int (nI h)), (2, .int (nI mi)), (3, .int v)] := hl
  have C0 : ckC pg sg mg ([.ref a, .int (nI h), .int (nI mi), .int v]).toArray cg cX8_turn 4 RX8 N Ag := ⟨⟨hx, hb, hml, hown, hg⟩, hE, hA⟩
  generalize hHe : sg.heap = H at hP
  have hS : va_S Ag sg.heap H [] := hHe ▸ hS
  refine lv_aload_n hx hb dX8_turn_0 rfl (lv_at hl 0 rfl) ?_
  refine va_get (ci := 8) (v := .ref d) (C := RX8) (T := TX8) (N := 2) hx hb hg inX8 hown hE.1 hP 0 rfl rfl 0 (by decide) (hg _ k1_58) (fun _ h9 => h9) rfl dX8_turn_1 ?_
  refine lv_iload_n hx hb dX8_turn_4 rfl (lv_at hl 1 rfl) ?_
  refine lv_bipush (v := (nI 20)) hx hb dX8_turn_5 (by decide) ?_
  refine lv_imul hx hb dX8_turn_7 ?_
  refine ck_top (y := (nI (h * 20))) (pk_mul _ _) ?_
  refine lv_iload_n hx hb dX8_turn_8 rfl (lv_at hl 2 rfl) ?_
  refine lv_iadd hx hb dX8_turn_9 ?_
  refine ck_top (y := (nI (h * 20 + mi))) (nI_add _ _) ?_
  refine lv_iload_n hx hb dX8_turn_10 rfl (lv_at hl 3 rfl) ?_
  refine ck_iast hx hb hE hP hD hS 1 rfl (by omega) (by decide) dX8_turn_11 (ws1 := [(a, .inr (8, [.ref d, .ref f])), (d, .inl (N.2 0, 80, .inl (upd di (h * 20 + mi) v))), (f, .inl (N.2 0, 80, .inl fo))]) rfl (fun H locs hP hD hS => ?_)
  exact ck_vret hx hb hrt hlk () trivial hP hD hS ⟨Nat.le_of_ble_eq_true rfl, Nat.le_of_ble_eq_true rfl⟩ dX8_turn_12
set_option maxHeartbeats 4000000 in
set_option maxRecDepth 100000 in
/-- X8_blow -/
theorem c_X8_blow (l : Launch) (N : ckN) (a : Nat) (d : Nat) (f : Nat) (di : Nat → Int32) (fo : Nat → Int32) (h : Nat) (mi : Nat) (v : Int32) (hh : h * 20 + mi < 80) : ckV l yX8_blow cX8_blow 4 none { frames := 2, cells := 0, slots := 0, locals := 60 } N [.ref a, .int (nI h), .int (nI mi), .int v] [(a, .inr (8, [.ref d, .ref f])), (d, .inl (N.2 0, 80, .inl di)), (f, .inl (N.2 0, 80, .inl fo))] (fun (u : Unit) => True) (fun (u : Unit) => [(a, .inr (8, [.ref d, .ref f])), (d, .inl (N.2 0, 80, .inl di)), (f, .inl (N.2 0, 80, .inl (upd fo (h * 20 + mi) v)))]) := by
  refine ckV.of (by decide) (Nat.le_of_ble_eq_true rfl) ?_
  intro pg eg sg mg blw mth cg Ag ls hx hb hrt hml hown hlk hin hg hE hA hP hD hS hl
  have hown : sg.vm.findClass RX8 = some mg.cls := hown
  have hl : lv_has ls 4 [(0, .ref a), (1, .int (nI h)), (2, .int (nI mi)), (3, .int v)] := hl
  have C0 : ckC pg sg mg ([.ref a, .int (nI h), .int (nI mi), .int v]).toArray cg cX8_blow 4 RX8 N Ag := ⟨⟨hx, hb, hml, hown, hg⟩, hE, hA⟩
  generalize hHe : sg.heap = H at hP
  have hS : va_S Ag sg.heap H [] := hHe ▸ hS
  refine lv_aload_n hx hb dX8_blow_0 rfl (lv_at hl 0 rfl) ?_
  refine va_get (ci := 8) (v := .ref f) (C := RX8) (T := TX8) (N := 2) hx hb hg inX8 hown hE.1 hP 0 rfl rfl 1 (by decide) (hg _ k1_59) (fun _ h9 => h9) rfl dX8_blow_1 ?_
  refine lv_iload_n hx hb dX8_blow_4 rfl (lv_at hl 1 rfl) ?_
  refine lv_bipush (v := (nI 20)) hx hb dX8_blow_5 (by decide) ?_
  refine lv_imul hx hb dX8_blow_7 ?_
  refine ck_top (y := (nI (h * 20))) (pk_mul _ _) ?_
  refine lv_iload_n hx hb dX8_blow_8 rfl (lv_at hl 2 rfl) ?_
  refine lv_iadd hx hb dX8_blow_9 ?_
  refine ck_top (y := (nI (h * 20 + mi))) (nI_add _ _) ?_
  refine lv_iload_n hx hb dX8_blow_10 rfl (lv_at hl 3 rfl) ?_
  refine ck_iast hx hb hE hP hD hS 2 rfl (by omega) (by decide) dX8_blow_11 (ws1 := [(a, .inr (8, [.ref d, .ref f])), (d, .inl (N.2 0, 80, .inl di)), (f, .inl (N.2 0, 80, .inl (upd fo (h * 20 + mi) v)))]) rfl (fun H locs hP hD hS => ?_)
  exact ck_vret hx hb hrt hlk () trivial hP hD hS ⟨Nat.le_of_ble_eq_true rfl, Nat.le_of_ble_eq_true rfl⟩ dX8_blow_12
set_option maxHeartbeats 4000000 in
set_option maxRecDepth 100000 in
/-- X8_takeFrom -/
theorem c_X8_takeFrom (l : Launch) (N : ckN) (a : Nat) (d : Nat) (f : Nat) (di : Nat → Int32) (fo : Nat → Int32) (a2 : Nat) (d2 : Nat) (f2 : Nat) (di2 : Nat → Int32) (fo2 : Nat → Int32)  : ckV l yX8_takeFrom cX8_takeFrom 2 none { frames := 2, cells := 0, slots := 0, locals := 60 } N [.ref a, .ref a2] [(a, .inr (8, [.ref d, .ref f])), (d, .inl (N.2 0, 80, .inl di)), (f, .inl (N.2 0, 80, .inl fo)), (a2, .inr (8, [.ref d2, .ref f2])), (d2, .inl (N.2 0, 80, .inl di2)), (f2, .inl (N.2 0, 80, .inl fo2))] (fun (u : (Nat → Int32) × (Nat → Int32)) => (∀ j, j < 80 → u.1 j = di2 j) ∧ (∀ j, j < 80 → u.2 j = fo2 j)) (fun (u : (Nat → Int32) × (Nat → Int32)) => [(a, .inr (8, [.ref d, .ref f])), (d, .inl (N.2 0, 80, .inl u.1)), (f, .inl (N.2 0, 80, .inl u.2)), (a2, .inr (8, [.ref d2, .ref f2])), (d2, .inl (N.2 0, 80, .inl di2)), (f2, .inl (N.2 0, 80, .inl fo2))]) := by
  refine ckV.of (by decide) (Nat.le_of_ble_eq_true rfl) ?_
  intro pg eg sg mg blw mth cg Ag ls hx hb hrt hml hown hlk hin hg hE hA hP hD hS hl
  have hown : sg.vm.findClass RX8 = some mg.cls := hown
  have hl : lv_has ls 2 [(0, .ref a), (1, .ref a2)] := hl
  have C0 : ckC pg sg mg ([.ref a, .ref a2]).toArray cg cX8_takeFrom 2 RX8 N Ag := ⟨⟨hx, hb, hml, hown, hg⟩, hE, hA⟩
  generalize hHe : sg.heap = H at hP
  have hS : va_S Ag sg.heap H [] := hHe ▸ hS
  refine lv_aload_n hx hb dX8_takeFrom_0 rfl (lv_at hl 1 rfl) ?_
  refine va_get (ci := 8) (v := .ref d2) (C := RX8) (T := TX8) (N := 2) hx hb hg inX8 hown hE.1 hP 3 rfl rfl 0 (by decide) (hg _ k1_58) (fun _ h9 => h9) rfl dX8_takeFrom_1 ?_
  refine lv_iconst (v := (nI 0)) hx hb dX8_takeFrom_4 (by decide) ?_
  refine lv_aload_n hx hb dX8_takeFrom_5 rfl (lv_at hl 0 rfl) ?_
  refine va_get (ci := 8) (v := .ref d) (C := RX8) (T := TX8) (N := 2) hx hb hg inX8 hown hE.1 hP 0 rfl rfl 0 (by decide) (hg _ k1_58) (fun _ h9 => h9) rfl dX8_takeFrom_6 ?_
  refine lv_iconst (v := (nI 0)) hx hb dX8_takeFrom_9 (by decide) ?_
  refine lv_aload_n hx hb dX8_takeFrom_10 rfl (lv_at hl 0 rfl) ?_
  refine va_get (ci := 8) (v := .ref d) (C := RX8) (T := TX8) (N := 2) hx hb hg inX8 hown hE.1 hP 0 rfl rfl 0 (by decide) (hg _ k1_58) (fun _ h9 => h9) rfl dX8_takeFrom_11 ?_
  refine va_alen (v := nI 80) hx hb hE.1 hP 1 0 rfl rfl rfl dX8_takeFrom_14 ?_
  refine ck_copy hx hb (by rw [hml]; exact hl.1.symm) hown (hg _ k2_57) (hg _ k2_52) (hg _ k2_51) (hg _ k1_13) hE hP hD hS 4 1 rfl rfl (by omega) (by omega) ⟨by omega, by omega, by omega⟩ (Nat.le_of_ble_eq_true rfl) (Nat.le_of_ble_eq_true rfl) dX8_takeFrom_15 (ws1 := [(a, .inr (8, [.ref d, .ref f])), (d, .inl (N.2 0, 80, .inl (va_cpy di2 di 0 0 80))), (f, .inl (N.2 0, 80, .inl fo)), (a2, .inr (8, [.ref d2, .ref f2])), (d2, .inl (N.2 0, 80, .inl di2)), (f2, .inl (N.2 0, 80, .inl fo2))]) rfl (fun H locs hP hD hS => ?_)
  refine lv_aload_n hx hb dX8_takeFrom_18 rfl (lv_at hl 1 rfl) ?_
  refine va_get (ci := 8) (v := .ref f2) (C := RX8) (T := TX8) (N := 2) hx hb hg inX8 hown hE.1 hP 3 rfl rfl 1 (by decide) (hg _ k1_59) (fun _ h9 => h9) rfl dX8_takeFrom_19 ?_
  refine lv_iconst (v := (nI 0)) hx hb dX8_takeFrom_22 (by decide) ?_
  refine lv_aload_n hx hb dX8_takeFrom_23 rfl (lv_at hl 0 rfl) ?_
  refine va_get (ci := 8) (v := .ref f) (C := RX8) (T := TX8) (N := 2) hx hb hg inX8 hown hE.1 hP 0 rfl rfl 1 (by decide) (hg _ k1_59) (fun _ h9 => h9) rfl dX8_takeFrom_24 ?_
  refine lv_iconst (v := (nI 0)) hx hb dX8_takeFrom_27 (by decide) ?_
  refine lv_aload_n hx hb dX8_takeFrom_28 rfl (lv_at hl 0 rfl) ?_
  refine va_get (ci := 8) (v := .ref f) (C := RX8) (T := TX8) (N := 2) hx hb hg inX8 hown hE.1 hP 0 rfl rfl 1 (by decide) (hg _ k1_59) (fun _ h9 => h9) rfl dX8_takeFrom_29 ?_
  refine va_alen (v := nI 80) hx hb hE.1 hP 2 0 rfl rfl rfl dX8_takeFrom_32 ?_
  refine ck_copy hx hb (by rw [hml]; exact hl.1.symm) hown (hg _ k2_57) (hg _ k2_52) (hg _ k2_51) (hg _ k1_13) hE hP hD hS 5 2 rfl rfl (by omega) (by omega) ⟨by omega, by omega, by omega⟩ (Nat.le_of_ble_eq_true rfl) (Nat.le_of_ble_eq_true rfl) dX8_takeFrom_33 (ws1 := [(a, .inr (8, [.ref d, .ref f])), (d, .inl (N.2 0, 80, .inl (va_cpy di2 di 0 0 80))), (f, .inl (N.2 0, 80, .inl (va_cpy fo2 fo 0 0 80))), (a2, .inr (8, [.ref d2, .ref f2])), (d2, .inl (N.2 0, 80, .inl di2)), (f2, .inl (N.2 0, 80, .inl fo2))]) rfl (fun H locs hP hD hS => ?_)
  exact ck_vret hx hb hrt hlk ⟨va_cpy di2 di 0 0 80, va_cpy fo2 fo 0 0 80⟩ ⟨fun j hj => pk_cpy_in (Nat.zero_le j) (by omega) |>.trans (by rw [Nat.zero_add, Nat.sub_zero]), fun j hj => pk_cpy_in (Nat.zero_le j) (by omega) |>.trans (by rw [Nat.zero_add, Nat.sub_zero])⟩ hP hD hS ⟨Nat.le_of_ble_eq_true rfl, Nat.le_of_ble_eq_true rfl⟩ dX8_takeFrom_36
set_option maxHeartbeats 4000000 in
set_option maxRecDepth 100000 in
/-- X5_init -/
theorem c_X5_init (l : Launch) (N : ckN) (a : Nat)  : ckV l yX5_init cX5_init 1 none { frames := 2, cells := 1, slots := 40, locals := 60 } N [.ref a] [(a, .inr (5, [.null, .int (nI 0), .int (nI 0)]))] (fun (u : Nat) => True) (fun (u : Nat) => [(a, .inr (5, [.ref u, .int (nI 0), .int (nI 0)])), (u, .inl (N.2 0, 40, .inl (fun _ => 0)))]) := by
  refine ckV.of (by decide) (Nat.le_of_ble_eq_true rfl) ?_
  intro pg eg sg mg blw mth cg Ag ls hx hb hrt hml hown hlk hin hg hE hA hP hD hS hl
  have hown : sg.vm.findClass RX5 = some mg.cls := hown
  have hl : lv_has ls 1 [(0, .ref a)] := hl
  have C0 : ckC pg sg mg ([.ref a]).toArray cg cX5_init 1 RX5 N Ag := ⟨⟨hx, hb, hml, hown, hg⟩, hE, hA⟩
  generalize hHe : sg.heap = H at hP
  have hS : va_S Ag sg.heap H [] := hHe ▸ hS
  refine lv_aload_n hx hb dX5_init_0 rfl (lv_at hl 0 rfl) ?_
  refine W.objInit hx hb hown (hg _ k1_202) (hg _ k1_22) (hg _ k1_23) rfl (by rw [hml]; exact hl.1) rfl dX5_init_1 (Nat.le_of_ble_eq_true rfl) (Nat.le_of_ble_eq_true rfl) ?_
  refine W.eq (g2 := F0 mg 4 ls []) rfl ?_
  refine lv_aload_n hx hb dX5_init_4 rfl (lv_at hl 0 rfl) ?_
  refine lv_bipush (v := (nI 40)) hx hb dX5_init_5 (by decide) ?_
  refine ck_newa (n := 40) hx hb (hg _ k1_51) hE hP hD hS hA (by decide) (by decide) (Nat.le_of_ble_eq_true rfl) (Nat.le_of_ble_eq_true rfl) dX5_init_7 (fun q_1 H hP hD hS => ?_)
  have hP : va_P N.1 vwCl [(a, .inr (5, [.null, .int (nI 0), .int (nI 0)])), (q_1, .inl (N.2 0, 40, .inl (fun _ => 0)))] H := hP
  have hD : va_D Ag [(a, .inr (5, [.null, .int (nI 0), .int (nI 0)])), (q_1, .inl (N.2 0, 40, .inl (fun _ => 0)))] := hD
  refine va_putF (ci := 5) (v := .ref q_1) (C := RX5) (T := TX5) (N := 3) hx hb hg inX5 tyX5 tyX5_ok nmX5 hown hE.1 hP hD hS 0 rfl rfl 0 (by decide) (hg _ k1_203) (fun _ h9 => h9) rfl hin rfl (tyX5_ok 0 (by decide)) rfl rfl (Nat.le_of_ble_eq_true rfl) dX5_init_9 (fun H locs hP hD hS => ?_)
  have hP : va_P N.1 vwCl [(a, .inr (5, [.ref q_1, .int (nI 0), .int (nI 0)])), (q_1, .inl (N.2 0, 40, .inl (fun _ => 0)))] H := hP
  have hD : va_D Ag [(a, .inr (5, [.ref q_1, .int (nI 0), .int (nI 0)])), (q_1, .inl (N.2 0, 40, .inl (fun _ => 0)))] := hD
  exact ck_vret hx hb hrt hlk (q_1) trivial hP hD hS ⟨Nat.le_of_ble_eq_true rfl, Nat.le_of_ble_eq_true rfl⟩ dX5_init_12
set_option maxHeartbeats 4000000 in
set_option maxRecDepth 100000 in
/-- X5_isMissing -/
theorem c_X5_isMissing (l : Launch) (N : ckN) (a : Nat) (t : Nat) (nu : Nat → Int32) (b : Nat) (n : Nat) (hb2 : b < 2 ^ 31) : ckI l yX5_isMissing cX5_isMissing 1 (some FieldType.boolean) { frames := 2, cells := 0, slots := 0, locals := 60 } N [.ref a] [(a, .inr (5, [.ref t, .int (nI b), .int (nI n)])), (t, .inl (N.2 0, 40, .inl nu))] (fun (r : Int32) (u : Unit) => r = (b2i (decide (b = 0)))) (fun (u : Unit) => [(a, .inr (5, [.ref t, .int (nI b), .int (nI n)])), (t, .inl (N.2 0, 40, .inl nu))]) := by
  refine ckI.of (by decide) (Nat.le_of_ble_eq_true rfl) ?_
  intro pg eg sg mg blw mth cg Ag ls hx hb hrt hml hown hlk hin hg hE hA hP hD hS hl
  have hown : sg.vm.findClass RX5 = some mg.cls := hown
  have hl : lv_has ls 1 [(0, .ref a)] := hl
  have C0 : ckC pg sg mg ([.ref a]).toArray cg cX5_isMissing 1 RX5 N Ag := ⟨⟨hx, hb, hml, hown, hg⟩, hE, hA⟩
  generalize hHe : sg.heap = H at hP
  have hS : va_S Ag sg.heap H [] := hHe ▸ hS
  refine lv_aload_n hx hb dX5_isMissing_0 rfl (lv_at hl 0 rfl) ?_
  refine va_get (ci := 5) (v := .int (nI b)) (C := RX5) (T := TX5) (N := 3) hx hb hg inX5 hown hE.1 hP 0 rfl rfl 1 (by decide) (hg _ k1_205) (fun _ h9 => h9) rfl dX5_isMissing_1 ?_
  refine ck_if0_ne (tgt := 11) hx hb dX5_isMissing_4 (by decide) (by omega) (fun cz_1 => ?_) (fun cz_1 => ?_)
  · refine lv_iconst (v := (nI 0)) hx hb dX5_isMissing_11 (by decide) ?_
    refine ck_top (y := (b2i false)) (by decide) ?_
    exact ck_zret (b := false) hx hb hrt hlk () (congrArg b2i (Eq.symm (decide_eq_false (by omega)))) hP hD hS ⟨Nat.le_of_ble_eq_true rfl, Nat.le_of_ble_eq_true rfl⟩ dX5_isMissing_12
  refine lv_iconst (v := (nI 1)) hx hb dX5_isMissing_7 (by decide) ?_
  refine lv_goto (tgt := 12) hx hb dX5_isMissing_8 (by decide) ?_
  refine ck_top (y := (b2i true)) (by decide) ?_
  exact ck_zret (b := true) hx hb hrt hlk () (congrArg b2i (Eq.symm (decide_eq_true (by omega)))) hP hD hS ⟨Nat.le_of_ble_eq_true rfl, Nat.le_of_ble_eq_true rfl⟩ dX5_isMissing_12
set_option maxHeartbeats 4000000 in
set_option maxRecDepth 100000 in
/-- X5_write -/
theorem c_X5_write (l : Launch) (N : ckN) (a : Nat) (t : Nat) (nu : Nat → Int32) (b : Nat) (n : Nat) (i : Nat) (v : Int32) (hb2 : b ≤ 32) (hi : i < 40) : ckV l yX5_write cX5_write 4 none { frames := 2, cells := 0, slots := 0, locals := 60 } N [.ref a, .int (nI i), .int v] [(a, .inr (5, [.ref t, .int (nI b), .int (nI n)])), (t, .inl (N.2 0, 40, .inl nu))] (fun (u : Unit) => True) (fun (u : Unit) => [(a, .inr (5, [.ref t, .int (nI b), .int (nI n)])), (t, .inl (N.2 0, 40, .inl (upd nu i (ckWr b v))))]) := by
  refine ckV.of (by decide) (Nat.le_of_ble_eq_true rfl) ?_
  intro pg eg sg mg blw mth cg Ag ls hx hb hrt hml hown hlk hin hg hE hA hP hD hS hl
  have hown : sg.vm.findClass RX5 = some mg.cls := hown
  have hl : lv_has ls 4 [(0, .ref a), (1, .int (nI i)), (2, .int v)] := hl
  have C0 : ckC pg sg mg ([.ref a, .int (nI i), .int v]).toArray cg cX5_write 4 RX5 N Ag := ⟨⟨hx, hb, hml, hown, hg⟩, hE, hA⟩
  generalize hHe : sg.heap = H at hP
  have hS : va_S Ag sg.heap H [] := hHe ▸ hS
  refine lv_bipush (v := (nI 32)) hx hb dX5_write_0 (by decide) ?_
  refine lv_aload_n hx hb dX5_write_2 rfl (lv_at hl 0 rfl) ?_
  refine va_get (ci := 5) (v := .int (nI b)) (C := RX5) (T := TX5) (N := 3) hx hb hg inX5 hown hE.1 hP 0 rfl rfl 1 (by decide) (hg _ k1_205) (fun _ h9 => h9) rfl dX5_write_3 ?_
  refine lv_isub hx hb dX5_write_6 ?_
  refine ck_top (y := (nI (32 - b))) (pk_sub (by omega)) ?_
  refine lv_istore_n (lv' := [(3, .int (nI (32 - b))), (0, .ref a), (1, .int (nI i)), (2, .int v)]) hx hb dX5_write_7 rfl hl (by decide) rfl (fun ls hl => ?_)
  refine lv_aload_n hx hb dX5_write_8 rfl (lv_at hl 1 rfl) ?_
  refine va_get (ci := 5) (v := .ref t) (C := RX5) (T := TX5) (N := 3) hx hb hg inX5 hown hE.1 hP 0 rfl rfl 0 (by decide) (hg _ k1_203) (fun _ h9 => h9) rfl dX5_write_9 ?_
  refine lv_iload_n hx hb dX5_write_12 rfl (lv_at hl 2 rfl) ?_
  refine lv_iload_n hx hb dX5_write_13 rfl (lv_at hl 3 rfl) ?_
  refine lv_iload_n hx hb dX5_write_14 rfl (lv_at hl 0 rfl) ?_
  refine lv_ishl hx hb dX5_write_15 ?_
  refine lv_iload_n hx hb dX5_write_16 rfl (lv_at hl 0 rfl) ?_
  refine lv_ishr hx hb dX5_write_17 ?_
  refine ck_iast hx hb hE hP hD hS 1 rfl (by omega) (by decide) dX5_write_18 (ws1 := [(a, .inr (5, [.ref t, .int (nI b), .int (nI n)])), (t, .inl (N.2 0, 40, .inl (upd nu i ((v <<< ((nI (32 - b)) &&& 31)) >>> ((nI (32 - b)) &&& 31)))))]) rfl (fun H locs hP hD hS => ?_)
  exact ck_vret hx hb hrt hlk () trivial hP hD hS ⟨Nat.le_of_ble_eq_true rfl, Nat.le_of_ble_eq_true rfl⟩ dX5_write_19
set_option maxHeartbeats 4000000 in
set_option maxRecDepth 100000 in
/-- X5_reaches -/
theorem c_X5_reaches (l : Launch) (N : ckN) (a : Nat) (t : Nat) (nu : Nat → Int32) (b : Nat) (n : Nat) (x : Int32) (y : Int32) (hn : n < 2 ^ 31) : ckI l yX5_reaches cX5_reaches 3 (some FieldType.boolean) { frames := 2, cells := 0, slots := 0, locals := 60 } N [.ref a, .int x, .int y] [(a, .inr (5, [.ref t, .int (nI b), .int (nI n)])), (t, .inl (N.2 0, 40, .inl nu))] (fun (r : Int32) (u : Unit) => r = (b2i (decide (0 ≤ x.toInt ∧ 0 ≤ y.toInt ∧ x.toInt + y.toInt ≤ (n : Int))))) (fun (u : Unit) => [(a, .inr (5, [.ref t, .int (nI b), .int (nI n)])), (t, .inl (N.2 0, 40, .inl nu))]) := by
  refine ckI.of (by decide) (Nat.le_of_ble_eq_true rfl) ?_
  intro pg eg sg mg blw mth cg Ag ls hx hb hrt hml hown hlk hin hg hE hA hP hD hS hl
  have hown : sg.vm.findClass RX5 = some mg.cls := hown
  have hl : lv_has ls 3 [(0, .ref a), (1, .int x), (2, .int y)] := hl
  have C0 : ckC pg sg mg ([.ref a, .int x, .int y]).toArray cg cX5_reaches 3 RX5 N Ag := ⟨⟨hx, hb, hml, hown, hg⟩, hE, hA⟩
  generalize hHe : sg.heap = H at hP
  have hS : va_S Ag sg.heap H [] := hHe ▸ hS
  refine lv_iload_n hx hb dX5_reaches_0 rfl (lv_at hl 1 rfl) ?_
  refine lv_if_lt (tgt := 30) hx hb dX5_reaches_1 (by decide) (fun cz_1 => ?_) (fun cz_1 => ?_)
  · refine lv_iconst (v := (nI 0)) hx hb dX5_reaches_30 (by decide) ?_
    refine ck_top (y := (b2i false)) (by decide) ?_
    exact ck_zret (b := false) hx hb hrt hlk () (by have ez : (0 : Int32).toInt = 0 := (by decide); have en := nI_toInt hn; have rx := i_rng x; have ry := i_rng y; simp only [i_lt, i_le] at cz_1;  exact congrArg b2i (Eq.symm (decide_eq_false (by omega)))) hP hD hS ⟨Nat.le_of_ble_eq_true rfl, Nat.le_of_ble_eq_true rfl⟩ dX5_reaches_31
  refine lv_iload_n hx hb dX5_reaches_4 rfl (lv_at hl 2 rfl) ?_
  refine lv_if_lt (tgt := 30) hx hb dX5_reaches_5 (by decide) (fun cz_2 => ?_) (fun cz_2 => ?_)
  · refine lv_iconst (v := (nI 0)) hx hb dX5_reaches_30 (by decide) ?_
    refine ck_top (y := (b2i false)) (by decide) ?_
    exact ck_zret (b := false) hx hb hrt hlk () (by have ez : (0 : Int32).toInt = 0 := (by decide); have en := nI_toInt hn; have rx := i_rng x; have ry := i_rng y; simp only [i_lt, i_le] at cz_1 cz_2;  exact congrArg b2i (Eq.symm (decide_eq_false (by omega)))) hP hD hS ⟨Nat.le_of_ble_eq_true rfl, Nat.le_of_ble_eq_true rfl⟩ dX5_reaches_31
  refine lv_iload_n hx hb dX5_reaches_8 rfl (lv_at hl 1 rfl) ?_
  refine lv_aload_n hx hb dX5_reaches_9 rfl (lv_at hl 0 rfl) ?_
  refine va_get (ci := 5) (v := .int (nI n)) (C := RX5) (T := TX5) (N := 3) hx hb hg inX5 hown hE.1 hP 0 rfl rfl 2 (by decide) (hg _ k1_207) (fun _ h9 => h9) rfl dX5_reaches_10 ?_
  refine lv_icmp_gt (tgt := 30) hx hb dX5_reaches_13 (by decide) (fun cz_3 => ?_) (fun cz_3 => ?_)
  · refine lv_iconst (v := (nI 0)) hx hb dX5_reaches_30 (by decide) ?_
    refine ck_top (y := (b2i false)) (by decide) ?_
    exact ck_zret (b := false) hx hb hrt hlk () (by have ez : (0 : Int32).toInt = 0 := (by decide); have en := nI_toInt hn; have rx := i_rng x; have ry := i_rng y; simp only [i_lt, i_le] at cz_1 cz_2 cz_3;  exact congrArg b2i (Eq.symm (decide_eq_false (by omega)))) hP hD hS ⟨Nat.le_of_ble_eq_true rfl, Nat.le_of_ble_eq_true rfl⟩ dX5_reaches_31
  refine lv_iload_n hx hb dX5_reaches_16 rfl (lv_at hl 2 rfl) ?_
  refine lv_aload_n hx hb dX5_reaches_17 rfl (lv_at hl 0 rfl) ?_
  refine va_get (ci := 5) (v := .int (nI n)) (C := RX5) (T := TX5) (N := 3) hx hb hg inX5 hown hE.1 hP 0 rfl rfl 2 (by decide) (hg _ k1_207) (fun _ h9 => h9) rfl dX5_reaches_18 ?_
  refine lv_iload_n hx hb dX5_reaches_21 rfl (lv_at hl 1 rfl) ?_
  refine lv_isub hx hb dX5_reaches_22 ?_
  refine lv_icmp_gt (tgt := 30) hx hb dX5_reaches_23 (by decide) (fun cz_4 => ?_) (fun cz_4 => ?_)
  · refine lv_iconst (v := (nI 0)) hx hb dX5_reaches_30 (by decide) ?_
    refine ck_top (y := (b2i false)) (by decide) ?_
    exact ck_zret (b := false) hx hb hrt hlk () (by have ez : (0 : Int32).toInt = 0 := (by decide); have en := nI_toInt hn; have rx := i_rng x; have ry := i_rng y; simp only [i_lt, i_le] at cz_1 cz_2 cz_3 cz_4; rw [fb_subI (by omega) (by omega)] at cz_4; exact congrArg b2i (Eq.symm (decide_eq_false (by omega)))) hP hD hS ⟨Nat.le_of_ble_eq_true rfl, Nat.le_of_ble_eq_true rfl⟩ dX5_reaches_31
  refine lv_iconst (v := (nI 1)) hx hb dX5_reaches_26 (by decide) ?_
  refine lv_goto (tgt := 31) hx hb dX5_reaches_27 (by decide) ?_
  refine ck_top (y := (b2i true)) (by decide) ?_
  exact ck_zret (b := true) hx hb hrt hlk () (by have ez : (0 : Int32).toInt = 0 := (by decide); have en := nI_toInt hn; have rx := i_rng x; have ry := i_rng y; simp only [i_lt, i_le] at cz_1 cz_2 cz_3 cz_4; rw [fb_subI (by omega) (by omega)] at cz_4; exact congrArg b2i (Eq.symm (decide_eq_true (by omega)))) hP hD hS ⟨Nat.le_of_ble_eq_true rfl, Nat.le_of_ble_eq_true rfl⟩ dX5_reaches_31
set_option maxHeartbeats 4000000 in
set_option maxRecDepth 100000 in
/-- X5_begin -/
theorem c_X5_begin (l : Launch) (N : ckN) (a : Nat) (t : Nat) (nu : Nat → Int32) (b : Nat) (n : Nat) (b2 : Nat) (n1 : Nat) (hb2 : b2 < 2 ^ 31) (h1 : n1 ≤ 40) : ckV l yX5_begin cX5_begin 4 none { frames := 2, cells := 0, slots := 0, locals := 60 } N [.ref a, .int (nI b2), .int (nI n1)] [(a, .inr (5, [.ref t, .int (nI b), .int (nI n)])), (t, .inl (N.2 0, 40, .inl nu))] (fun (u : (Nat → Int32) × Nat) => u.2 = (if b2 = 0 then 0 else n1) ∧ ∀ j, j < u.2 → u.1 j = 0) (fun (u : (Nat → Int32) × Nat) => [(a, .inr (5, [.ref t, .int (nI b2), .int (nI u.2)])), (t, .inl (N.2 0, 40, .inl u.1))]) := by
  refine ckV.of (by decide) (Nat.le_of_ble_eq_true rfl) ?_
  intro pg eg sg mg blw mth cg Ag ls hx hb hrt hml hown hlk hin hg hE hA hP hD hS hl
  have hown : sg.vm.findClass RX5 = some mg.cls := hown
  have hl : lv_has ls 4 [(0, .ref a), (1, .int (nI b2)), (2, .int (nI n1))] := hl
  have C0 : ckC pg sg mg ([.ref a, .int (nI b2), .int (nI n1)]).toArray cg cX5_begin 4 RX5 N Ag := ⟨⟨hx, hb, hml, hown, hg⟩, hE, hA⟩
  generalize hHe : sg.heap = H at hP
  have hS : va_S Ag sg.heap H [] := hHe ▸ hS
  refine lv_aload_n hx hb dX5_begin_0 rfl (lv_at hl 0 rfl) ?_
  refine lv_iload_n hx hb dX5_begin_1 rfl (lv_at hl 1 rfl) ?_
  refine va_put (ci := 5) (v := .int (nI b2)) (C := RX5) (T := TX5) (N := 3) hx hb hg inX5 tyX5 tyX5_ok nmX5 hown hE.1 hP hD hS 0 rfl rfl 1 (by decide) (hg _ k1_205) (fun _ h9 => h9) rfl (tyX5_ok 1 (by decide)) rfl rfl (Nat.le_of_ble_eq_true rfl) dX5_begin_2 (fun H locs hP hD hS => ?_)
  have hP : va_P N.1 vwCl [(a, .inr (5, [.ref t, .int (nI b2), .int (nI n)])), (t, .inl (N.2 0, 40, .inl nu))] H := hP
  have hD : va_D Ag [(a, .inr (5, [.ref t, .int (nI b2), .int (nI n)])), (t, .inl (N.2 0, 40, .inl nu))] := hD
  refine lv_aload_n hx hb dX5_begin_5 rfl (lv_at hl 0 rfl) ?_
  refine lv_iload_n hx hb dX5_begin_6 rfl (lv_at hl 1 rfl) ?_
  refine ck_if0_ne (tgt := 14) hx hb dX5_begin_7 (by decide) (by omega) (fun cz_1 => ?_) (fun cz_1 => ?_)
  · refine lv_iload_n hx hb dX5_begin_14 rfl (lv_at hl 2 rfl) ?_
    refine va_put (ci := 5) (v := .int (nI n1)) (C := RX5) (T := TX5) (N := 3) hx hb hg inX5 tyX5 tyX5_ok nmX5 hown hE.1 hP hD hS 0 rfl rfl 2 (by decide) (hg _ k1_207) (fun _ h9 => h9) rfl (tyX5_ok 2 (by decide)) rfl rfl (Nat.le_of_ble_eq_true rfl) dX5_begin_15 (fun H locs hP hD hS => ?_)
    have hP : va_P N.1 vwCl [(a, .inr (5, [.ref t, .int (nI b2), .int (nI n1)])), (t, .inl (N.2 0, 40, .inl nu))] H := hP
    have hD : va_D Ag [(a, .inr (5, [.ref t, .int (nI b2), .int (nI n1)])), (t, .inl (N.2 0, 40, .inl nu))] := hD
    refine lv_iconst (v := (nI 0)) hx hb dX5_begin_18 (by decide) ?_
    refine lv_istore_n (lv' := [(3, .int (nI 0)), (0, .ref a), (1, .int (nI b2)), (2, .int (nI n1))]) hx hb dX5_begin_19 rfl hl (by decide) rfl (fun ls hl => ?_)
    have lp_20 : ∀ (dz : Nat) (k : Nat) (g : Nat → Int32) (cn : Nat) (hdz : cn - k = dz) (hk : k ≤ cn) (hc : cn ≤ 40) (hce : cn = if b2 = 0 then 0 else n1) (hgz : ∀ j, j < k → g j = 0) (H : Heap) (locs : List Loc) (ls : Array Slot), va_P N.1 vwCl [(a, .inr (5, [.ref t, .int (nI b2), .int (nI cn)])), (t, .inl (N.2 0, 40, .inl g))] H → va_D Ag [(a, .inr (5, [.ref t, .int (nI b2), .int (nI cn)])), (t, .inl (N.2 0, 40, .inl g))] → va_S Ag sg.heap H locs → lv_has ls 4 [(3, .int (nI k)), (0, .ref a), (1, .int (nI b2)), (2, .int (nI n1))] → W pg l eg { frames := 2, cells := 0, slots := 0, locals := 60 } sg mg ([.ref a, .int (nI b2), .int (nI n1)]).toArray blw mth cg H locs 0 0 (ckQv N Ag blw sg ([.ref a, .int (nI b2), .int (nI n1)]).toArray { frames := 2, cells := 0, slots := 0, locals := 60 } (fun (u : (Nat → Int32) × Nat) => u.2 = (if b2 = 0 then 0 else n1) ∧ ∀ j, j < u.2 → u.1 j = 0) (fun (u : (Nat → Int32) × Nat) => [(a, .inr (5, [.ref t, .int (nI b2), .int (nI u.2)])), (t, .inl (N.2 0, 40, .inl u.1))])) (F0 mg 20 ls []) := by
      intro dz
      induction dz using Nat.strongRecOn with
      | _ dz ih_20 =>
        intro k g cn hdz hk hc hce hgz H locs ls hP hD hS hl
        subst hdz
        refine lv_iload_n hx hb dX5_begin_20 rfl (lv_at hl 0 rfl) ?_
        refine lv_aload_n hx hb dX5_begin_21 rfl (lv_at hl 1 rfl) ?_
        refine va_get (ci := 5) (v := .int (nI cn)) (C := RX5) (T := TX5) (N := 3) hx hb hg inX5 hown hE.1 hP 0 rfl rfl 2 (by decide) (hg _ k1_207) (fun _ h9 => h9) rfl dX5_begin_22 ?_
        refine ck_ic_ge (tgt := 41) hx hb dX5_begin_25 (by decide) (by omega) (by omega) (fun cz_2 => ?_) (fun cz_2 => ?_)
        · exact ck_vret hx hb hrt hlk ⟨g, cn⟩ ⟨hce, fun j hj => hgz j (by omega)⟩ hP hD hS ⟨Nat.le_of_ble_eq_true rfl, Nat.le_of_ble_eq_true rfl⟩ dX5_begin_41
        refine lv_aload_n hx hb dX5_begin_28 rfl (lv_at hl 1 rfl) ?_
        refine va_get (ci := 5) (v := .ref t) (C := RX5) (T := TX5) (N := 3) hx hb hg inX5 hown hE.1 hP 0 rfl rfl 0 (by decide) (hg _ k1_203) (fun _ h9 => h9) rfl dX5_begin_29 ?_
        refine lv_iload_n hx hb dX5_begin_32 rfl (lv_at hl 0 rfl) ?_
        refine lv_iconst (v := (nI 0)) hx hb dX5_begin_33 (by decide) ?_
        refine ck_iast hx hb hE hP hD hS 1 rfl (by omega) (by decide) dX5_begin_34 (ws1 := [(a, .inr (5, [.ref t, .int (nI b2), .int (nI cn)])), (t, .inl (N.2 0, 40, .inl (upd g k (nI 0))))]) rfl (fun H locs hP hD hS => ?_)
        refine lv_iinc (v := (nI (k + 1))) (lv' := [(3, .int (nI (k + 1))), (0, .ref a), (1, .int (nI b2)), (2, .int (nI n1))]) hx hb dX5_begin_35 hl (k := 0) rfl (nI_1 _) (by decide) rfl (fun ls hl => ?_)
        refine lv_goto (tgt := 20) hx hb dX5_begin_38 (by decide) ?_
        exact ih_20 _ (by omega) (k + 1) (upd g k (nI 0)) cn rfl (by omega) (by omega) hce (ck_fill hgz rfl) _ _ ls hP hD hS hl
    exact lp_20 _ 0 nu n1 rfl (by omega) (by omega) (by simp [cz_1]) (fun j hj => absurd hj (Nat.not_lt_zero j)) _ _ ls hP hD hS hl
  refine lv_iconst (v := (nI 0)) hx hb dX5_begin_10 (by decide) ?_
  refine lv_goto (tgt := 15) hx hb dX5_begin_11 (by decide) ?_
  refine va_put (ci := 5) (v := .int (nI 0)) (C := RX5) (T := TX5) (N := 3) hx hb hg inX5 tyX5 tyX5_ok nmX5 hown hE.1 hP hD hS 0 rfl rfl 2 (by decide) (hg _ k1_207) (fun _ h9 => h9) rfl (tyX5_ok 2 (by decide)) rfl rfl (Nat.le_of_ble_eq_true rfl) dX5_begin_15 (fun H locs hP hD hS => ?_)
  have hP : va_P N.1 vwCl [(a, .inr (5, [.ref t, .int (nI b2), .int (nI 0)])), (t, .inl (N.2 0, 40, .inl nu))] H := hP
  have hD : va_D Ag [(a, .inr (5, [.ref t, .int (nI b2), .int (nI 0)])), (t, .inl (N.2 0, 40, .inl nu))] := hD
  refine lv_iconst (v := (nI 0)) hx hb dX5_begin_18 (by decide) ?_
  refine lv_istore_n (lv' := [(3, .int (nI 0)), (0, .ref a), (1, .int (nI b2)), (2, .int (nI n1))]) hx hb dX5_begin_19 rfl hl (by decide) rfl (fun ls hl => ?_)
  have lp_20 : ∀ (dz : Nat) (k : Nat) (g : Nat → Int32) (cn : Nat) (hdz : cn - k = dz) (hk : k ≤ cn) (hc : cn ≤ 40) (hce : cn = if b2 = 0 then 0 else n1) (hgz : ∀ j, j < k → g j = 0) (H : Heap) (locs : List Loc) (ls : Array Slot), va_P N.1 vwCl [(a, .inr (5, [.ref t, .int (nI b2), .int (nI cn)])), (t, .inl (N.2 0, 40, .inl g))] H → va_D Ag [(a, .inr (5, [.ref t, .int (nI b2), .int (nI cn)])), (t, .inl (N.2 0, 40, .inl g))] → va_S Ag sg.heap H locs → lv_has ls 4 [(3, .int (nI k)), (0, .ref a), (1, .int (nI b2)), (2, .int (nI n1))] → W pg l eg { frames := 2, cells := 0, slots := 0, locals := 60 } sg mg ([.ref a, .int (nI b2), .int (nI n1)]).toArray blw mth cg H locs 0 0 (ckQv N Ag blw sg ([.ref a, .int (nI b2), .int (nI n1)]).toArray { frames := 2, cells := 0, slots := 0, locals := 60 } (fun (u : (Nat → Int32) × Nat) => u.2 = (if b2 = 0 then 0 else n1) ∧ ∀ j, j < u.2 → u.1 j = 0) (fun (u : (Nat → Int32) × Nat) => [(a, .inr (5, [.ref t, .int (nI b2), .int (nI u.2)])), (t, .inl (N.2 0, 40, .inl u.1))])) (F0 mg 20 ls []) := by
    intro dz
    induction dz using Nat.strongRecOn with
    | _ dz ih_20 =>
      intro k g cn hdz hk hc hce hgz H locs ls hP hD hS hl
      subst hdz
      refine lv_iload_n hx hb dX5_begin_20 rfl (lv_at hl 0 rfl) ?_
      refine lv_aload_n hx hb dX5_begin_21 rfl (lv_at hl 1 rfl) ?_
      refine va_get (ci := 5) (v := .int (nI cn)) (C := RX5) (T := TX5) (N := 3) hx hb hg inX5 hown hE.1 hP 0 rfl rfl 2 (by decide) (hg _ k1_207) (fun _ h9 => h9) rfl dX5_begin_22 ?_
      refine ck_ic_ge (tgt := 41) hx hb dX5_begin_25 (by decide) (by omega) (by omega) (fun cz_3 => ?_) (fun cz_3 => ?_)
      · exact ck_vret hx hb hrt hlk ⟨g, cn⟩ ⟨hce, fun j hj => hgz j (by omega)⟩ hP hD hS ⟨Nat.le_of_ble_eq_true rfl, Nat.le_of_ble_eq_true rfl⟩ dX5_begin_41
      refine lv_aload_n hx hb dX5_begin_28 rfl (lv_at hl 1 rfl) ?_
      refine va_get (ci := 5) (v := .ref t) (C := RX5) (T := TX5) (N := 3) hx hb hg inX5 hown hE.1 hP 0 rfl rfl 0 (by decide) (hg _ k1_203) (fun _ h9 => h9) rfl dX5_begin_29 ?_
      refine lv_iload_n hx hb dX5_begin_32 rfl (lv_at hl 0 rfl) ?_
      refine lv_iconst (v := (nI 0)) hx hb dX5_begin_33 (by decide) ?_
      refine ck_iast hx hb hE hP hD hS 1 rfl (by omega) (by decide) dX5_begin_34 (ws1 := [(a, .inr (5, [.ref t, .int (nI b2), .int (nI cn)])), (t, .inl (N.2 0, 40, .inl (upd g k (nI 0))))]) rfl (fun H locs hP hD hS => ?_)
      refine lv_iinc (v := (nI (k + 1))) (lv' := [(3, .int (nI (k + 1))), (0, .ref a), (1, .int (nI b2)), (2, .int (nI n1))]) hx hb dX5_begin_35 hl (k := 0) rfl (nI_1 _) (by decide) rfl (fun ls hl => ?_)
      refine lv_goto (tgt := 20) hx hb dX5_begin_38 (by decide) ?_
      exact ih_20 _ (by omega) (k + 1) (upd g k (nI 0)) cn rfl (by omega) (by omega) hce (ck_fill hgz rfl) _ _ ls hP hD hS hl
  exact lp_20 _ 0 nu 0 rfl (by omega) (by omega) (by simp [cz_1]) (fun j hj => absurd hj (Nat.not_lt_zero j)) _ _ ls hP hD hS hl
set_option maxHeartbeats 4000000 in
set_option maxRecDepth 100000 in
/-- X5_isWithin -/
theorem c_X5_isWithin (l : Launch) (N : ckN) (a : Nat) (t : Nat) (nu : Nat → Int32) (b : Nat) (n : Nat) (M : Nat) (hn : n ≤ 40) (hM : M < 2 ^ 31) : ckI l yX5_isWithin cX5_isWithin 3 (some FieldType.boolean) { frames := 2, cells := 0, slots := 0, locals := 60 } N [.ref a, .int (nI M)] [(a, .inr (5, [.ref t, .int (nI b), .int (nI n)])), (t, .inl (N.2 0, 40, .inl nu))] (fun (r : Int32) (u : Unit) => r = (b2i (ckWithin nu n M))) (fun (u : Unit) => [(a, .inr (5, [.ref t, .int (nI b), .int (nI n)])), (t, .inl (N.2 0, 40, .inl nu))]) := by
  refine ckI.of (by decide) (Nat.le_of_ble_eq_true rfl) ?_
  intro pg eg sg mg blw mth cg Ag ls hx hb hrt hml hown hlk hin hg hE hA hP hD hS hl
  have hown : sg.vm.findClass RX5 = some mg.cls := hown
  have hl : lv_has ls 3 [(0, .ref a), (1, .int (nI M))] := hl
  have C0 : ckC pg sg mg ([.ref a, .int (nI M)]).toArray cg cX5_isWithin 3 RX5 N Ag := ⟨⟨hx, hb, hml, hown, hg⟩, hE, hA⟩
  generalize hHe : sg.heap = H at hP
  have hS : va_S Ag sg.heap H [] := hHe ▸ hS
  refine lv_iconst (v := (nI 0)) hx hb dX5_isWithin_0 (by decide) ?_
  refine lv_istore_n (lv' := [(2, .int (nI 0)), (0, .ref a), (1, .int (nI M))]) hx hb dX5_isWithin_1 rfl hl (by decide) rfl (fun ls hl => ?_)
  have lp_2 : ∀ (dz : Nat) (k : Nat) (hdz : n - k = dz) (hk : k ≤ n) (hz : ∀ i, i < k → ckIn (nu i) (nI 0) (nI M) = true) (H : Heap) (locs : List Loc) (ls : Array Slot), va_P N.1 vwCl [(a, .inr (5, [.ref t, .int (nI b), .int (nI n)])), (t, .inl (N.2 0, 40, .inl nu))] H → va_D Ag [(a, .inr (5, [.ref t, .int (nI b), .int (nI n)])), (t, .inl (N.2 0, 40, .inl nu))] → va_S Ag sg.heap H locs → lv_has ls 3 [(2, .int (nI k)), (0, .ref a), (1, .int (nI M))] → W pg l eg { frames := 2, cells := 0, slots := 0, locals := 60 } sg mg ([.ref a, .int (nI M)]).toArray blw mth cg H locs 0 0 (ckQi N Ag blw sg ([.ref a, .int (nI M)]).toArray { frames := 2, cells := 0, slots := 0, locals := 60 } (fun (r : Int32) (u : Unit) => r = (b2i (ckWithin nu n M))) (fun (u : Unit) => [(a, .inr (5, [.ref t, .int (nI b), .int (nI n)])), (t, .inl (N.2 0, 40, .inl nu))])) (F0 mg 2 ls []) := by
    intro dz
    induction dz using Nat.strongRecOn with
    | _ dz ih_2 =>
      intro k hdz hk hz H locs ls hP hD hS hl
      subst hdz
      refine lv_iload_n hx hb dX5_isWithin_2 rfl (lv_at hl 0 rfl) ?_
      refine lv_aload_n hx hb dX5_isWithin_3 rfl (lv_at hl 1 rfl) ?_
      refine va_get (ci := 5) (v := .int (nI n)) (C := RX5) (T := TX5) (N := 3) hx hb hg inX5 hown hE.1 hP 0 rfl rfl 2 (by decide) (hg _ k1_207) (fun _ h9 => h9) rfl dX5_isWithin_4 ?_
      refine ck_ic_ge (tgt := 37) hx hb dX5_isWithin_7 (by decide) (by omega) (by omega) (fun cz_1 => ?_) (fun cz_1 => ?_)
      · refine lv_iconst (v := (nI 1)) hx hb dX5_isWithin_37 (by decide) ?_
        refine ck_top (y := (b2i true)) (by decide) ?_
        exact ck_zret (b := true) hx hb hrt hlk () (congrArg b2i (Eq.symm (decide_eq_true (fun i hi => hz i (by omega))))) hP hD hS ⟨Nat.le_of_ble_eq_true rfl, Nat.le_of_ble_eq_true rfl⟩ dX5_isWithin_38
      refine lv_aload_n hx hb dX5_isWithin_10 rfl (lv_at hl 1 rfl) ?_
      refine va_get (ci := 5) (v := .ref t) (C := RX5) (T := TX5) (N := 3) hx hb hg inX5 hown hE.1 hP 0 rfl rfl 0 (by decide) (hg _ k1_203) (fun _ h9 => h9) rfl dX5_isWithin_11 ?_
      refine lv_iload_n hx hb dX5_isWithin_14 rfl (lv_at hl 0 rfl) ?_
      refine ck_iald hx hb hE hP 1 rfl (by omega) (by decide) dX5_isWithin_15 ?_
      refine lv_if_lt (tgt := 29) hx hb dX5_isWithin_16 (by decide) (fun cz_2 => ?_) (fun cz_2 => ?_)
      · refine lv_iconst (v := (nI 0)) hx hb dX5_isWithin_29 (by decide) ?_
        refine ck_top (y := (b2i false)) (by decide) ?_
        exact ck_zret (b := false) hx hb hrt hlk () (congrArg b2i (Eq.symm (decide_eq_false (fun hh => by have hq := ckIn_iff.mp (hh k (by omega)); rw [nI_toInt (by omega), nI_toInt (by omega)] at hq; have ez : (0 : Int32).toInt = 0 := (by decide); have eM := nI_toInt hM; simp only [i_lt, i_le] at cz_2; omega)))) hP hD hS ⟨Nat.le_of_ble_eq_true rfl, Nat.le_of_ble_eq_true rfl⟩ dX5_isWithin_30
      refine lv_aload_n hx hb dX5_isWithin_19 rfl (lv_at hl 1 rfl) ?_
      refine va_get (ci := 5) (v := .ref t) (C := RX5) (T := TX5) (N := 3) hx hb hg inX5 hown hE.1 hP 0 rfl rfl 0 (by decide) (hg _ k1_203) (fun _ h9 => h9) rfl dX5_isWithin_20 ?_
      refine lv_iload_n hx hb dX5_isWithin_23 rfl (lv_at hl 0 rfl) ?_
      refine ck_iald hx hb hE hP 1 rfl (by omega) (by decide) dX5_isWithin_24 ?_
      refine lv_iload_n hx hb dX5_isWithin_25 rfl (lv_at hl 2 rfl) ?_
      refine lv_icmp_le (tgt := 31) hx hb dX5_isWithin_26 (by decide) (fun cz_3 => ?_) (fun cz_3 => ?_)
      · refine lv_iinc (v := (nI (k + 1))) (lv' := [(2, .int (nI (k + 1))), (0, .ref a), (1, .int (nI M))]) hx hb dX5_isWithin_31 hl (k := 0) rfl (nI_1 _) (by decide) rfl (fun ls hl => ?_)
        refine lv_goto (tgt := 2) hx hb dX5_isWithin_34 (by decide) ?_
        exact ih_2 _ (by omega) (k + 1) rfl (by omega) (lt_s hz (by rw [ckIn_iff, nI_toInt (by omega), nI_toInt (by omega)]; have ez : (0 : Int32).toInt = 0 := (by decide); have eM := nI_toInt hM; simp only [i_lt, i_le] at cz_2 cz_3; omega)) _ _ ls hP hD hS hl
      refine lv_iconst (v := (nI 0)) hx hb dX5_isWithin_29 (by decide) ?_
      refine ck_top (y := (b2i false)) (by decide) ?_
      exact ck_zret (b := false) hx hb hrt hlk () (congrArg b2i (Eq.symm (decide_eq_false (fun hh => by have hq := ckIn_iff.mp (hh k (by omega)); rw [nI_toInt (by omega), nI_toInt (by omega)] at hq; have ez : (0 : Int32).toInt = 0 := (by decide); have eM := nI_toInt hM; simp only [i_lt, i_le] at cz_2 cz_3; omega)))) hP hD hS ⟨Nat.le_of_ble_eq_true rfl, Nat.le_of_ble_eq_true rfl⟩ dX5_isWithin_30
  exact lp_2 _ 0 rfl (by omega) (fun j hj => absurd hj (Nat.not_lt_zero j)) _ _ ls hP hD hS hl
