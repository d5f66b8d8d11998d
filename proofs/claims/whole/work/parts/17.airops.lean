set_option maxHeartbeats 4000000 in
set_option maxRecDepth 100000 in
/-- X10_finding -/
theorem c_X10_finding (l : Launch) (N : ckN) (km : Nat) (sa : Nat) (hs : Nat) (shs : Nat) (ja : Nat) (uu : Nat) (tb : Nat) (ob : Nat) (fd : Int32) (v : Int32)  : ckI l yX10_finding cX10_finding 2 (some FieldType.int) { frames := 2, cells := 0, slots := 0, locals := 60 } N [.ref km, .int v] [(km, .inr (10, [.ref sa, .ref hs, .ref shs, .ref ja, .ref uu, .ref tb, .ref ob, .int fd]))] (fun (r : Int32) (u : Unit) => r = v) (fun (u : Unit) => [(km, .inr (10, [.ref sa, .ref hs, .ref shs, .ref ja, .ref uu, .ref tb, .ref ob, .int (fd + nI 1)]))]) := by
  refine ckI.of (by decide) (Nat.le_of_ble_eq_true rfl) ?_
  intro pg eg sg mg blw mth cg Ag ls hx hb hrt hml hown hlk hin hg hE hA hP hD hS hl
  have hown : sg.vm.findClass RX10 = some mg.cls := hown
  have hl : lv_has ls 2 [(0, .ref km), (1, .int v)] := hl
  have C0 : ckC pg sg mg ([.ref km, .int v]).toArray cg cX10_finding 2 RX10 N Ag := ⟨⟨hx, hb, hml, hown, hg⟩, hE, hA⟩
  generalize hHe : sg.heap = H at hP
  have hS : va_S Ag sg.heap H [] := hHe ▸ hS
  refine lv_aload_n hx hb dX10_finding_0 rfl (lv_at hl 0 rfl) ?_
  refine lv_dup hx hb dX10_finding_1 rfl ?_
  refine va_get (ci := 10) (v := .int fd) (C := RX10) (T := TX10) (N := 8) hx hb hg inX10 hown hE.1 hP 0 rfl rfl 7 (by decide) (hg _ k1_223) (fun _ h9 => h9) rfl dX10_finding_2 ?_
  refine lv_iconst (v := (nI 1)) hx hb dX10_finding_5 (by decide) ?_
  refine lv_iadd hx hb dX10_finding_6 ?_
  refine va_put (ci := 10) (v := .int (fd + (nI 1))) (C := RX10) (T := TX10) (N := 8) hx hb hg inX10 tyX10 tyX10_ok nmX10 hown hE.1 hP hD hS 0 rfl rfl 7 (by decide) (hg _ k1_223) (fun _ h9 => h9) rfl (tyX10_ok 7 (by decide)) rfl rfl (Nat.le_of_ble_eq_true rfl) dX10_finding_7 (fun H locs hP hD hS => ?_)
  have hP : va_P N.1 vwCl [(km, .inr (10, [.ref sa, .ref hs, .ref shs, .ref ja, .ref uu, .ref tb, .ref ob, .int (fd + (nI 1))]))] H := hP
  have hD : va_D Ag [(km, .inr (10, [.ref sa, .ref hs, .ref shs, .ref ja, .ref uu, .ref tb, .ref ob, .int (fd + (nI 1))]))] := hD
  refine lv_iload_n hx hb dX10_finding_10 rfl (lv_at hl 1 rfl) ?_
  exact ck_iret hx hb hrt hlk () rfl hP hD hS ⟨Nat.le_of_ble_eq_true rfl, Nat.le_of_ble_eq_true rfl⟩ dX10_finding_11
set_option maxHeartbeats 4000000 in
set_option maxRecDepth 100000 in
/-- X10_as -/
theorem c_X10_as (l : Launch) (N : ckN) (km : Nat) (sa : Nat) (hs : Nat) (shs : Nat) (ja : Nat) (uu : Nat) (tb : Nat) (ob : Nat) (fd : Int32) (a : Nat) (fl : Nat) (t : Nat) (wi : Nat) (nr : Nat) (tr : Nat → Int32) (cf : Nat) (ra : Nat) (kd : Nat → Nat) (ht : Nat → Nat) (dr : Nat → Nat) (di : Nat → Int32) (x : Int32) (y : Int32) (hAir : ckAir tr di cf kd ht dr) : ckI l yX10_as cX10_as 3 (some FieldType.int) { frames := 3, cells := 0, slots := 0, locals := 83 } N [.ref km, .int x, .int y] [(km, .inr (10, [.ref sa, .ref hs, .ref shs, .ref ja, .ref uu, .ref tb, .ref ob, .int fd])), (sa, .inr (6, [.ref a, .ref ra])), (a, .inr (0, [.ref fl, .ref wi, .ref nr])), (fl, .inr (1, [.ref t, .int (nI cf)])), (t, .inl (N.2 0, 64, .inl tr))] (fun (r : Int32) (u : Int32) => ckRd (asF cf kd x y) (x) fd r u) (fun (u : Int32) => [(km, .inr (10, [.ref sa, .ref hs, .ref shs, .ref ja, .ref uu, .ref tb, .ref ob, .int u])), (sa, .inr (6, [.ref a, .ref ra])), (a, .inr (0, [.ref fl, .ref wi, .ref nr])), (fl, .inr (1, [.ref t, .int (nI cf)])), (t, .inl (N.2 0, 64, .inl tr))]) := by
  refine ckI.of (by decide) (Nat.le_of_ble_eq_true rfl) ?_
  intro pg eg sg mg blw mth cg Ag ls hx hb hrt hml hown hlk hin hg hE hA hP hD hS hl
  have hown : sg.vm.findClass RX10 = some mg.cls := hown
  have hl : lv_has ls 3 [(0, .ref km), (1, .int x), (2, .int y)] := hl
  have C0 : ckC pg sg mg ([.ref km, .int x, .int y]).toArray cg cX10_as 3 RX10 N Ag := ⟨⟨hx, hb, hml, hown, hg⟩, hE, hA⟩
  generalize hHe : sg.heap = H at hP
  have hS : va_S Ag sg.heap H [] := hHe ▸ hS
  have hn8 := hAir.1
  refine lv_aload_n hx hb dX10_as_0 rfl (lv_at hl 0 rfl) ?_
  refine va_get (ci := 10) (v := .ref sa) (C := RX10) (T := TX10) (N := 8) hx hb hg inX10 hown hE.1 hP 0 rfl rfl 0 (by decide) (hg _ k1_216) (fun _ h9 => h9) rfl dX10_as_1 ?_
  refine va_getN (ci := 6) (v := .ref a) (C := RX6) (T := TX6) (N := 2) (host := "KiteMeet") hx hb hg inX6 hown hE.1 hP 1 rfl rfl 0 (by decide) (hE.nf 15 rfl _) (fun _ h9 => h9) rfl dX10_as_4 ?_
  refine va_getN (ci := 0) (v := .ref fl) (C := RX0) (T := TX0) (N := 3) (host := "KiteMeet") hx hb hg inX0 hown hE.1 hP 2 rfl rfl 0 (by decide) (hE.nf 3 rfl _) (fun _ h9 => h9) rfl dX10_as_7 ?_
  refine lv_iload_n hx hb dX10_as_10 rfl (lv_at hl 1 rfl) ?_
  refine ck_Vi (As := [.int x]) (rest := []) (wr := [(km, .inr (10, [.ref sa, .ref hs, .ref shs, .ref ja, .ref uu, .ref tb, .ref ob, .int fd])), (sa, .inr (6, [.ref a, .ref ra])), (a, .inr (0, [.ref fl, .ref wi, .ref nr]))]) C0 hP hD hS (c_X1_have l N fl t tr cf x (by omega)) myX1_have k2_97 ⟨Nat.le_of_ble_eq_true rfl, Nat.le_of_ble_eq_true rfl⟩ [3, 4] [0, 1, 2] ⟨⟨rfl, rfl⟩, by decide, by decide, by decide⟩ 3 rfl rfl rfl rfl hl.1 rfl (Nat.le_of_ble_eq_true rfl) dX10_as_11 ⟨Nat.le_of_ble_eq_true rfl, Nat.le_of_ble_eq_true rfl⟩ (fun r_1 u0 H locs hw0 hP hD hS => ?_)
  have hw_2 : r_1 = (b2i (ckLt x cf)) := hw0
  subst hw_2
  have hP : va_P N.1 vwCl [(km, .inr (10, [.ref sa, .ref hs, .ref shs, .ref ja, .ref uu, .ref tb, .ref ob, .int fd])), (sa, .inr (6, [.ref a, .ref ra])), (a, .inr (0, [.ref fl, .ref wi, .ref nr])), (fl, .inr (1, [.ref t, .int (nI cf)])), (t, .inl (N.2 0, 64, .inl tr))] H := hP
  have hD : va_D Ag [(km, .inr (10, [.ref sa, .ref hs, .ref shs, .ref ja, .ref uu, .ref tb, .ref ob, .int fd])), (sa, .inr (6, [.ref a, .ref ra])), (a, .inr (0, [.ref fl, .ref wi, .ref nr])), (fl, .inr (1, [.ref t, .int (nI cf)])), (t, .inl (N.2 0, 64, .inl tr))] := hD
  refine ck_ifeq (b := ckLt x cf) (tgt := 24) hx hb dX10_as_14 (by decide) (fun cz_3 => ?_) (fun cz_3 => ?_)
  · refine lv_aload_n hx hb dX10_as_24 rfl (lv_at hl 0 rfl) ?_
    refine lv_ldc (own := RX10) (v := (-100001)) hx hb hown (hg _ k2_14) dX10_as_25 ?_
    refine ck_Vi (As := [.int (-100001)]) (rest := []) (wr := [(sa, .inr (6, [.ref a, .ref ra])), (a, .inr (0, [.ref fl, .ref wi, .ref nr])), (fl, .inr (1, [.ref t, .int (nI cf)])), (t, .inl (N.2 0, 64, .inl tr))]) C0 hP hD hS (c_X10_finding l N km sa hs shs ja uu tb ob fd (-100001) ) myX10_finding k2_15 ⟨Nat.le_of_ble_eq_true rfl, Nat.le_of_ble_eq_true rfl⟩ [0] [1, 2, 3, 4] ⟨⟨rfl, rfl⟩, by decide, by decide, by decide⟩ 0 rfl rfl rfl rfl hl.1 rfl (Nat.le_of_ble_eq_true rfl) dX10_as_27 ⟨Nat.le_of_ble_eq_true rfl, Nat.le_of_ble_eq_true rfl⟩ (fun r_4 u0 H locs hw0 hP hD hS => ?_)
    have hw_5 : r_4 = (-100001) := hw0
    subst hw_5
    have hP : va_P N.1 vwCl [(sa, .inr (6, [.ref a, .ref ra])), (a, .inr (0, [.ref fl, .ref wi, .ref nr])), (fl, .inr (1, [.ref t, .int (nI cf)])), (t, .inl (N.2 0, 64, .inl tr)), (km, .inr (10, [.ref sa, .ref hs, .ref shs, .ref ja, .ref uu, .ref tb, .ref ob, .int (fd + nI 1)]))] H := hP
    have hD : va_D Ag [(sa, .inr (6, [.ref a, .ref ra])), (a, .inr (0, [.ref fl, .ref wi, .ref nr])), (fl, .inr (1, [.ref t, .int (nI cf)])), (t, .inl (N.2 0, 64, .inl tr)), (km, .inr (10, [.ref sa, .ref hs, .ref shs, .ref ja, .ref uu, .ref tb, .ref ob, .int (fd + nI 1)]))] := hD
    exact ck_iret hx hb hrt hlk ((fd + nI 1)) (ckRd_f (by simp [asF, cz_3]) (by decide)) (hP.sub [4, 0, 1, 2, 3] rfl) (hD.sub [4, 0, 1, 2, 3] (by decide) rfl) hS ⟨Nat.le_of_ble_eq_true rfl, Nat.le_of_ble_eq_true rfl⟩ dX10_as_30
  refine lv_iload_n hx hb dX10_as_17 rfl (lv_at hl 2 rfl) ?_
  refine ck_Si (As := [.int y]) (rest := []) (wr := [(km, .inr (10, [.ref sa, .ref hs, .ref shs, .ref ja, .ref uu, .ref tb, .ref ob, .int fd])), (sa, .inr (6, [.ref a, .ref ra])), (a, .inr (0, [.ref fl, .ref wi, .ref nr])), (fl, .inr (1, [.ref t, .int (nI cf)])), (t, .inl (N.2 0, 64, .inl tr))]) C0 hP hD hS (c_X10_isKind l N y ) myX10_isKind k2_5 ⟨Nat.le_of_ble_eq_true rfl, Nat.le_of_ble_eq_true rfl⟩ [] [0, 1, 2, 3, 4] ⟨⟨rfl, rfl⟩, by decide, by decide, by decide⟩ rfl hl.1 rfl (Nat.le_of_ble_eq_true rfl) dX10_as_18 ⟨Nat.le_of_ble_eq_true rfl, Nat.le_of_ble_eq_true rfl⟩ (fun r_6 u0 H locs hw0 hP hD hS => ?_)
  have hw_7 : r_6 = (b2i (ckIn y (nI 0) (nI 3))) := hw0
  subst hw_7
  have hP : va_P N.1 vwCl [(km, .inr (10, [.ref sa, .ref hs, .ref shs, .ref ja, .ref uu, .ref tb, .ref ob, .int fd])), (sa, .inr (6, [.ref a, .ref ra])), (a, .inr (0, [.ref fl, .ref wi, .ref nr])), (fl, .inr (1, [.ref t, .int (nI cf)])), (t, .inl (N.2 0, 64, .inl tr))] H := hP
  have hD : va_D Ag [(km, .inr (10, [.ref sa, .ref hs, .ref shs, .ref ja, .ref uu, .ref tb, .ref ob, .int fd])), (sa, .inr (6, [.ref a, .ref ra])), (a, .inr (0, [.ref fl, .ref wi, .ref nr])), (fl, .inr (1, [.ref t, .int (nI cf)])), (t, .inl (N.2 0, 64, .inl tr))] := hD
  refine ck_ifne (b := ckIn y (nI 0) (nI 3)) (tgt := 31) hx hb dX10_as_21 (by decide) (fun cz_8 => ?_) (fun cz_8 => ?_)
  · obtain ⟨i, hi, rfl⟩ := (ckLt_t (by omega)).mp cz_3
    have exi : ix (nI i) = i := ix_nI (by omega)
    obtain ⟨k, -, hk, rfl⟩ := (ckIn_n (by decide) (by decide)).mp cz_8
    have exk : ix (nI k) = k := ix_nI (by omega)
    obtain ⟨hki, hk4, -, -⟩ := hAir.2.1 i hi
    refine lv_aload_n hx hb dX10_as_31 rfl (lv_at hl 0 rfl) ?_
    refine va_get (ci := 10) (v := .ref sa) (C := RX10) (T := TX10) (N := 8) hx hb hg inX10 hown hE.1 hP 0 rfl rfl 0 (by decide) (hg _ k1_216) (fun _ h9 => h9) rfl dX10_as_32 ?_
    refine va_getN (ci := 6) (v := .ref a) (C := RX6) (T := TX6) (N := 2) (host := "KiteMeet") hx hb hg inX6 hown hE.1 hP 1 rfl rfl 0 (by decide) (hE.nf 15 rfl _) (fun _ h9 => h9) rfl dX10_as_35 ?_
    refine va_getN (ci := 0) (v := .ref fl) (C := RX0) (T := TX0) (N := 3) (host := "KiteMeet") hx hb hg inX0 hown hE.1 hP 2 rfl rfl 0 (by decide) (hE.nf 3 rfl _) (fun _ h9 => h9) rfl dX10_as_38 ?_
    refine lv_iload_n hx hb dX10_as_41 rfl (lv_at hl 1 rfl) ?_
    refine lv_iconst (v := (nI 0)) hx hb dX10_as_42 (by decide) ?_
    refine ck_Vi (As := [.int (nI i), .int (nI 0)]) (rest := []) (wr := [(km, .inr (10, [.ref sa, .ref hs, .ref shs, .ref ja, .ref uu, .ref tb, .ref ob, .int fd])), (sa, .inr (6, [.ref a, .ref ra])), (a, .inr (0, [.ref fl, .ref wi, .ref nr]))]) C0 hP hD hS (c_X1_told l N fl t tr cf i 0 (by omega)) myX1_told k2_101 ⟨Nat.le_of_ble_eq_true rfl, Nat.le_of_ble_eq_true rfl⟩ [3, 4] [0, 1, 2] ⟨⟨rfl, rfl⟩, by decide, by decide, by decide⟩ 3 rfl rfl rfl rfl hl.1 rfl (Nat.le_of_ble_eq_true rfl) dX10_as_43 ⟨Nat.le_of_ble_eq_true rfl, Nat.le_of_ble_eq_true rfl⟩ (fun r_9 u0 H locs hw0 hP hD hS => ?_)
    have hw_10 : r_9 = (tr (i * 8 + 0)) := hw0
    subst hw_10
    have hP : va_P N.1 vwCl [(km, .inr (10, [.ref sa, .ref hs, .ref shs, .ref ja, .ref uu, .ref tb, .ref ob, .int fd])), (sa, .inr (6, [.ref a, .ref ra])), (a, .inr (0, [.ref fl, .ref wi, .ref nr])), (fl, .inr (1, [.ref t, .int (nI cf)])), (t, .inl (N.2 0, 64, .inl tr))] H := hP
    have hD : va_D Ag [(km, .inr (10, [.ref sa, .ref hs, .ref shs, .ref ja, .ref uu, .ref tb, .ref ob, .int fd])), (sa, .inr (6, [.ref a, .ref ra])), (a, .inr (0, [.ref fl, .ref wi, .ref nr])), (fl, .inr (1, [.ref t, .int (nI cf)])), (t, .inl (N.2 0, 64, .inl tr))] := hD
    refine ck_top (y := (nI (kd i))) hki ?_
    refine lv_iload_n hx hb dX10_as_46 rfl (lv_at hl 2 rfl) ?_
    refine ck_Si (As := [.int (nI (kd i)), .int (nI k)]) (rest := []) (wr := [(km, .inr (10, [.ref sa, .ref hs, .ref shs, .ref ja, .ref uu, .ref tb, .ref ob, .int fd])), (sa, .inr (6, [.ref a, .ref ra])), (a, .inr (0, [.ref fl, .ref wi, .ref nr])), (fl, .inr (1, [.ref t, .int (nI cf)])), (t, .inl (N.2 0, 64, .inl tr))]) C0 hP hD hS (c_X10_isUnder l N (kd i) k (by omega) (by omega)) myX10_isUnder k2_105 ⟨Nat.le_of_ble_eq_true rfl, Nat.le_of_ble_eq_true rfl⟩ [] [0, 1, 2, 3, 4] ⟨⟨rfl, rfl⟩, by decide, by decide, by decide⟩ rfl hl.1 rfl (Nat.le_of_ble_eq_true rfl) dX10_as_47 ⟨Nat.le_of_ble_eq_true rfl, Nat.le_of_ble_eq_true rfl⟩ (fun r_11 u0 H locs hw0 hP hD hS => ?_)
    have hw_12 : r_11 = (b2i (ckUnder (kd i) k)) := hw0
    subst hw_12
    have hP : va_P N.1 vwCl [(km, .inr (10, [.ref sa, .ref hs, .ref shs, .ref ja, .ref uu, .ref tb, .ref ob, .int fd])), (sa, .inr (6, [.ref a, .ref ra])), (a, .inr (0, [.ref fl, .ref wi, .ref nr])), (fl, .inr (1, [.ref t, .int (nI cf)])), (t, .inl (N.2 0, 64, .inl tr))] H := hP
    have hD : va_D Ag [(km, .inr (10, [.ref sa, .ref hs, .ref shs, .ref ja, .ref uu, .ref tb, .ref ob, .int fd])), (sa, .inr (6, [.ref a, .ref ra])), (a, .inr (0, [.ref fl, .ref wi, .ref nr])), (fl, .inr (1, [.ref t, .int (nI cf)])), (t, .inl (N.2 0, 64, .inl tr))] := hD
    refine ck_ifne (b := ckUnder (kd i) k) (tgt := 60) hx hb dX10_as_50 (by decide) (fun cz_13 => ?_) (fun cz_13 => ?_)
    · refine lv_iload_n hx hb dX10_as_60 rfl (lv_at hl 1 rfl) ?_
      exact ck_iret hx hb hrt hlk (fd) (ckRd_ok (by simp [asF, cz_3, cz_8, exi, exk, cz_13]) rfl) hP hD hS ⟨Nat.le_of_ble_eq_true rfl, Nat.le_of_ble_eq_true rfl⟩ dX10_as_61
    refine lv_aload_n hx hb dX10_as_53 rfl (lv_at hl 0 rfl) ?_
    refine lv_ldc (own := RX10) (v := (-100004)) hx hb hown (hg _ k2_110) dX10_as_54 ?_
    refine ck_Vi (As := [.int (-100004)]) (rest := []) (wr := [(sa, .inr (6, [.ref a, .ref ra])), (a, .inr (0, [.ref fl, .ref wi, .ref nr])), (fl, .inr (1, [.ref t, .int (nI cf)])), (t, .inl (N.2 0, 64, .inl tr))]) C0 hP hD hS (c_X10_finding l N km sa hs shs ja uu tb ob fd (-100004) ) myX10_finding k2_15 ⟨Nat.le_of_ble_eq_true rfl, Nat.le_of_ble_eq_true rfl⟩ [0] [1, 2, 3, 4] ⟨⟨rfl, rfl⟩, by decide, by decide, by decide⟩ 0 rfl rfl rfl rfl hl.1 rfl (Nat.le_of_ble_eq_true rfl) dX10_as_56 ⟨Nat.le_of_ble_eq_true rfl, Nat.le_of_ble_eq_true rfl⟩ (fun r_14 u0 H locs hw0 hP hD hS => ?_)
    have hw_15 : r_14 = (-100004) := hw0
    subst hw_15
    have hP : va_P N.1 vwCl [(sa, .inr (6, [.ref a, .ref ra])), (a, .inr (0, [.ref fl, .ref wi, .ref nr])), (fl, .inr (1, [.ref t, .int (nI cf)])), (t, .inl (N.2 0, 64, .inl tr)), (km, .inr (10, [.ref sa, .ref hs, .ref shs, .ref ja, .ref uu, .ref tb, .ref ob, .int (fd + nI 1)]))] H := hP
    have hD : va_D Ag [(sa, .inr (6, [.ref a, .ref ra])), (a, .inr (0, [.ref fl, .ref wi, .ref nr])), (fl, .inr (1, [.ref t, .int (nI cf)])), (t, .inl (N.2 0, 64, .inl tr)), (km, .inr (10, [.ref sa, .ref hs, .ref shs, .ref ja, .ref uu, .ref tb, .ref ob, .int (fd + nI 1)]))] := hD
    exact ck_iret hx hb hrt hlk ((fd + nI 1)) (ckRd_f (by simp [asF, cz_3, cz_8, exi, exk, cz_13]) (by decide)) (hP.sub [4, 0, 1, 2, 3] rfl) (hD.sub [4, 0, 1, 2, 3] (by decide) rfl) hS ⟨Nat.le_of_ble_eq_true rfl, Nat.le_of_ble_eq_true rfl⟩ dX10_as_59
  refine lv_aload_n hx hb dX10_as_24 rfl (lv_at hl 0 rfl) ?_
  refine lv_ldc (own := RX10) (v := (-100001)) hx hb hown (hg _ k2_14) dX10_as_25 ?_
  refine ck_Vi (As := [.int (-100001)]) (rest := []) (wr := [(sa, .inr (6, [.ref a, .ref ra])), (a, .inr (0, [.ref fl, .ref wi, .ref nr])), (fl, .inr (1, [.ref t, .int (nI cf)])), (t, .inl (N.2 0, 64, .inl tr))]) C0 hP hD hS (c_X10_finding l N km sa hs shs ja uu tb ob fd (-100001) ) myX10_finding k2_15 ⟨Nat.le_of_ble_eq_true rfl, Nat.le_of_ble_eq_true rfl⟩ [0] [1, 2, 3, 4] ⟨⟨rfl, rfl⟩, by decide, by decide, by decide⟩ 0 rfl rfl rfl rfl hl.1 rfl (Nat.le_of_ble_eq_true rfl) dX10_as_27 ⟨Nat.le_of_ble_eq_true rfl, Nat.le_of_ble_eq_true rfl⟩ (fun r_16 u0 H locs hw0 hP hD hS => ?_)
  have hw_17 : r_16 = (-100001) := hw0
  subst hw_17
  have hP : va_P N.1 vwCl [(sa, .inr (6, [.ref a, .ref ra])), (a, .inr (0, [.ref fl, .ref wi, .ref nr])), (fl, .inr (1, [.ref t, .int (nI cf)])), (t, .inl (N.2 0, 64, .inl tr)), (km, .inr (10, [.ref sa, .ref hs, .ref shs, .ref ja, .ref uu, .ref tb, .ref ob, .int (fd + nI 1)]))] H := hP
  have hD : va_D Ag [(sa, .inr (6, [.ref a, .ref ra])), (a, .inr (0, [.ref fl, .ref wi, .ref nr])), (fl, .inr (1, [.ref t, .int (nI cf)])), (t, .inl (N.2 0, 64, .inl tr)), (km, .inr (10, [.ref sa, .ref hs, .ref shs, .ref ja, .ref uu, .ref tb, .ref ob, .int (fd + nI 1)]))] := hD
  exact ck_iret hx hb hrt hlk ((fd + nI 1)) (ckRd_f (by simp [asF, cz_3, cz_8]) (by decide)) (hP.sub [4, 0, 1, 2, 3] rfl) (hD.sub [4, 0, 1, 2, 3] (by decide) rfl) hS ⟨Nat.le_of_ble_eq_true rfl, Nat.le_of_ble_eq_true rfl⟩ dX10_as_30
set_option maxHeartbeats 4000000 in
set_option maxRecDepth 100000 in
/-- X10_of -/
theorem c_X10_of (l : Launch) (N : ckN) (km : Nat) (sa : Nat) (hs : Nat) (shs : Nat) (ja : Nat) (uu : Nat) (tb : Nat) (ob : Nat) (fd : Int32) (a : Nat) (fl : Nat) (t : Nat) (wi : Nat) (nr : Nat) (tr : Nat → Int32) (cf : Nat) (ra : Nat) (x : Int32) (y : Int32) (hcf : cf ≤ 8) : ckI l yX10_of cX10_of 3 (some FieldType.int) { frames := 3, cells := 0, slots := 0, locals := 82 } N [.ref km, .int x, .int y] [(km, .inr (10, [.ref sa, .ref hs, .ref shs, .ref ja, .ref uu, .ref tb, .ref ob, .int fd])), (sa, .inr (6, [.ref a, .ref ra])), (a, .inr (0, [.ref fl, .ref wi, .ref nr])), (fl, .inr (1, [.ref t, .int (nI cf)])), (t, .inl (N.2 0, 64, .inl tr))] (fun (r : Int32) (u : Int32) => ckRd (ofF cf x y) (tr (ix x * 8 + ix y)) fd r u) (fun (u : Int32) => [(km, .inr (10, [.ref sa, .ref hs, .ref shs, .ref ja, .ref uu, .ref tb, .ref ob, .int u])), (sa, .inr (6, [.ref a, .ref ra])), (a, .inr (0, [.ref fl, .ref wi, .ref nr])), (fl, .inr (1, [.ref t, .int (nI cf)])), (t, .inl (N.2 0, 64, .inl tr))]) := by
  refine ckI.of (by decide) (Nat.le_of_ble_eq_true rfl) ?_
  intro pg eg sg mg blw mth cg Ag ls hx hb hrt hml hown hlk hin hg hE hA hP hD hS hl
  have hown : sg.vm.findClass RX10 = some mg.cls := hown
  have hl : lv_has ls 3 [(0, .ref km), (1, .int x), (2, .int y)] := hl
  have C0 : ckC pg sg mg ([.ref km, .int x, .int y]).toArray cg cX10_of 3 RX10 N Ag := ⟨⟨hx, hb, hml, hown, hg⟩, hE, hA⟩
  generalize hHe : sg.heap = H at hP
  have hS : va_S Ag sg.heap H [] := hHe ▸ hS
  refine lv_aload_n hx hb dX10_of_0 rfl (lv_at hl 0 rfl) ?_
  refine va_get (ci := 10) (v := .ref sa) (C := RX10) (T := TX10) (N := 8) hx hb hg inX10 hown hE.1 hP 0 rfl rfl 0 (by decide) (hg _ k1_216) (fun _ h9 => h9) rfl dX10_of_1 ?_
  refine va_getN (ci := 6) (v := .ref a) (C := RX6) (T := TX6) (N := 2) (host := "KiteMeet") hx hb hg inX6 hown hE.1 hP 1 rfl rfl 0 (by decide) (hE.nf 15 rfl _) (fun _ h9 => h9) rfl dX10_of_4 ?_
  refine va_getN (ci := 0) (v := .ref fl) (C := RX0) (T := TX0) (N := 3) (host := "KiteMeet") hx hb hg inX0 hown hE.1 hP 2 rfl rfl 0 (by decide) (hE.nf 3 rfl _) (fun _ h9 => h9) rfl dX10_of_7 ?_
  refine lv_iload_n hx hb dX10_of_10 rfl (lv_at hl 1 rfl) ?_
  refine ck_Vi (As := [.int x]) (rest := []) (wr := [(km, .inr (10, [.ref sa, .ref hs, .ref shs, .ref ja, .ref uu, .ref tb, .ref ob, .int fd])), (sa, .inr (6, [.ref a, .ref ra])), (a, .inr (0, [.ref fl, .ref wi, .ref nr]))]) C0 hP hD hS (c_X1_have l N fl t tr cf x (by omega)) myX1_have k2_97 ⟨Nat.le_of_ble_eq_true rfl, Nat.le_of_ble_eq_true rfl⟩ [3, 4] [0, 1, 2] ⟨⟨rfl, rfl⟩, by decide, by decide, by decide⟩ 3 rfl rfl rfl rfl hl.1 rfl (Nat.le_of_ble_eq_true rfl) dX10_of_11 ⟨Nat.le_of_ble_eq_true rfl, Nat.le_of_ble_eq_true rfl⟩ (fun r_1 u0 H locs hw0 hP hD hS => ?_)
  have hw_2 : r_1 = (b2i (ckLt x cf)) := hw0
  subst hw_2
  have hP : va_P N.1 vwCl [(km, .inr (10, [.ref sa, .ref hs, .ref shs, .ref ja, .ref uu, .ref tb, .ref ob, .int fd])), (sa, .inr (6, [.ref a, .ref ra])), (a, .inr (0, [.ref fl, .ref wi, .ref nr])), (fl, .inr (1, [.ref t, .int (nI cf)])), (t, .inl (N.2 0, 64, .inl tr))] H := hP
  have hD : va_D Ag [(km, .inr (10, [.ref sa, .ref hs, .ref shs, .ref ja, .ref uu, .ref tb, .ref ob, .int fd])), (sa, .inr (6, [.ref a, .ref ra])), (a, .inr (0, [.ref fl, .ref wi, .ref nr])), (fl, .inr (1, [.ref t, .int (nI cf)])), (t, .inl (N.2 0, 64, .inl tr))] := hD
  refine ck_ifeq (b := ckLt x cf) (tgt := 27) hx hb dX10_of_14 (by decide) (fun cz_3 => ?_) (fun cz_3 => ?_)
  · refine lv_aload_n hx hb dX10_of_27 rfl (lv_at hl 0 rfl) ?_
    refine lv_ldc (own := RX10) (v := (-100001)) hx hb hown (hg _ k2_14) dX10_of_28 ?_
    refine ck_Vi (As := [.int (-100001)]) (rest := []) (wr := [(sa, .inr (6, [.ref a, .ref ra])), (a, .inr (0, [.ref fl, .ref wi, .ref nr])), (fl, .inr (1, [.ref t, .int (nI cf)])), (t, .inl (N.2 0, 64, .inl tr))]) C0 hP hD hS (c_X10_finding l N km sa hs shs ja uu tb ob fd (-100001) ) myX10_finding k2_15 ⟨Nat.le_of_ble_eq_true rfl, Nat.le_of_ble_eq_true rfl⟩ [0] [1, 2, 3, 4] ⟨⟨rfl, rfl⟩, by decide, by decide, by decide⟩ 0 rfl rfl rfl rfl hl.1 rfl (Nat.le_of_ble_eq_true rfl) dX10_of_30 ⟨Nat.le_of_ble_eq_true rfl, Nat.le_of_ble_eq_true rfl⟩ (fun r_4 u0 H locs hw0 hP hD hS => ?_)
    have hw_5 : r_4 = (-100001) := hw0
    subst hw_5
    have hP : va_P N.1 vwCl [(sa, .inr (6, [.ref a, .ref ra])), (a, .inr (0, [.ref fl, .ref wi, .ref nr])), (fl, .inr (1, [.ref t, .int (nI cf)])), (t, .inl (N.2 0, 64, .inl tr)), (km, .inr (10, [.ref sa, .ref hs, .ref shs, .ref ja, .ref uu, .ref tb, .ref ob, .int (fd + nI 1)]))] H := hP
    have hD : va_D Ag [(sa, .inr (6, [.ref a, .ref ra])), (a, .inr (0, [.ref fl, .ref wi, .ref nr])), (fl, .inr (1, [.ref t, .int (nI cf)])), (t, .inl (N.2 0, 64, .inl tr)), (km, .inr (10, [.ref sa, .ref hs, .ref shs, .ref ja, .ref uu, .ref tb, .ref ob, .int (fd + nI 1)]))] := hD
    exact ck_iret hx hb hrt hlk ((fd + nI 1)) (ckRd_f (by simp [ofF, cz_3]) (by decide)) (hP.sub [4, 0, 1, 2, 3] rfl) (hD.sub [4, 0, 1, 2, 3] (by decide) rfl) hS ⟨Nat.le_of_ble_eq_true rfl, Nat.le_of_ble_eq_true rfl⟩ dX10_of_33
  refine lv_iload_n hx hb dX10_of_17 rfl (lv_at hl 2 rfl) ?_
  refine lv_if_lt (tgt := 27) hx hb dX10_of_18 (by decide) (fun cz_6 => ?_) (fun cz_6 => ?_)
  · have hq : ckIn y (nI 0) (nI 7) = false := by rw [ckIn_f]; have e0 : (0 : Int32).toInt = 0 := (by decide); have e1 : (nI 0).toInt = 0 := (by decide); have e2 : (nI 7).toInt = 7 := (by decide); have e3 : (nI 8).toInt = 8 := (by decide); have z0 := cz_6; simp only [i_lt, i_le] at z0; omega
    refine lv_aload_n hx hb dX10_of_27 rfl (lv_at hl 0 rfl) ?_
    refine lv_ldc (own := RX10) (v := (-100001)) hx hb hown (hg _ k2_14) dX10_of_28 ?_
    refine ck_Vi (As := [.int (-100001)]) (rest := []) (wr := [(sa, .inr (6, [.ref a, .ref ra])), (a, .inr (0, [.ref fl, .ref wi, .ref nr])), (fl, .inr (1, [.ref t, .int (nI cf)])), (t, .inl (N.2 0, 64, .inl tr))]) C0 hP hD hS (c_X10_finding l N km sa hs shs ja uu tb ob fd (-100001) ) myX10_finding k2_15 ⟨Nat.le_of_ble_eq_true rfl, Nat.le_of_ble_eq_true rfl⟩ [0] [1, 2, 3, 4] ⟨⟨rfl, rfl⟩, by decide, by decide, by decide⟩ 0 rfl rfl rfl rfl hl.1 rfl (Nat.le_of_ble_eq_true rfl) dX10_of_30 ⟨Nat.le_of_ble_eq_true rfl, Nat.le_of_ble_eq_true rfl⟩ (fun r_7 u0 H locs hw0 hP hD hS => ?_)
    have hw_8 : r_7 = (-100001) := hw0
    subst hw_8
    have hP : va_P N.1 vwCl [(sa, .inr (6, [.ref a, .ref ra])), (a, .inr (0, [.ref fl, .ref wi, .ref nr])), (fl, .inr (1, [.ref t, .int (nI cf)])), (t, .inl (N.2 0, 64, .inl tr)), (km, .inr (10, [.ref sa, .ref hs, .ref shs, .ref ja, .ref uu, .ref tb, .ref ob, .int (fd + nI 1)]))] H := hP
    have hD : va_D Ag [(sa, .inr (6, [.ref a, .ref ra])), (a, .inr (0, [.ref fl, .ref wi, .ref nr])), (fl, .inr (1, [.ref t, .int (nI cf)])), (t, .inl (N.2 0, 64, .inl tr)), (km, .inr (10, [.ref sa, .ref hs, .ref shs, .ref ja, .ref uu, .ref tb, .ref ob, .int (fd + nI 1)]))] := hD
    exact ck_iret hx hb hrt hlk ((fd + nI 1)) (ckRd_f (by simp [ofF, cz_3, hq]) (by decide)) (hP.sub [4, 0, 1, 2, 3] rfl) (hD.sub [4, 0, 1, 2, 3] (by decide) rfl) hS ⟨Nat.le_of_ble_eq_true rfl, Nat.le_of_ble_eq_true rfl⟩ dX10_of_33
  refine lv_iload_n hx hb dX10_of_21 rfl (lv_at hl 2 rfl) ?_
  refine lv_bipush (v := (nI 8)) hx hb dX10_of_22 (by decide) ?_
  refine lv_icmp_lt (tgt := 34) hx hb dX10_of_24 (by decide) (fun cz_9 => ?_) (fun cz_9 => ?_)
  · have hq : ckIn y (nI 0) (nI 7) = true := by rw [ckIn_iff]; have e0 : (0 : Int32).toInt = 0 := (by decide); have e1 : (nI 0).toInt = 0 := (by decide); have e2 : (nI 7).toInt = 7 := (by decide); have e3 : (nI 8).toInt = 8 := (by decide); have z0 := cz_6; have z1 := cz_9; simp only [i_lt, i_le] at z0 z1; omega
    obtain ⟨i, hi, rfl⟩ := (ckLt_t (by omega)).mp cz_3
    have exi : ix (nI i) = i := ix_nI (by omega)
    obtain ⟨k, -, hk, rfl⟩ := (ckIn_n (by decide) (by decide)).mp hq
    have exk : ix (nI k) = k := ix_nI (by omega)
    refine lv_aload_n hx hb dX10_of_34 rfl (lv_at hl 0 rfl) ?_
    refine va_get (ci := 10) (v := .ref sa) (C := RX10) (T := TX10) (N := 8) hx hb hg inX10 hown hE.1 hP 0 rfl rfl 0 (by decide) (hg _ k1_216) (fun _ h9 => h9) rfl dX10_of_35 ?_
    refine va_getN (ci := 6) (v := .ref a) (C := RX6) (T := TX6) (N := 2) (host := "KiteMeet") hx hb hg inX6 hown hE.1 hP 1 rfl rfl 0 (by decide) (hE.nf 15 rfl _) (fun _ h9 => h9) rfl dX10_of_38 ?_
    refine va_getN (ci := 0) (v := .ref fl) (C := RX0) (T := TX0) (N := 3) (host := "KiteMeet") hx hb hg inX0 hown hE.1 hP 2 rfl rfl 0 (by decide) (hE.nf 3 rfl _) (fun _ h9 => h9) rfl dX10_of_41 ?_
    refine lv_iload_n hx hb dX10_of_44 rfl (lv_at hl 1 rfl) ?_
    refine lv_iload_n hx hb dX10_of_45 rfl (lv_at hl 2 rfl) ?_
    refine ck_Vi (As := [.int (nI i), .int (nI k)]) (rest := []) (wr := [(km, .inr (10, [.ref sa, .ref hs, .ref shs, .ref ja, .ref uu, .ref tb, .ref ob, .int fd])), (sa, .inr (6, [.ref a, .ref ra])), (a, .inr (0, [.ref fl, .ref wi, .ref nr]))]) C0 hP hD hS (c_X1_told l N fl t tr cf i k (by omega)) myX1_told k2_101 ⟨Nat.le_of_ble_eq_true rfl, Nat.le_of_ble_eq_true rfl⟩ [3, 4] [0, 1, 2] ⟨⟨rfl, rfl⟩, by decide, by decide, by decide⟩ 3 rfl rfl rfl rfl hl.1 rfl (Nat.le_of_ble_eq_true rfl) dX10_of_46 ⟨Nat.le_of_ble_eq_true rfl, Nat.le_of_ble_eq_true rfl⟩ (fun r_10 u0 H locs hw0 hP hD hS => ?_)
    have hw_11 : r_10 = (tr (i * 8 + k)) := hw0
    subst hw_11
    have hP : va_P N.1 vwCl [(km, .inr (10, [.ref sa, .ref hs, .ref shs, .ref ja, .ref uu, .ref tb, .ref ob, .int fd])), (sa, .inr (6, [.ref a, .ref ra])), (a, .inr (0, [.ref fl, .ref wi, .ref nr])), (fl, .inr (1, [.ref t, .int (nI cf)])), (t, .inl (N.2 0, 64, .inl tr))] H := hP
    have hD : va_D Ag [(km, .inr (10, [.ref sa, .ref hs, .ref shs, .ref ja, .ref uu, .ref tb, .ref ob, .int fd])), (sa, .inr (6, [.ref a, .ref ra])), (a, .inr (0, [.ref fl, .ref wi, .ref nr])), (fl, .inr (1, [.ref t, .int (nI cf)])), (t, .inl (N.2 0, 64, .inl tr))] := hD
    exact ck_iret hx hb hrt hlk (fd) (ckRd_ok (by simp [ofF, cz_3, hq, exi, exk]) (by rw [exi, exk])) hP hD hS ⟨Nat.le_of_ble_eq_true rfl, Nat.le_of_ble_eq_true rfl⟩ dX10_of_49
  have hq : ckIn y (nI 0) (nI 7) = false := by rw [ckIn_f]; have e0 : (0 : Int32).toInt = 0 := (by decide); have e1 : (nI 0).toInt = 0 := (by decide); have e2 : (nI 7).toInt = 7 := (by decide); have e3 : (nI 8).toInt = 8 := (by decide); have z0 := cz_6; have z1 := cz_9; simp only [i_lt, i_le] at z0 z1; omega
  refine lv_aload_n hx hb dX10_of_27 rfl (lv_at hl 0 rfl) ?_
  refine lv_ldc (own := RX10) (v := (-100001)) hx hb hown (hg _ k2_14) dX10_of_28 ?_
  refine ck_Vi (As := [.int (-100001)]) (rest := []) (wr := [(sa, .inr (6, [.ref a, .ref ra])), (a, .inr (0, [.ref fl, .ref wi, .ref nr])), (fl, .inr (1, [.ref t, .int (nI cf)])), (t, .inl (N.2 0, 64, .inl tr))]) C0 hP hD hS (c_X10_finding l N km sa hs shs ja uu tb ob fd (-100001) ) myX10_finding k2_15 ⟨Nat.le_of_ble_eq_true rfl, Nat.le_of_ble_eq_true rfl⟩ [0] [1, 2, 3, 4] ⟨⟨rfl, rfl⟩, by decide, by decide, by decide⟩ 0 rfl rfl rfl rfl hl.1 rfl (Nat.le_of_ble_eq_true rfl) dX10_of_30 ⟨Nat.le_of_ble_eq_true rfl, Nat.le_of_ble_eq_true rfl⟩ (fun r_12 u0 H locs hw0 hP hD hS => ?_)
  have hw_13 : r_12 = (-100001) := hw0
  subst hw_13
  have hP : va_P N.1 vwCl [(sa, .inr (6, [.ref a, .ref ra])), (a, .inr (0, [.ref fl, .ref wi, .ref nr])), (fl, .inr (1, [.ref t, .int (nI cf)])), (t, .inl (N.2 0, 64, .inl tr)), (km, .inr (10, [.ref sa, .ref hs, .ref shs, .ref ja, .ref uu, .ref tb, .ref ob, .int (fd + nI 1)]))] H := hP
  have hD : va_D Ag [(sa, .inr (6, [.ref a, .ref ra])), (a, .inr (0, [.ref fl, .ref wi, .ref nr])), (fl, .inr (1, [.ref t, .int (nI cf)])), (t, .inl (N.2 0, 64, .inl tr)), (km, .inr (10, [.ref sa, .ref hs, .ref shs, .ref ja, .ref uu, .ref tb, .ref ob, .int (fd + nI 1)]))] := hD
  exact ck_iret hx hb hrt hlk ((fd + nI 1)) (ckRd_f (by simp [ofF, cz_3, hq]) (by decide)) (hP.sub [4, 0, 1, 2, 3] rfl) (hD.sub [4, 0, 1, 2, 3] (by decide) rfl) hS ⟨Nat.le_of_ble_eq_true rfl, Nat.le_of_ble_eq_true rfl⟩ dX10_of_33
set_option maxHeartbeats 4000000 in
set_option maxRecDepth 100000 in
/-- X10_windAt -/
theorem c_X10_windAt (l : Launch) (N : ckN) (km : Nat) (sa : Nat) (hs : Nat) (shs : Nat) (ja : Nat) (uu : Nat) (tb : Nat) (ob : Nat) (fd : Int32) (a : Nat) (fl : Nat) (wi : Nat) (d : Nat) (f : Nat) (nr : Nat) (di : Nat → Int32) (fo : Nat → Int32) (ra : Nat) (x : Int32) (y : Int32) (bb : Bool)  : ckI l yX10_windAt cX10_windAt 4 (some FieldType.int) { frames := 3, cells := 0, slots := 0, locals := 82 } N [.ref km, .int x, .int y, .int (b2i bb)] [(km, .inr (10, [.ref sa, .ref hs, .ref shs, .ref ja, .ref uu, .ref tb, .ref ob, .int fd])), (sa, .inr (6, [.ref a, .ref ra])), (a, .inr (0, [.ref fl, .ref wi, .ref nr])), (wi, .inr (8, [.ref d, .ref f])), (d, .inl (N.2 0, 80, .inl di)), (f, .inl (N.2 0, 80, .inl fo))] (fun (r : Int32) (u : Int32) => ckRd (waF x y) (if bb = true then di (ix x * 20 + ix y) else fo (ix x * 20 + ix y)) fd r u) (fun (u : Int32) => [(km, .inr (10, [.ref sa, .ref hs, .ref shs, .ref ja, .ref uu, .ref tb, .ref ob, .int u])), (sa, .inr (6, [.ref a, .ref ra])), (a, .inr (0, [.ref fl, .ref wi, .ref nr])), (wi, .inr (8, [.ref d, .ref f])), (d, .inl (N.2 0, 80, .inl di)), (f, .inl (N.2 0, 80, .inl fo))]) := by
  refine ckI.of (by decide) (Nat.le_of_ble_eq_true rfl) ?_
  intro pg eg sg mg blw mth cg Ag ls hx hb hrt hml hown hlk hin hg hE hA hP hD hS hl
  have hown : sg.vm.findClass RX10 = some mg.cls := hown
  have hl : lv_has ls 4 [(0, .ref km), (1, .int x), (2, .int y), (3, .int (b2i bb))] := hl
  have C0 : ckC pg sg mg ([.ref km, .int x, .int y, .int (b2i bb)]).toArray cg cX10_windAt 4 RX10 N Ag := ⟨⟨hx, hb, hml, hown, hg⟩, hE, hA⟩
  generalize hHe : sg.heap = H at hP
  have hS : va_S Ag sg.heap H [] := hHe ▸ hS
  refine lv_iload_n hx hb dX10_windAt_0 rfl (lv_at hl 1 rfl) ?_
  refine ck_Si (As := [.int x]) (rest := []) (wr := [(km, .inr (10, [.ref sa, .ref hs, .ref shs, .ref ja, .ref uu, .ref tb, .ref ob, .int fd])), (sa, .inr (6, [.ref a, .ref ra])), (a, .inr (0, [.ref fl, .ref wi, .ref nr])), (wi, .inr (8, [.ref d, .ref f])), (d, .inl (N.2 0, 80, .inl di)), (f, .inl (N.2 0, 80, .inl fo))]) C0 hP hD hS (c_X10_isHeight l N x ) myX10_isHeight k2_11 ⟨Nat.le_of_ble_eq_true rfl, Nat.le_of_ble_eq_true rfl⟩ [] [0, 1, 2, 3, 4, 5] ⟨⟨rfl, rfl⟩, by decide, by decide, by decide⟩ rfl hl.1 rfl (Nat.le_of_ble_eq_true rfl) dX10_windAt_1 ⟨Nat.le_of_ble_eq_true rfl, Nat.le_of_ble_eq_true rfl⟩ (fun r_1 u0 H locs hw0 hP hD hS => ?_)
  have hw_2 : r_1 = (b2i (ckIn x (nI 0) (nI 3))) := hw0
  subst hw_2
  have hP : va_P N.1 vwCl [(km, .inr (10, [.ref sa, .ref hs, .ref shs, .ref ja, .ref uu, .ref tb, .ref ob, .int fd])), (sa, .inr (6, [.ref a, .ref ra])), (a, .inr (0, [.ref fl, .ref wi, .ref nr])), (wi, .inr (8, [.ref d, .ref f])), (d, .inl (N.2 0, 80, .inl di)), (f, .inl (N.2 0, 80, .inl fo))] H := hP
  have hD : va_D Ag [(km, .inr (10, [.ref sa, .ref hs, .ref shs, .ref ja, .ref uu, .ref tb, .ref ob, .int fd])), (sa, .inr (6, [.ref a, .ref ra])), (a, .inr (0, [.ref fl, .ref wi, .ref nr])), (wi, .inr (8, [.ref d, .ref f])), (d, .inl (N.2 0, 80, .inl di)), (f, .inl (N.2 0, 80, .inl fo))] := hD
  refine ck_ifeq (b := ckIn x (nI 0) (nI 3)) (tgt := 14) hx hb dX10_windAt_4 (by decide) (fun cz_3 => ?_) (fun cz_3 => ?_)
  · refine lv_aload_n hx hb dX10_windAt_14 rfl (lv_at hl 0 rfl) ?_
    refine lv_ldc (own := RX10) (v := (-100001)) hx hb hown (hg _ k2_14) dX10_windAt_15 ?_
    refine ck_Vi (As := [.int (-100001)]) (rest := []) (wr := [(sa, .inr (6, [.ref a, .ref ra])), (a, .inr (0, [.ref fl, .ref wi, .ref nr])), (wi, .inr (8, [.ref d, .ref f])), (d, .inl (N.2 0, 80, .inl di)), (f, .inl (N.2 0, 80, .inl fo))]) C0 hP hD hS (c_X10_finding l N km sa hs shs ja uu tb ob fd (-100001) ) myX10_finding k2_15 ⟨Nat.le_of_ble_eq_true rfl, Nat.le_of_ble_eq_true rfl⟩ [0] [1, 2, 3, 4, 5] ⟨⟨rfl, rfl⟩, by decide, by decide, by decide⟩ 0 rfl rfl rfl rfl hl.1 rfl (Nat.le_of_ble_eq_true rfl) dX10_windAt_17 ⟨Nat.le_of_ble_eq_true rfl, Nat.le_of_ble_eq_true rfl⟩ (fun r_4 u0 H locs hw0 hP hD hS => ?_)
    have hw_5 : r_4 = (-100001) := hw0
    subst hw_5
    have hP : va_P N.1 vwCl [(sa, .inr (6, [.ref a, .ref ra])), (a, .inr (0, [.ref fl, .ref wi, .ref nr])), (wi, .inr (8, [.ref d, .ref f])), (d, .inl (N.2 0, 80, .inl di)), (f, .inl (N.2 0, 80, .inl fo)), (km, .inr (10, [.ref sa, .ref hs, .ref shs, .ref ja, .ref uu, .ref tb, .ref ob, .int (fd + nI 1)]))] H := hP
    have hD : va_D Ag [(sa, .inr (6, [.ref a, .ref ra])), (a, .inr (0, [.ref fl, .ref wi, .ref nr])), (wi, .inr (8, [.ref d, .ref f])), (d, .inl (N.2 0, 80, .inl di)), (f, .inl (N.2 0, 80, .inl fo)), (km, .inr (10, [.ref sa, .ref hs, .ref shs, .ref ja, .ref uu, .ref tb, .ref ob, .int (fd + nI 1)]))] := hD
    exact ck_iret hx hb hrt hlk ((fd + nI 1)) (ckRd_f (by simp [waF, cz_3]) (by decide)) (hP.sub [5, 0, 1, 2, 3, 4] rfl) (hD.sub [5, 0, 1, 2, 3, 4] (by decide) rfl) hS ⟨Nat.le_of_ble_eq_true rfl, Nat.le_of_ble_eq_true rfl⟩ dX10_windAt_20
  refine lv_iload_n hx hb dX10_windAt_7 rfl (lv_at hl 2 rfl) ?_
  refine ck_Si (As := [.int y]) (rest := []) (wr := [(km, .inr (10, [.ref sa, .ref hs, .ref shs, .ref ja, .ref uu, .ref tb, .ref ob, .int fd])), (sa, .inr (6, [.ref a, .ref ra])), (a, .inr (0, [.ref fl, .ref wi, .ref nr])), (wi, .inr (8, [.ref d, .ref f])), (d, .inl (N.2 0, 80, .inl di)), (f, .inl (N.2 0, 80, .inl fo))]) C0 hP hD hS (c_X10_isMinute l N y ) myX10_isMinute k2_134 ⟨Nat.le_of_ble_eq_true rfl, Nat.le_of_ble_eq_true rfl⟩ [] [0, 1, 2, 3, 4, 5] ⟨⟨rfl, rfl⟩, by decide, by decide, by decide⟩ rfl hl.1 rfl (Nat.le_of_ble_eq_true rfl) dX10_windAt_8 ⟨Nat.le_of_ble_eq_true rfl, Nat.le_of_ble_eq_true rfl⟩ (fun r_6 u0 H locs hw0 hP hD hS => ?_)
  have hw_7 : r_6 = (b2i (ckIn y (nI 0) (nI 19))) := hw0
  subst hw_7
  have hP : va_P N.1 vwCl [(km, .inr (10, [.ref sa, .ref hs, .ref shs, .ref ja, .ref uu, .ref tb, .ref ob, .int fd])), (sa, .inr (6, [.ref a, .ref ra])), (a, .inr (0, [.ref fl, .ref wi, .ref nr])), (wi, .inr (8, [.ref d, .ref f])), (d, .inl (N.2 0, 80, .inl di)), (f, .inl (N.2 0, 80, .inl fo))] H := hP
  have hD : va_D Ag [(km, .inr (10, [.ref sa, .ref hs, .ref shs, .ref ja, .ref uu, .ref tb, .ref ob, .int fd])), (sa, .inr (6, [.ref a, .ref ra])), (a, .inr (0, [.ref fl, .ref wi, .ref nr])), (wi, .inr (8, [.ref d, .ref f])), (d, .inl (N.2 0, 80, .inl di)), (f, .inl (N.2 0, 80, .inl fo))] := hD
  refine ck_ifne (b := ckIn y (nI 0) (nI 19)) (tgt := 21) hx hb dX10_windAt_11 (by decide) (fun cz_8 => ?_) (fun cz_8 => ?_)
  · obtain ⟨i, -, hi, rfl⟩ := (ckIn_n (by decide) (by decide)).mp cz_3
    have exi : ix (nI i) = i := ix_nI (by omega)
    obtain ⟨k, -, hk, rfl⟩ := (ckIn_n (by decide) (by decide)).mp cz_8
    have exk : ix (nI k) = k := ix_nI (by omega)
    refine lv_iload_n hx hb dX10_windAt_21 rfl (lv_at hl 3 rfl) ?_
    refine ck_ifeq (b := bb) (tgt := 43) hx hb dX10_windAt_22 (by decide) (fun cz_9 => ?_) (fun cz_9 => ?_)
    · refine lv_aload_n hx hb dX10_windAt_43 rfl (lv_at hl 0 rfl) ?_
      refine va_get (ci := 10) (v := .ref sa) (C := RX10) (T := TX10) (N := 8) hx hb hg inX10 hown hE.1 hP 0 rfl rfl 0 (by decide) (hg _ k1_216) (fun _ h9 => h9) rfl dX10_windAt_44 ?_
      refine va_getN (ci := 6) (v := .ref a) (C := RX6) (T := TX6) (N := 2) (host := "KiteMeet") hx hb hg inX6 hown hE.1 hP 1 rfl rfl 0 (by decide) (hE.nf 15 rfl _) (fun _ h9 => h9) rfl dX10_windAt_47 ?_
      refine va_getN (ci := 0) (v := .ref wi) (C := RX0) (T := TX0) (N := 3) (host := "KiteMeet") hx hb hg inX0 hown hE.1 hP 2 rfl rfl 1 (by decide) (hE.nf 5 rfl _) (fun _ h9 => h9) rfl dX10_windAt_50 ?_
      refine lv_iload_n hx hb dX10_windAt_53 rfl (lv_at hl 1 rfl) ?_
      refine lv_iload_n hx hb dX10_windAt_54 rfl (lv_at hl 2 rfl) ?_
      refine ck_Vi (As := [.int (nI i), .int (nI k)]) (rest := []) (wr := [(km, .inr (10, [.ref sa, .ref hs, .ref shs, .ref ja, .ref uu, .ref tb, .ref ob, .int fd])), (sa, .inr (6, [.ref a, .ref ra])), (a, .inr (0, [.ref fl, .ref wi, .ref nr]))]) C0 hP hD hS (c_X8_forceOf l N wi d f di fo i k (by omega)) myX8_forceOf k2_153 ⟨Nat.le_of_ble_eq_true rfl, Nat.le_of_ble_eq_true rfl⟩ [3, 4, 5] [0, 1, 2] ⟨⟨rfl, rfl⟩, by decide, by decide, by decide⟩ 3 rfl rfl rfl rfl hl.1 rfl (Nat.le_of_ble_eq_true rfl) dX10_windAt_55 ⟨Nat.le_of_ble_eq_true rfl, Nat.le_of_ble_eq_true rfl⟩ (fun r_10 u0 H locs hw0 hP hD hS => ?_)
      have hw_11 : r_10 = (fo (i * 20 + k)) := hw0
      subst hw_11
      have hP : va_P N.1 vwCl [(km, .inr (10, [.ref sa, .ref hs, .ref shs, .ref ja, .ref uu, .ref tb, .ref ob, .int fd])), (sa, .inr (6, [.ref a, .ref ra])), (a, .inr (0, [.ref fl, .ref wi, .ref nr])), (wi, .inr (8, [.ref d, .ref f])), (d, .inl (N.2 0, 80, .inl di)), (f, .inl (N.2 0, 80, .inl fo))] H := hP
      have hD : va_D Ag [(km, .inr (10, [.ref sa, .ref hs, .ref shs, .ref ja, .ref uu, .ref tb, .ref ob, .int fd])), (sa, .inr (6, [.ref a, .ref ra])), (a, .inr (0, [.ref fl, .ref wi, .ref nr])), (wi, .inr (8, [.ref d, .ref f])), (d, .inl (N.2 0, 80, .inl di)), (f, .inl (N.2 0, 80, .inl fo))] := hD
      exact ck_iret hx hb hrt hlk (fd) (ckRd_ok (by simp [waF, cz_3, cz_8, exi, exk, cz_9]) (by rw [exi, exk, if_neg (by rw [cz_9]; decide)])) hP hD hS ⟨Nat.le_of_ble_eq_true rfl, Nat.le_of_ble_eq_true rfl⟩ dX10_windAt_58
    refine lv_aload_n hx hb dX10_windAt_25 rfl (lv_at hl 0 rfl) ?_
    refine va_get (ci := 10) (v := .ref sa) (C := RX10) (T := TX10) (N := 8) hx hb hg inX10 hown hE.1 hP 0 rfl rfl 0 (by decide) (hg _ k1_216) (fun _ h9 => h9) rfl dX10_windAt_26 ?_
    refine va_getN (ci := 6) (v := .ref a) (C := RX6) (T := TX6) (N := 2) (host := "KiteMeet") hx hb hg inX6 hown hE.1 hP 1 rfl rfl 0 (by decide) (hE.nf 15 rfl _) (fun _ h9 => h9) rfl dX10_windAt_29 ?_
    refine va_getN (ci := 0) (v := .ref wi) (C := RX0) (T := TX0) (N := 3) (host := "KiteMeet") hx hb hg inX0 hown hE.1 hP 2 rfl rfl 1 (by decide) (hE.nf 5 rfl _) (fun _ h9 => h9) rfl dX10_windAt_32 ?_
    refine lv_iload_n hx hb dX10_windAt_35 rfl (lv_at hl 1 rfl) ?_
    refine lv_iload_n hx hb dX10_windAt_36 rfl (lv_at hl 2 rfl) ?_
    refine ck_Vi (As := [.int (nI i), .int (nI k)]) (rest := []) (wr := [(km, .inr (10, [.ref sa, .ref hs, .ref shs, .ref ja, .ref uu, .ref tb, .ref ob, .int fd])), (sa, .inr (6, [.ref a, .ref ra])), (a, .inr (0, [.ref fl, .ref wi, .ref nr]))]) C0 hP hD hS (c_X8_directionOf l N wi d f di fo i k (by omega)) myX8_directionOf k2_149 ⟨Nat.le_of_ble_eq_true rfl, Nat.le_of_ble_eq_true rfl⟩ [3, 4, 5] [0, 1, 2] ⟨⟨rfl, rfl⟩, by decide, by decide, by decide⟩ 3 rfl rfl rfl rfl hl.1 rfl (Nat.le_of_ble_eq_true rfl) dX10_windAt_37 ⟨Nat.le_of_ble_eq_true rfl, Nat.le_of_ble_eq_true rfl⟩ (fun r_12 u0 H locs hw0 hP hD hS => ?_)
    have hw_13 : r_12 = (di (i * 20 + k)) := hw0
    subst hw_13
    have hP : va_P N.1 vwCl [(km, .inr (10, [.ref sa, .ref hs, .ref shs, .ref ja, .ref uu, .ref tb, .ref ob, .int fd])), (sa, .inr (6, [.ref a, .ref ra])), (a, .inr (0, [.ref fl, .ref wi, .ref nr])), (wi, .inr (8, [.ref d, .ref f])), (d, .inl (N.2 0, 80, .inl di)), (f, .inl (N.2 0, 80, .inl fo))] H := hP
    have hD : va_D Ag [(km, .inr (10, [.ref sa, .ref hs, .ref shs, .ref ja, .ref uu, .ref tb, .ref ob, .int fd])), (sa, .inr (6, [.ref a, .ref ra])), (a, .inr (0, [.ref fl, .ref wi, .ref nr])), (wi, .inr (8, [.ref d, .ref f])), (d, .inl (N.2 0, 80, .inl di)), (f, .inl (N.2 0, 80, .inl fo))] := hD
    refine lv_goto (tgt := 58) hx hb dX10_windAt_40 (by decide) ?_
    exact ck_iret hx hb hrt hlk (fd) (ckRd_ok (by simp [waF, cz_3, cz_8, exi, exk, cz_9]) (by rw [exi, exk, if_pos cz_9])) hP hD hS ⟨Nat.le_of_ble_eq_true rfl, Nat.le_of_ble_eq_true rfl⟩ dX10_windAt_58
  refine lv_aload_n hx hb dX10_windAt_14 rfl (lv_at hl 0 rfl) ?_
  refine lv_ldc (own := RX10) (v := (-100001)) hx hb hown (hg _ k2_14) dX10_windAt_15 ?_
  refine ck_Vi (As := [.int (-100001)]) (rest := []) (wr := [(sa, .inr (6, [.ref a, .ref ra])), (a, .inr (0, [.ref fl, .ref wi, .ref nr])), (wi, .inr (8, [.ref d, .ref f])), (d, .inl (N.2 0, 80, .inl di)), (f, .inl (N.2 0, 80, .inl fo))]) C0 hP hD hS (c_X10_finding l N km sa hs shs ja uu tb ob fd (-100001) ) myX10_finding k2_15 ⟨Nat.le_of_ble_eq_true rfl, Nat.le_of_ble_eq_true rfl⟩ [0] [1, 2, 3, 4, 5] ⟨⟨rfl, rfl⟩, by decide, by decide, by decide⟩ 0 rfl rfl rfl rfl hl.1 rfl (Nat.le_of_ble_eq_true rfl) dX10_windAt_17 ⟨Nat.le_of_ble_eq_true rfl, Nat.le_of_ble_eq_true rfl⟩ (fun r_14 u0 H locs hw0 hP hD hS => ?_)
  have hw_15 : r_14 = (-100001) := hw0
  subst hw_15
  have hP : va_P N.1 vwCl [(sa, .inr (6, [.ref a, .ref ra])), (a, .inr (0, [.ref fl, .ref wi, .ref nr])), (wi, .inr (8, [.ref d, .ref f])), (d, .inl (N.2 0, 80, .inl di)), (f, .inl (N.2 0, 80, .inl fo)), (km, .inr (10, [.ref sa, .ref hs, .ref shs, .ref ja, .ref uu, .ref tb, .ref ob, .int (fd + nI 1)]))] H := hP
  have hD : va_D Ag [(sa, .inr (6, [.ref a, .ref ra])), (a, .inr (0, [.ref fl, .ref wi, .ref nr])), (wi, .inr (8, [.ref d, .ref f])), (d, .inl (N.2 0, 80, .inl di)), (f, .inl (N.2 0, 80, .inl fo)), (km, .inr (10, [.ref sa, .ref hs, .ref shs, .ref ja, .ref uu, .ref tb, .ref ob, .int (fd + nI 1)]))] := hD
  exact ck_iret hx hb hrt hlk ((fd + nI 1)) (ckRd_f (by simp [waF, cz_3, cz_8]) (by decide)) (hP.sub [5, 0, 1, 2, 3, 4] rfl) (hD.sub [5, 0, 1, 2, 3, 4] (by decide) rfl) hS ⟨Nat.le_of_ble_eq_true rfl, Nat.le_of_ble_eq_true rfl⟩ dX10_windAt_20
set_option maxHeartbeats 4000000 in
set_option maxRecDepth 100000 in
/-- X10_flies -/
theorem c_X10_flies (l : Launch) (N : ckN) (km : Nat) (sa : Nat) (hs : Nat) (shs : Nat) (ja : Nat) (uu : Nat) (tb : Nat) (ob : Nat) (fd : Int32) (a : Nat) (fl : Nat) (t : Nat) (wi : Nat) (d : Nat) (f : Nat) (nr : Nat) (tr : Nat → Int32) (di : Nat → Int32) (fo : Nat → Int32) (ne : Nat → Int32) (cf : Nat) (ra : Nat) (kd : Nat → Nat) (ht : Nat → Nat) (dr : Nat → Nat) (x : Int32) (y : Int32) (hAir : ckAir tr di cf kd ht dr) : ckI l yX10_flies cX10_flies 3 (some FieldType.int) { frames := 5, cells := 0, slots := 0, locals := 132 } N [.ref km, .int x, .int y] [(km, .inr (10, [.ref sa, .ref hs, .ref shs, .ref ja, .ref uu, .ref tb, .ref ob, .int fd])), (sa, .inr (6, [.ref a, .ref ra])), (a, .inr (0, [.ref fl, .ref wi, .ref nr])), (fl, .inr (1, [.ref t, .int (nI cf)])), (t, .inl (N.2 0, 64, .inl tr)), (wi, .inr (8, [.ref d, .ref f])), (d, .inl (N.2 0, 80, .inl di)), (f, .inl (N.2 0, 80, .inl fo)), (nr, .inl (N.2 0, 8, .inl ne))] (fun (r : Int32) (u : Int32) => ckRd (flF cf x y) (b2i (fFly tr fo kd ht (ix x) (ix y))) fd r u) (fun (u : Int32) => [(km, .inr (10, [.ref sa, .ref hs, .ref shs, .ref ja, .ref uu, .ref tb, .ref ob, .int u])), (sa, .inr (6, [.ref a, .ref ra])), (a, .inr (0, [.ref fl, .ref wi, .ref nr])), (fl, .inr (1, [.ref t, .int (nI cf)])), (t, .inl (N.2 0, 64, .inl tr)), (wi, .inr (8, [.ref d, .ref f])), (d, .inl (N.2 0, 80, .inl di)), (f, .inl (N.2 0, 80, .inl fo)), (nr, .inl (N.2 0, 8, .inl ne))]) := by
  refine ckI.of (by decide) (Nat.le_of_ble_eq_true rfl) ?_
  intro pg eg sg mg blw mth cg Ag ls hx hb hrt hml hown hlk hin hg hE hA hP hD hS hl
  have hown : sg.vm.findClass RX10 = some mg.cls := hown
  have hl : lv_has ls 3 [(0, .ref km), (1, .int x), (2, .int y)] := hl
  have C0 : ckC pg sg mg ([.ref km, .int x, .int y]).toArray cg cX10_flies 3 RX10 N Ag := ⟨⟨hx, hb, hml, hown, hg⟩, hE, hA⟩
  generalize hHe : sg.heap = H at hP
  have hS : va_S Ag sg.heap H [] := hHe ▸ hS
  have hn8 := hAir.1
  refine lv_aload_n hx hb dX10_flies_0 rfl (lv_at hl 0 rfl) ?_
  refine va_get (ci := 10) (v := .ref sa) (C := RX10) (T := TX10) (N := 8) hx hb hg inX10 hown hE.1 hP 0 rfl rfl 0 (by decide) (hg _ k1_216) (fun _ h9 => h9) rfl dX10_flies_1 ?_
  refine va_getN (ci := 6) (v := .ref a) (C := RX6) (T := TX6) (N := 2) (host := "KiteMeet") hx hb hg inX6 hown hE.1 hP 1 rfl rfl 0 (by decide) (hE.nf 15 rfl _) (fun _ h9 => h9) rfl dX10_flies_4 ?_
  refine va_getN (ci := 0) (v := .ref fl) (C := RX0) (T := TX0) (N := 3) (host := "KiteMeet") hx hb hg inX0 hown hE.1 hP 2 rfl rfl 0 (by decide) (hE.nf 3 rfl _) (fun _ h9 => h9) rfl dX10_flies_7 ?_
  refine lv_iload_n hx hb dX10_flies_10 rfl (lv_at hl 1 rfl) ?_
  refine ck_Vi (As := [.int x]) (rest := []) (wr := [(km, .inr (10, [.ref sa, .ref hs, .ref shs, .ref ja, .ref uu, .ref tb, .ref ob, .int fd])), (sa, .inr (6, [.ref a, .ref ra])), (a, .inr (0, [.ref fl, .ref wi, .ref nr])), (wi, .inr (8, [.ref d, .ref f])), (d, .inl (N.2 0, 80, .inl di)), (f, .inl (N.2 0, 80, .inl fo)), (nr, .inl (N.2 0, 8, .inl ne))]) C0 hP hD hS (c_X1_have l N fl t tr cf x (by omega)) myX1_have k2_97 ⟨Nat.le_of_ble_eq_true rfl, Nat.le_of_ble_eq_true rfl⟩ [3, 4] [0, 1, 2, 5, 6, 7, 8] ⟨⟨rfl, rfl⟩, by decide, by decide, by decide⟩ 3 rfl rfl rfl rfl hl.1 rfl (Nat.le_of_ble_eq_true rfl) dX10_flies_11 ⟨Nat.le_of_ble_eq_true rfl, Nat.le_of_ble_eq_true rfl⟩ (fun r_1 u0 H locs hw0 hP hD hS => ?_)
  have hw_2 : r_1 = (b2i (ckLt x cf)) := hw0
  subst hw_2
  have hP : va_P N.1 vwCl [(km, .inr (10, [.ref sa, .ref hs, .ref shs, .ref ja, .ref uu, .ref tb, .ref ob, .int fd])), (sa, .inr (6, [.ref a, .ref ra])), (a, .inr (0, [.ref fl, .ref wi, .ref nr])), (wi, .inr (8, [.ref d, .ref f])), (d, .inl (N.2 0, 80, .inl di)), (f, .inl (N.2 0, 80, .inl fo)), (nr, .inl (N.2 0, 8, .inl ne)), (fl, .inr (1, [.ref t, .int (nI cf)])), (t, .inl (N.2 0, 64, .inl tr))] H := hP
  have hD : va_D Ag [(km, .inr (10, [.ref sa, .ref hs, .ref shs, .ref ja, .ref uu, .ref tb, .ref ob, .int fd])), (sa, .inr (6, [.ref a, .ref ra])), (a, .inr (0, [.ref fl, .ref wi, .ref nr])), (wi, .inr (8, [.ref d, .ref f])), (d, .inl (N.2 0, 80, .inl di)), (f, .inl (N.2 0, 80, .inl fo)), (nr, .inl (N.2 0, 8, .inl ne)), (fl, .inr (1, [.ref t, .int (nI cf)])), (t, .inl (N.2 0, 64, .inl tr))] := hD
  refine ck_ifeq (b := ckLt x cf) (tgt := 24) hx hb dX10_flies_14 (by decide) (fun cz_3 => ?_) (fun cz_3 => ?_)
  · refine lv_aload_n hx hb dX10_flies_24 rfl (lv_at hl 0 rfl) ?_
    refine lv_ldc (own := RX10) (v := (-100001)) hx hb hown (hg _ k2_14) dX10_flies_25 ?_
    refine ck_Vi (As := [.int (-100001)]) (rest := []) (wr := [(sa, .inr (6, [.ref a, .ref ra])), (a, .inr (0, [.ref fl, .ref wi, .ref nr])), (wi, .inr (8, [.ref d, .ref f])), (d, .inl (N.2 0, 80, .inl di)), (f, .inl (N.2 0, 80, .inl fo)), (nr, .inl (N.2 0, 8, .inl ne)), (fl, .inr (1, [.ref t, .int (nI cf)])), (t, .inl (N.2 0, 64, .inl tr))]) C0 hP hD hS (c_X10_finding l N km sa hs shs ja uu tb ob fd (-100001) ) myX10_finding k2_15 ⟨Nat.le_of_ble_eq_true rfl, Nat.le_of_ble_eq_true rfl⟩ [0] [1, 2, 3, 4, 5, 6, 7, 8] ⟨⟨rfl, rfl⟩, by decide, by decide, by decide⟩ 0 rfl rfl rfl rfl hl.1 rfl (Nat.le_of_ble_eq_true rfl) dX10_flies_27 ⟨Nat.le_of_ble_eq_true rfl, Nat.le_of_ble_eq_true rfl⟩ (fun r_4 u0 H locs hw0 hP hD hS => ?_)
    have hw_5 : r_4 = (-100001) := hw0
    subst hw_5
    have hP : va_P N.1 vwCl [(sa, .inr (6, [.ref a, .ref ra])), (a, .inr (0, [.ref fl, .ref wi, .ref nr])), (wi, .inr (8, [.ref d, .ref f])), (d, .inl (N.2 0, 80, .inl di)), (f, .inl (N.2 0, 80, .inl fo)), (nr, .inl (N.2 0, 8, .inl ne)), (fl, .inr (1, [.ref t, .int (nI cf)])), (t, .inl (N.2 0, 64, .inl tr)), (km, .inr (10, [.ref sa, .ref hs, .ref shs, .ref ja, .ref uu, .ref tb, .ref ob, .int (fd + nI 1)]))] H := hP
    have hD : va_D Ag [(sa, .inr (6, [.ref a, .ref ra])), (a, .inr (0, [.ref fl, .ref wi, .ref nr])), (wi, .inr (8, [.ref d, .ref f])), (d, .inl (N.2 0, 80, .inl di)), (f, .inl (N.2 0, 80, .inl fo)), (nr, .inl (N.2 0, 8, .inl ne)), (fl, .inr (1, [.ref t, .int (nI cf)])), (t, .inl (N.2 0, 64, .inl tr)), (km, .inr (10, [.ref sa, .ref hs, .ref shs, .ref ja, .ref uu, .ref tb, .ref ob, .int (fd + nI 1)]))] := hD
    exact ck_iret hx hb hrt hlk ((fd + nI 1)) (ckRd_f (by simp [flF, cz_3]) (by decide)) (hP.sub [8, 0, 1, 6, 7, 2, 3, 4, 5] rfl) (hD.sub [8, 0, 1, 6, 7, 2, 3, 4, 5] (by decide) rfl) hS ⟨Nat.le_of_ble_eq_true rfl, Nat.le_of_ble_eq_true rfl⟩ dX10_flies_30
  refine lv_iload_n hx hb dX10_flies_17 rfl (lv_at hl 2 rfl) ?_
  refine ck_Si (As := [.int y]) (rest := []) (wr := [(km, .inr (10, [.ref sa, .ref hs, .ref shs, .ref ja, .ref uu, .ref tb, .ref ob, .int fd])), (sa, .inr (6, [.ref a, .ref ra])), (a, .inr (0, [.ref fl, .ref wi, .ref nr])), (wi, .inr (8, [.ref d, .ref f])), (d, .inl (N.2 0, 80, .inl di)), (f, .inl (N.2 0, 80, .inl fo)), (nr, .inl (N.2 0, 8, .inl ne)), (fl, .inr (1, [.ref t, .int (nI cf)])), (t, .inl (N.2 0, 64, .inl tr))]) C0 hP hD hS (c_X10_isMinute l N y ) myX10_isMinute k2_134 ⟨Nat.le_of_ble_eq_true rfl, Nat.le_of_ble_eq_true rfl⟩ [] [0, 1, 2, 3, 4, 5, 6, 7, 8] ⟨⟨rfl, rfl⟩, by decide, by decide, by decide⟩ rfl hl.1 rfl (Nat.le_of_ble_eq_true rfl) dX10_flies_18 ⟨Nat.le_of_ble_eq_true rfl, Nat.le_of_ble_eq_true rfl⟩ (fun r_6 u0 H locs hw0 hP hD hS => ?_)
  have hw_7 : r_6 = (b2i (ckIn y (nI 0) (nI 19))) := hw0
  subst hw_7
  have hP : va_P N.1 vwCl [(km, .inr (10, [.ref sa, .ref hs, .ref shs, .ref ja, .ref uu, .ref tb, .ref ob, .int fd])), (sa, .inr (6, [.ref a, .ref ra])), (a, .inr (0, [.ref fl, .ref wi, .ref nr])), (wi, .inr (8, [.ref d, .ref f])), (d, .inl (N.2 0, 80, .inl di)), (f, .inl (N.2 0, 80, .inl fo)), (nr, .inl (N.2 0, 8, .inl ne)), (fl, .inr (1, [.ref t, .int (nI cf)])), (t, .inl (N.2 0, 64, .inl tr))] H := hP
  have hD : va_D Ag [(km, .inr (10, [.ref sa, .ref hs, .ref shs, .ref ja, .ref uu, .ref tb, .ref ob, .int fd])), (sa, .inr (6, [.ref a, .ref ra])), (a, .inr (0, [.ref fl, .ref wi, .ref nr])), (wi, .inr (8, [.ref d, .ref f])), (d, .inl (N.2 0, 80, .inl di)), (f, .inl (N.2 0, 80, .inl fo)), (nr, .inl (N.2 0, 8, .inl ne)), (fl, .inr (1, [.ref t, .int (nI cf)])), (t, .inl (N.2 0, 64, .inl tr))] := hD
  refine ck_ifne (b := ckIn y (nI 0) (nI 19)) (tgt := 31) hx hb dX10_flies_21 (by decide) (fun cz_8 => ?_) (fun cz_8 => ?_)
  · obtain ⟨i, hi, rfl⟩ := (ckLt_t (by omega)).mp cz_3
    have exi : ix (nI i) = i := ix_nI (by omega)
    obtain ⟨k, -, hk, rfl⟩ := (ckIn_n (by decide) (by decide)).mp cz_8
    have exk : ix (nI k) = k := ix_nI (by omega)
    refine lv_aload_n hx hb dX10_flies_31 rfl (lv_at hl 0 rfl) ?_
    refine va_get (ci := 10) (v := .ref sa) (C := RX10) (T := TX10) (N := 8) hx hb hg inX10 hown hE.1 hP 0 rfl rfl 0 (by decide) (hg _ k1_216) (fun _ h9 => h9) rfl dX10_flies_32 ?_
    refine va_getN (ci := 6) (v := .ref a) (C := RX6) (T := TX6) (N := 2) (host := "KiteMeet") hx hb hg inX6 hown hE.1 hP 1 rfl rfl 0 (by decide) (hE.nf 15 rfl _) (fun _ h9 => h9) rfl dX10_flies_35 ?_
    refine lv_iload_n hx hb dX10_flies_38 rfl (lv_at hl 1 rfl) ?_
    refine lv_iload_n hx hb dX10_flies_39 rfl (lv_at hl 2 rfl) ?_
    refine ck_Vi (As := [.int (nI i), .int (nI k)]) (rest := []) (wr := [(km, .inr (10, [.ref sa, .ref hs, .ref shs, .ref ja, .ref uu, .ref tb, .ref ob, .int fd])), (sa, .inr (6, [.ref a, .ref ra]))]) C0 hP hD hS (c_X0_carries l N a fl t wi d f nr tr cf di fo ne kd ht dr i k hAir (by omega) (by omega)) myX0_carries k2_161 ⟨Nat.le_of_ble_eq_true rfl, Nat.le_of_ble_eq_true rfl⟩ [2, 7, 8, 3, 4, 5, 6] [0, 1] ⟨⟨rfl, rfl⟩, by decide, by decide, by decide⟩ 2 rfl rfl rfl rfl hl.1 rfl (Nat.le_of_ble_eq_true rfl) dX10_flies_40 ⟨Nat.le_of_ble_eq_true rfl, Nat.le_of_ble_eq_true rfl⟩ (fun r_9 u0 H locs hw0 hP hD hS => ?_)
    have hw_10 : r_9 = (b2i (fFly tr fo kd ht i k)) := hw0
    subst hw_10
    have hP : va_P N.1 vwCl [(km, .inr (10, [.ref sa, .ref hs, .ref shs, .ref ja, .ref uu, .ref tb, .ref ob, .int fd])), (sa, .inr (6, [.ref a, .ref ra])), (a, .inr (0, [.ref fl, .ref wi, .ref nr])), (fl, .inr (1, [.ref t, .int (nI cf)])), (t, .inl (N.2 0, 64, .inl tr)), (wi, .inr (8, [.ref d, .ref f])), (d, .inl (N.2 0, 80, .inl di)), (f, .inl (N.2 0, 80, .inl fo)), (nr, .inl (N.2 0, 8, .inl ne))] H := hP
    have hD : va_D Ag [(km, .inr (10, [.ref sa, .ref hs, .ref shs, .ref ja, .ref uu, .ref tb, .ref ob, .int fd])), (sa, .inr (6, [.ref a, .ref ra])), (a, .inr (0, [.ref fl, .ref wi, .ref nr])), (fl, .inr (1, [.ref t, .int (nI cf)])), (t, .inl (N.2 0, 64, .inl tr)), (wi, .inr (8, [.ref d, .ref f])), (d, .inl (N.2 0, 80, .inl di)), (f, .inl (N.2 0, 80, .inl fo)), (nr, .inl (N.2 0, 8, .inl ne))] := hD
    refine ck_Si (As := [.int (b2i (fFly tr fo kd ht i k))]) (rest := []) (wr := [(km, .inr (10, [.ref sa, .ref hs, .ref shs, .ref ja, .ref uu, .ref tb, .ref ob, .int fd])), (sa, .inr (6, [.ref a, .ref ra])), (a, .inr (0, [.ref fl, .ref wi, .ref nr])), (fl, .inr (1, [.ref t, .int (nI cf)])), (t, .inl (N.2 0, 64, .inl tr)), (wi, .inr (8, [.ref d, .ref f])), (d, .inl (N.2 0, 80, .inl di)), (f, .inl (N.2 0, 80, .inl fo)), (nr, .inl (N.2 0, 8, .inl ne))]) C0 hP hD hS (c_X10_oneIf l N (fFly tr fo kd ht i k) ) myX10_oneIf k2_175 ⟨Nat.le_of_ble_eq_true rfl, Nat.le_of_ble_eq_true rfl⟩ [] [0, 1, 2, 3, 4, 5, 6, 7, 8] ⟨⟨rfl, rfl⟩, by decide, by decide, by decide⟩ rfl hl.1 rfl (Nat.le_of_ble_eq_true rfl) dX10_flies_43 ⟨Nat.le_of_ble_eq_true rfl, Nat.le_of_ble_eq_true rfl⟩ (fun r_11 u0 H locs hw0 hP hD hS => ?_)
    have hw_12 : r_11 = (b2i (fFly tr fo kd ht i k)) := hw0
    subst hw_12
    have hP : va_P N.1 vwCl [(km, .inr (10, [.ref sa, .ref hs, .ref shs, .ref ja, .ref uu, .ref tb, .ref ob, .int fd])), (sa, .inr (6, [.ref a, .ref ra])), (a, .inr (0, [.ref fl, .ref wi, .ref nr])), (fl, .inr (1, [.ref t, .int (nI cf)])), (t, .inl (N.2 0, 64, .inl tr)), (wi, .inr (8, [.ref d, .ref f])), (d, .inl (N.2 0, 80, .inl di)), (f, .inl (N.2 0, 80, .inl fo)), (nr, .inl (N.2 0, 8, .inl ne))] H := hP
    have hD : va_D Ag [(km, .inr (10, [.ref sa, .ref hs, .ref shs, .ref ja, .ref uu, .ref tb, .ref ob, .int fd])), (sa, .inr (6, [.ref a, .ref ra])), (a, .inr (0, [.ref fl, .ref wi, .ref nr])), (fl, .inr (1, [.ref t, .int (nI cf)])), (t, .inl (N.2 0, 64, .inl tr)), (wi, .inr (8, [.ref d, .ref f])), (d, .inl (N.2 0, 80, .inl di)), (f, .inl (N.2 0, 80, .inl fo)), (nr, .inl (N.2 0, 8, .inl ne))] := hD
    exact ck_iret hx hb hrt hlk (fd) (ckRd_ok (by simp [flF, cz_3, cz_8, exi, exk]) (by rw [exi, exk])) hP hD hS ⟨Nat.le_of_ble_eq_true rfl, Nat.le_of_ble_eq_true rfl⟩ dX10_flies_46
  refine lv_aload_n hx hb dX10_flies_24 rfl (lv_at hl 0 rfl) ?_
  refine lv_ldc (own := RX10) (v := (-100001)) hx hb hown (hg _ k2_14) dX10_flies_25 ?_
  refine ck_Vi (As := [.int (-100001)]) (rest := []) (wr := [(sa, .inr (6, [.ref a, .ref ra])), (a, .inr (0, [.ref fl, .ref wi, .ref nr])), (wi, .inr (8, [.ref d, .ref f])), (d, .inl (N.2 0, 80, .inl di)), (f, .inl (N.2 0, 80, .inl fo)), (nr, .inl (N.2 0, 8, .inl ne)), (fl, .inr (1, [.ref t, .int (nI cf)])), (t, .inl (N.2 0, 64, .inl tr))]) C0 hP hD hS (c_X10_finding l N km sa hs shs ja uu tb ob fd (-100001) ) myX10_finding k2_15 ⟨Nat.le_of_ble_eq_true rfl, Nat.le_of_ble_eq_true rfl⟩ [0] [1, 2, 3, 4, 5, 6, 7, 8] ⟨⟨rfl, rfl⟩, by decide, by decide, by decide⟩ 0 rfl rfl rfl rfl hl.1 rfl (Nat.le_of_ble_eq_true rfl) dX10_flies_27 ⟨Nat.le_of_ble_eq_true rfl, Nat.le_of_ble_eq_true rfl⟩ (fun r_13 u0 H locs hw0 hP hD hS => ?_)
  have hw_14 : r_13 = (-100001) := hw0
  subst hw_14
  have hP : va_P N.1 vwCl [(sa, .inr (6, [.ref a, .ref ra])), (a, .inr (0, [.ref fl, .ref wi, .ref nr])), (wi, .inr (8, [.ref d, .ref f])), (d, .inl (N.2 0, 80, .inl di)), (f, .inl (N.2 0, 80, .inl fo)), (nr, .inl (N.2 0, 8, .inl ne)), (fl, .inr (1, [.ref t, .int (nI cf)])), (t, .inl (N.2 0, 64, .inl tr)), (km, .inr (10, [.ref sa, .ref hs, .ref shs, .ref ja, .ref uu, .ref tb, .ref ob, .int (fd + nI 1)]))] H := hP
  have hD : va_D Ag [(sa, .inr (6, [.ref a, .ref ra])), (a, .inr (0, [.ref fl, .ref wi, .ref nr])), (wi, .inr (8, [.ref d, .ref f])), (d, .inl (N.2 0, 80, .inl di)), (f, .inl (N.2 0, 80, .inl fo)), (nr, .inl (N.2 0, 8, .inl ne)), (fl, .inr (1, [.ref t, .int (nI cf)])), (t, .inl (N.2 0, 64, .inl tr)), (km, .inr (10, [.ref sa, .ref hs, .ref shs, .ref ja, .ref uu, .ref tb, .ref ob, .int (fd + nI 1)]))] := hD
  exact ck_iret hx hb hrt hlk ((fd + nI 1)) (ckRd_f (by simp [flF, cz_3, cz_8]) (by decide)) (hP.sub [8, 0, 1, 6, 7, 2, 3, 4, 5] rfl) (hD.sub [8, 0, 1, 6, 7, 2, 3, 4, 5] (by decide) rfl) hS ⟨Nat.le_of_ble_eq_true rfl, Nat.le_of_ble_eq_true rfl⟩ dX10_flies_30
set_option maxHeartbeats 4000000 in
set_option maxRecDepth 100000 in
/-- X10_kite -/
theorem c_X10_kite (l : Launch) (N : ckN) (km : Nat) (sa : Nat) (hs : Nat) (shs : Nat) (ja : Nat) (uu : Nat) (tb : Nat) (ob : Nat) (fd : Int32) (a : Nat) (fl : Nat) (t : Nat) (wi : Nat) (d : Nat) (f : Nat) (nr : Nat) (tr : Nat → Int32) (di : Nat → Int32) (fo : Nat → Int32) (ne : Nat → Int32) (cf : Nat) (ra : Nat) (kd : Nat → Nat) (ht : Nat → Nat) (dr : Nat → Nat) (x : Int32) (y : Int32) (bb : Bool) (hAir : ckAir tr di cf kd ht dr) : ckI l yX10_kite cX10_kite 4 (some FieldType.int) { frames := 5, cells := 0, slots := 0, locals := 132 } N [.ref km, .int x, .int y, .int (b2i bb)] [(km, .inr (10, [.ref sa, .ref hs, .ref shs, .ref ja, .ref uu, .ref tb, .ref ob, .int fd])), (sa, .inr (6, [.ref a, .ref ra])), (a, .inr (0, [.ref fl, .ref wi, .ref nr])), (fl, .inr (1, [.ref t, .int (nI cf)])), (t, .inl (N.2 0, 64, .inl tr)), (wi, .inr (8, [.ref d, .ref f])), (d, .inl (N.2 0, 80, .inl di)), (f, .inl (N.2 0, 80, .inl fo)), (nr, .inl (N.2 0, 8, .inl ne))] (fun (r : Int32) (u : Int32) => ckRd (kiF cf (fun i m => fFly tr fo kd ht i m) x y) (if bb = true then fY tr ht dr (ix x) (ix y) else fX tr ht dr (ix x) (ix y)) fd r u) (fun (u : Int32) => [(km, .inr (10, [.ref sa, .ref hs, .ref shs, .ref ja, .ref uu, .ref tb, .ref ob, .int u])), (sa, .inr (6, [.ref a, .ref ra])), (a, .inr (0, [.ref fl, .ref wi, .ref nr])), (fl, .inr (1, [.ref t, .int (nI cf)])), (t, .inl (N.2 0, 64, .inl tr)), (wi, .inr (8, [.ref d, .ref f])), (d, .inl (N.2 0, 80, .inl di)), (f, .inl (N.2 0, 80, .inl fo)), (nr, .inl (N.2 0, 8, .inl ne))]) := by
  refine ckI.of (by decide) (Nat.le_of_ble_eq_true rfl) ?_
  intro pg eg sg mg blw mth cg Ag ls hx hb hrt hml hown hlk hin hg hE hA hP hD hS hl
  have hown : sg.vm.findClass RX10 = some mg.cls := hown
  have hl : lv_has ls 4 [(0, .ref km), (1, .int x), (2, .int y), (3, .int (b2i bb))] := hl
  have C0 : ckC pg sg mg ([.ref km, .int x, .int y, .int (b2i bb)]).toArray cg cX10_kite 4 RX10 N Ag := ⟨⟨hx, hb, hml, hown, hg⟩, hE, hA⟩
  generalize hHe : sg.heap = H at hP
  have hS : va_S Ag sg.heap H [] := hHe ▸ hS
  have hn8 := hAir.1
  refine lv_aload_n hx hb dX10_kite_0 rfl (lv_at hl 0 rfl) ?_
  refine va_get (ci := 10) (v := .ref sa) (C := RX10) (T := TX10) (N := 8) hx hb hg inX10 hown hE.1 hP 0 rfl rfl 0 (by decide) (hg _ k1_216) (fun _ h9 => h9) rfl dX10_kite_1 ?_
  refine va_getN (ci := 6) (v := .ref a) (C := RX6) (T := TX6) (N := 2) (host := "KiteMeet") hx hb hg inX6 hown hE.1 hP 1 rfl rfl 0 (by decide) (hE.nf 15 rfl _) (fun _ h9 => h9) rfl dX10_kite_4 ?_
  refine va_getN (ci := 0) (v := .ref fl) (C := RX0) (T := TX0) (N := 3) (host := "KiteMeet") hx hb hg inX0 hown hE.1 hP 2 rfl rfl 0 (by decide) (hE.nf 3 rfl _) (fun _ h9 => h9) rfl dX10_kite_7 ?_
  refine lv_iload_n hx hb dX10_kite_10 rfl (lv_at hl 1 rfl) ?_
  refine ck_Vi (As := [.int x]) (rest := []) (wr := [(km, .inr (10, [.ref sa, .ref hs, .ref shs, .ref ja, .ref uu, .ref tb, .ref ob, .int fd])), (sa, .inr (6, [.ref a, .ref ra])), (a, .inr (0, [.ref fl, .ref wi, .ref nr])), (wi, .inr (8, [.ref d, .ref f])), (d, .inl (N.2 0, 80, .inl di)), (f, .inl (N.2 0, 80, .inl fo)), (nr, .inl (N.2 0, 8, .inl ne))]) C0 hP hD hS (c_X1_have l N fl t tr cf x (by omega)) myX1_have k2_97 ⟨Nat.le_of_ble_eq_true rfl, Nat.le_of_ble_eq_true rfl⟩ [3, 4] [0, 1, 2, 5, 6, 7, 8] ⟨⟨rfl, rfl⟩, by decide, by decide, by decide⟩ 3 rfl rfl rfl rfl hl.1 rfl (Nat.le_of_ble_eq_true rfl) dX10_kite_11 ⟨Nat.le_of_ble_eq_true rfl, Nat.le_of_ble_eq_true rfl⟩ (fun r_1 u0 H locs hw0 hP hD hS => ?_)
  have hw_2 : r_1 = (b2i (ckLt x cf)) := hw0
  subst hw_2
  have hP : va_P N.1 vwCl [(km, .inr (10, [.ref sa, .ref hs, .ref shs, .ref ja, .ref uu, .ref tb, .ref ob, .int fd])), (sa, .inr (6, [.ref a, .ref ra])), (a, .inr (0, [.ref fl, .ref wi, .ref nr])), (wi, .inr (8, [.ref d, .ref f])), (d, .inl (N.2 0, 80, .inl di)), (f, .inl (N.2 0, 80, .inl fo)), (nr, .inl (N.2 0, 8, .inl ne)), (fl, .inr (1, [.ref t, .int (nI cf)])), (t, .inl (N.2 0, 64, .inl tr))] H := hP
  have hD : va_D Ag [(km, .inr (10, [.ref sa, .ref hs, .ref shs, .ref ja, .ref uu, .ref tb, .ref ob, .int fd])), (sa, .inr (6, [.ref a, .ref ra])), (a, .inr (0, [.ref fl, .ref wi, .ref nr])), (wi, .inr (8, [.ref d, .ref f])), (d, .inl (N.2 0, 80, .inl di)), (f, .inl (N.2 0, 80, .inl fo)), (nr, .inl (N.2 0, 8, .inl ne)), (fl, .inr (1, [.ref t, .int (nI cf)])), (t, .inl (N.2 0, 64, .inl tr))] := hD
  refine ck_ifeq (b := ckLt x cf) (tgt := 24) hx hb dX10_kite_14 (by decide) (fun cz_3 => ?_) (fun cz_3 => ?_)
  · refine lv_aload_n hx hb dX10_kite_24 rfl (lv_at hl 0 rfl) ?_
    refine lv_ldc (own := RX10) (v := (-100001)) hx hb hown (hg _ k2_14) dX10_kite_25 ?_
    refine ck_Vi (As := [.int (-100001)]) (rest := []) (wr := [(sa, .inr (6, [.ref a, .ref ra])), (a, .inr (0, [.ref fl, .ref wi, .ref nr])), (wi, .inr (8, [.ref d, .ref f])), (d, .inl (N.2 0, 80, .inl di)), (f, .inl (N.2 0, 80, .inl fo)), (nr, .inl (N.2 0, 8, .inl ne)), (fl, .inr (1, [.ref t, .int (nI cf)])), (t, .inl (N.2 0, 64, .inl tr))]) C0 hP hD hS (c_X10_finding l N km sa hs shs ja uu tb ob fd (-100001) ) myX10_finding k2_15 ⟨Nat.le_of_ble_eq_true rfl, Nat.le_of_ble_eq_true rfl⟩ [0] [1, 2, 3, 4, 5, 6, 7, 8] ⟨⟨rfl, rfl⟩, by decide, by decide, by decide⟩ 0 rfl rfl rfl rfl hl.1 rfl (Nat.le_of_ble_eq_true rfl) dX10_kite_27 ⟨Nat.le_of_ble_eq_true rfl, Nat.le_of_ble_eq_true rfl⟩ (fun r_4 u0 H locs hw0 hP hD hS => ?_)
    have hw_5 : r_4 = (-100001) := hw0
    subst hw_5
    have hP : va_P N.1 vwCl [(sa, .inr (6, [.ref a, .ref ra])), (a, .inr (0, [.ref fl, .ref wi, .ref nr])), (wi, .inr (8, [.ref d, .ref f])), (d, .inl (N.2 0, 80, .inl di)), (f, .inl (N.2 0, 80, .inl fo)), (nr, .inl (N.2 0, 8, .inl ne)), (fl, .inr (1, [.ref t, .int (nI cf)])), (t, .inl (N.2 0, 64, .inl tr)), (km, .inr (10, [.ref sa, .ref hs, .ref shs, .ref ja, .ref uu, .ref tb, .ref ob, .int (fd + nI 1)]))] H := hP
    have hD : va_D Ag [(sa, .inr (6, [.ref a, .ref ra])), (a, .inr (0, [.ref fl, .ref wi, .ref nr])), (wi, .inr (8, [.ref d, .ref f])), (d, .inl (N.2 0, 80, .inl di)), (f, .inl (N.2 0, 80, .inl fo)), (nr, .inl (N.2 0, 8, .inl ne)), (fl, .inr (1, [.ref t, .int (nI cf)])), (t, .inl (N.2 0, 64, .inl tr)), (km, .inr (10, [.ref sa, .ref hs, .ref shs, .ref ja, .ref uu, .ref tb, .ref ob, .int (fd + nI 1)]))] := hD
    exact ck_iret hx hb hrt hlk ((fd + nI 1)) (ckRd_f (by simp [kiF, cz_3]) (by decide)) (hP.sub [8, 0, 1, 6, 7, 2, 3, 4, 5] rfl) (hD.sub [8, 0, 1, 6, 7, 2, 3, 4, 5] (by decide) rfl) hS ⟨Nat.le_of_ble_eq_true rfl, Nat.le_of_ble_eq_true rfl⟩ dX10_kite_30
  refine lv_iload_n hx hb dX10_kite_17 rfl (lv_at hl 2 rfl) ?_
  refine ck_Si (As := [.int y]) (rest := []) (wr := [(km, .inr (10, [.ref sa, .ref hs, .ref shs, .ref ja, .ref uu, .ref tb, .ref ob, .int fd])), (sa, .inr (6, [.ref a, .ref ra])), (a, .inr (0, [.ref fl, .ref wi, .ref nr])), (wi, .inr (8, [.ref d, .ref f])), (d, .inl (N.2 0, 80, .inl di)), (f, .inl (N.2 0, 80, .inl fo)), (nr, .inl (N.2 0, 8, .inl ne)), (fl, .inr (1, [.ref t, .int (nI cf)])), (t, .inl (N.2 0, 64, .inl tr))]) C0 hP hD hS (c_X10_isMinute l N y ) myX10_isMinute k2_134 ⟨Nat.le_of_ble_eq_true rfl, Nat.le_of_ble_eq_true rfl⟩ [] [0, 1, 2, 3, 4, 5, 6, 7, 8] ⟨⟨rfl, rfl⟩, by decide, by decide, by decide⟩ rfl hl.1 rfl (Nat.le_of_ble_eq_true rfl) dX10_kite_18 ⟨Nat.le_of_ble_eq_true rfl, Nat.le_of_ble_eq_true rfl⟩ (fun r_6 u0 H locs hw0 hP hD hS => ?_)
  have hw_7 : r_6 = (b2i (ckIn y (nI 0) (nI 19))) := hw0
  subst hw_7
  have hP : va_P N.1 vwCl [(km, .inr (10, [.ref sa, .ref hs, .ref shs, .ref ja, .ref uu, .ref tb, .ref ob, .int fd])), (sa, .inr (6, [.ref a, .ref ra])), (a, .inr (0, [.ref fl, .ref wi, .ref nr])), (wi, .inr (8, [.ref d, .ref f])), (d, .inl (N.2 0, 80, .inl di)), (f, .inl (N.2 0, 80, .inl fo)), (nr, .inl (N.2 0, 8, .inl ne)), (fl, .inr (1, [.ref t, .int (nI cf)])), (t, .inl (N.2 0, 64, .inl tr))] H := hP
  have hD : va_D Ag [(km, .inr (10, [.ref sa, .ref hs, .ref shs, .ref ja, .ref uu, .ref tb, .ref ob, .int fd])), (sa, .inr (6, [.ref a, .ref ra])), (a, .inr (0, [.ref fl, .ref wi, .ref nr])), (wi, .inr (8, [.ref d, .ref f])), (d, .inl (N.2 0, 80, .inl di)), (f, .inl (N.2 0, 80, .inl fo)), (nr, .inl (N.2 0, 8, .inl ne)), (fl, .inr (1, [.ref t, .int (nI cf)])), (t, .inl (N.2 0, 64, .inl tr))] := hD
  refine ck_ifne (b := ckIn y (nI 0) (nI 19)) (tgt := 31) hx hb dX10_kite_21 (by decide) (fun cz_8 => ?_) (fun cz_8 => ?_)
  · obtain ⟨i, hi, rfl⟩ := (ckLt_t (by omega)).mp cz_3
    have exi : ix (nI i) = i := ix_nI (by omega)
    obtain ⟨k, -, hk, rfl⟩ := (ckIn_n (by decide) (by decide)).mp cz_8
    have exk : ix (nI k) = k := ix_nI (by omega)
    refine lv_aload_n hx hb dX10_kite_31 rfl (lv_at hl 0 rfl) ?_
    refine va_get (ci := 10) (v := .ref sa) (C := RX10) (T := TX10) (N := 8) hx hb hg inX10 hown hE.1 hP 0 rfl rfl 0 (by decide) (hg _ k1_216) (fun _ h9 => h9) rfl dX10_kite_32 ?_
    refine va_getN (ci := 6) (v := .ref a) (C := RX6) (T := TX6) (N := 2) (host := "KiteMeet") hx hb hg inX6 hown hE.1 hP 1 rfl rfl 0 (by decide) (hE.nf 15 rfl _) (fun _ h9 => h9) rfl dX10_kite_35 ?_
    refine lv_iload_n hx hb dX10_kite_38 rfl (lv_at hl 1 rfl) ?_
    refine lv_iload_n hx hb dX10_kite_39 rfl (lv_at hl 2 rfl) ?_
    refine ck_Vi (As := [.int (nI i), .int (nI k)]) (rest := []) (wr := [(km, .inr (10, [.ref sa, .ref hs, .ref shs, .ref ja, .ref uu, .ref tb, .ref ob, .int fd])), (sa, .inr (6, [.ref a, .ref ra]))]) C0 hP hD hS (c_X0_carries l N a fl t wi d f nr tr cf di fo ne kd ht dr i k hAir (by omega) (by omega)) myX0_carries k2_161 ⟨Nat.le_of_ble_eq_true rfl, Nat.le_of_ble_eq_true rfl⟩ [2, 7, 8, 3, 4, 5, 6] [0, 1] ⟨⟨rfl, rfl⟩, by decide, by decide, by decide⟩ 2 rfl rfl rfl rfl hl.1 rfl (Nat.le_of_ble_eq_true rfl) dX10_kite_40 ⟨Nat.le_of_ble_eq_true rfl, Nat.le_of_ble_eq_true rfl⟩ (fun r_9 u0 H locs hw0 hP hD hS => ?_)
    have hw_10 : r_9 = (b2i (fFly tr fo kd ht i k)) := hw0
    subst hw_10
    have hP : va_P N.1 vwCl [(km, .inr (10, [.ref sa, .ref hs, .ref shs, .ref ja, .ref uu, .ref tb, .ref ob, .int fd])), (sa, .inr (6, [.ref a, .ref ra])), (a, .inr (0, [.ref fl, .ref wi, .ref nr])), (fl, .inr (1, [.ref t, .int (nI cf)])), (t, .inl (N.2 0, 64, .inl tr)), (wi, .inr (8, [.ref d, .ref f])), (d, .inl (N.2 0, 80, .inl di)), (f, .inl (N.2 0, 80, .inl fo)), (nr, .inl (N.2 0, 8, .inl ne))] H := hP
    have hD : va_D Ag [(km, .inr (10, [.ref sa, .ref hs, .ref shs, .ref ja, .ref uu, .ref tb, .ref ob, .int fd])), (sa, .inr (6, [.ref a, .ref ra])), (a, .inr (0, [.ref fl, .ref wi, .ref nr])), (fl, .inr (1, [.ref t, .int (nI cf)])), (t, .inl (N.2 0, 64, .inl tr)), (wi, .inr (8, [.ref d, .ref f])), (d, .inl (N.2 0, 80, .inl di)), (f, .inl (N.2 0, 80, .inl fo)), (nr, .inl (N.2 0, 8, .inl ne))] := hD
    refine ck_ifne (b := fFly tr fo kd ht i k) (tgt := 53) hx hb dX10_kite_43 (by decide) (fun cz_11 => ?_) (fun cz_11 => ?_)
    · refine lv_iload_n hx hb dX10_kite_53 rfl (lv_at hl 3 rfl) ?_
      refine ck_ifeq (b := bb) (tgt := 72) hx hb dX10_kite_54 (by decide) (fun cz_12 => ?_) (fun cz_12 => ?_)
      · refine lv_aload_n hx hb dX10_kite_72 rfl (lv_at hl 0 rfl) ?_
        refine va_get (ci := 10) (v := .ref sa) (C := RX10) (T := TX10) (N := 8) hx hb hg inX10 hown hE.1 hP 0 rfl rfl 0 (by decide) (hg _ k1_216) (fun _ h9 => h9) rfl dX10_kite_73 ?_
        refine va_getN (ci := 6) (v := .ref a) (C := RX6) (T := TX6) (N := 2) (host := "KiteMeet") hx hb hg inX6 hown hE.1 hP 1 rfl rfl 0 (by decide) (hE.nf 15 rfl _) (fun _ h9 => h9) rfl dX10_kite_76 ?_
        refine lv_iload_n hx hb dX10_kite_79 rfl (lv_at hl 1 rfl) ?_
        refine lv_iload_n hx hb dX10_kite_80 rfl (lv_at hl 2 rfl) ?_
        refine ck_Vi (As := [.int (nI i), .int (nI k)]) (rest := []) (wr := [(km, .inr (10, [.ref sa, .ref hs, .ref shs, .ref ja, .ref uu, .ref tb, .ref ob, .int fd])), (sa, .inr (6, [.ref a, .ref ra]))]) C0 hP hD hS (c_X0_kiteX l N a fl t wi d f nr tr cf di fo ne kd ht dr i k hAir (by omega) (by omega)) myX0_kiteX k2_194 ⟨Nat.le_of_ble_eq_true rfl, Nat.le_of_ble_eq_true rfl⟩ [2, 3, 4, 5, 6, 7, 8] [0, 1] ⟨⟨rfl, rfl⟩, by decide, by decide, by decide⟩ 2 rfl rfl rfl rfl hl.1 rfl (Nat.le_of_ble_eq_true rfl) dX10_kite_81 ⟨Nat.le_of_ble_eq_true rfl, Nat.le_of_ble_eq_true rfl⟩ (fun r_13 u0 H locs hw0 hP hD hS => ?_)
        have hw_14 : r_13 = (fX tr ht dr i k) := hw0
        subst hw_14
        have hP : va_P N.1 vwCl [(km, .inr (10, [.ref sa, .ref hs, .ref shs, .ref ja, .ref uu, .ref tb, .ref ob, .int fd])), (sa, .inr (6, [.ref a, .ref ra])), (a, .inr (0, [.ref fl, .ref wi, .ref nr])), (fl, .inr (1, [.ref t, .int (nI cf)])), (t, .inl (N.2 0, 64, .inl tr)), (wi, .inr (8, [.ref d, .ref f])), (d, .inl (N.2 0, 80, .inl di)), (f, .inl (N.2 0, 80, .inl fo)), (nr, .inl (N.2 0, 8, .inl ne))] H := hP
        have hD : va_D Ag [(km, .inr (10, [.ref sa, .ref hs, .ref shs, .ref ja, .ref uu, .ref tb, .ref ob, .int fd])), (sa, .inr (6, [.ref a, .ref ra])), (a, .inr (0, [.ref fl, .ref wi, .ref nr])), (fl, .inr (1, [.ref t, .int (nI cf)])), (t, .inl (N.2 0, 64, .inl tr)), (wi, .inr (8, [.ref d, .ref f])), (d, .inl (N.2 0, 80, .inl di)), (f, .inl (N.2 0, 80, .inl fo)), (nr, .inl (N.2 0, 8, .inl ne))] := hD
        exact ck_iret hx hb hrt hlk (fd) (ckRd_ok (by simp [kiF, cz_3, cz_8, exi, exk, cz_11, cz_12]) (by rw [exi, exk, if_neg (by rw [cz_12]; decide)])) hP hD hS ⟨Nat.le_of_ble_eq_true rfl, Nat.le_of_ble_eq_true rfl⟩ dX10_kite_84
      refine lv_aload_n hx hb dX10_kite_57 rfl (lv_at hl 0 rfl) ?_
      refine va_get (ci := 10) (v := .ref sa) (C := RX10) (T := TX10) (N := 8) hx hb hg inX10 hown hE.1 hP 0 rfl rfl 0 (by decide) (hg _ k1_216) (fun _ h9 => h9) rfl dX10_kite_58 ?_
      refine va_getN (ci := 6) (v := .ref a) (C := RX6) (T := TX6) (N := 2) (host := "KiteMeet") hx hb hg inX6 hown hE.1 hP 1 rfl rfl 0 (by decide) (hE.nf 15 rfl _) (fun _ h9 => h9) rfl dX10_kite_61 ?_
      refine lv_iload_n hx hb dX10_kite_64 rfl (lv_at hl 1 rfl) ?_
      refine lv_iload_n hx hb dX10_kite_65 rfl (lv_at hl 2 rfl) ?_
      refine ck_Vi (As := [.int (nI i), .int (nI k)]) (rest := []) (wr := [(km, .inr (10, [.ref sa, .ref hs, .ref shs, .ref ja, .ref uu, .ref tb, .ref ob, .int fd])), (sa, .inr (6, [.ref a, .ref ra]))]) C0 hP hD hS (c_X0_kiteY l N a fl t wi d f nr tr cf di fo ne kd ht dr i k hAir (by omega) (by omega)) myX0_kiteY k2_183 ⟨Nat.le_of_ble_eq_true rfl, Nat.le_of_ble_eq_true rfl⟩ [2, 3, 4, 5, 6, 7, 8] [0, 1] ⟨⟨rfl, rfl⟩, by decide, by decide, by decide⟩ 2 rfl rfl rfl rfl hl.1 rfl (Nat.le_of_ble_eq_true rfl) dX10_kite_66 ⟨Nat.le_of_ble_eq_true rfl, Nat.le_of_ble_eq_true rfl⟩ (fun r_15 u0 H locs hw0 hP hD hS => ?_)
      have hw_16 : r_15 = (fY tr ht dr i k) := hw0
      subst hw_16
      have hP : va_P N.1 vwCl [(km, .inr (10, [.ref sa, .ref hs, .ref shs, .ref ja, .ref uu, .ref tb, .ref ob, .int fd])), (sa, .inr (6, [.ref a, .ref ra])), (a, .inr (0, [.ref fl, .ref wi, .ref nr])), (fl, .inr (1, [.ref t, .int (nI cf)])), (t, .inl (N.2 0, 64, .inl tr)), (wi, .inr (8, [.ref d, .ref f])), (d, .inl (N.2 0, 80, .inl di)), (f, .inl (N.2 0, 80, .inl fo)), (nr, .inl (N.2 0, 8, .inl ne))] H := hP
      have hD : va_D Ag [(km, .inr (10, [.ref sa, .ref hs, .ref shs, .ref ja, .ref uu, .ref tb, .ref ob, .int fd])), (sa, .inr (6, [.ref a, .ref ra])), (a, .inr (0, [.ref fl, .ref wi, .ref nr])), (fl, .inr (1, [.ref t, .int (nI cf)])), (t, .inl (N.2 0, 64, .inl tr)), (wi, .inr (8, [.ref d, .ref f])), (d, .inl (N.2 0, 80, .inl di)), (f, .inl (N.2 0, 80, .inl fo)), (nr, .inl (N.2 0, 8, .inl ne))] := hD
      refine lv_goto (tgt := 84) hx hb dX10_kite_69 (by decide) ?_
      exact ck_iret hx hb hrt hlk (fd) (ckRd_ok (by simp [kiF, cz_3, cz_8, exi, exk, cz_11, cz_12]) (by rw [exi, exk, if_pos cz_12])) hP hD hS ⟨Nat.le_of_ble_eq_true rfl, Nat.le_of_ble_eq_true rfl⟩ dX10_kite_84
    refine lv_aload_n hx hb dX10_kite_46 rfl (lv_at hl 0 rfl) ?_
    refine lv_ldc (own := RX10) (v := (-100006)) hx hb hown (hg _ k2_182) dX10_kite_47 ?_
    refine ck_Vi (As := [.int (-100006)]) (rest := []) (wr := [(sa, .inr (6, [.ref a, .ref ra])), (a, .inr (0, [.ref fl, .ref wi, .ref nr])), (fl, .inr (1, [.ref t, .int (nI cf)])), (t, .inl (N.2 0, 64, .inl tr)), (wi, .inr (8, [.ref d, .ref f])), (d, .inl (N.2 0, 80, .inl di)), (f, .inl (N.2 0, 80, .inl fo)), (nr, .inl (N.2 0, 8, .inl ne))]) C0 hP hD hS (c_X10_finding l N km sa hs shs ja uu tb ob fd (-100006) ) myX10_finding k2_15 ⟨Nat.le_of_ble_eq_true rfl, Nat.le_of_ble_eq_true rfl⟩ [0] [1, 2, 3, 4, 5, 6, 7, 8] ⟨⟨rfl, rfl⟩, by decide, by decide, by decide⟩ 0 rfl rfl rfl rfl hl.1 rfl (Nat.le_of_ble_eq_true rfl) dX10_kite_49 ⟨Nat.le_of_ble_eq_true rfl, Nat.le_of_ble_eq_true rfl⟩ (fun r_17 u0 H locs hw0 hP hD hS => ?_)
    have hw_18 : r_17 = (-100006) := hw0
    subst hw_18
    have hP : va_P N.1 vwCl [(sa, .inr (6, [.ref a, .ref ra])), (a, .inr (0, [.ref fl, .ref wi, .ref nr])), (fl, .inr (1, [.ref t, .int (nI cf)])), (t, .inl (N.2 0, 64, .inl tr)), (wi, .inr (8, [.ref d, .ref f])), (d, .inl (N.2 0, 80, .inl di)), (f, .inl (N.2 0, 80, .inl fo)), (nr, .inl (N.2 0, 8, .inl ne)), (km, .inr (10, [.ref sa, .ref hs, .ref shs, .ref ja, .ref uu, .ref tb, .ref ob, .int (fd + nI 1)]))] H := hP
    have hD : va_D Ag [(sa, .inr (6, [.ref a, .ref ra])), (a, .inr (0, [.ref fl, .ref wi, .ref nr])), (fl, .inr (1, [.ref t, .int (nI cf)])), (t, .inl (N.2 0, 64, .inl tr)), (wi, .inr (8, [.ref d, .ref f])), (d, .inl (N.2 0, 80, .inl di)), (f, .inl (N.2 0, 80, .inl fo)), (nr, .inl (N.2 0, 8, .inl ne)), (km, .inr (10, [.ref sa, .ref hs, .ref shs, .ref ja, .ref uu, .ref tb, .ref ob, .int (fd + nI 1)]))] := hD
    exact ck_iret hx hb hrt hlk ((fd + nI 1)) (ckRd_f (by simp [kiF, cz_3, cz_8, exi, exk, cz_11]) (by decide)) (hP.sub [8, 0, 1, 2, 3, 4, 5, 6, 7] rfl) (hD.sub [8, 0, 1, 2, 3, 4, 5, 6, 7] (by decide) rfl) hS ⟨Nat.le_of_ble_eq_true rfl, Nat.le_of_ble_eq_true rfl⟩ dX10_kite_52
  refine lv_aload_n hx hb dX10_kite_24 rfl (lv_at hl 0 rfl) ?_
  refine lv_ldc (own := RX10) (v := (-100001)) hx hb hown (hg _ k2_14) dX10_kite_25 ?_
  refine ck_Vi (As := [.int (-100001)]) (rest := []) (wr := [(sa, .inr (6, [.ref a, .ref ra])), (a, .inr (0, [.ref fl, .ref wi, .ref nr])), (wi, .inr (8, [.ref d, .ref f])), (d, .inl (N.2 0, 80, .inl di)), (f, .inl (N.2 0, 80, .inl fo)), (nr, .inl (N.2 0, 8, .inl ne)), (fl, .inr (1, [.ref t, .int (nI cf)])), (t, .inl (N.2 0, 64, .inl tr))]) C0 hP hD hS (c_X10_finding l N km sa hs shs ja uu tb ob fd (-100001) ) myX10_finding k2_15 ⟨Nat.le_of_ble_eq_true rfl, Nat.le_of_ble_eq_true rfl⟩ [0] [1, 2, 3, 4, 5, 6, 7, 8] ⟨⟨rfl, rfl⟩, by decide, by decide, by decide⟩ 0 rfl rfl rfl rfl hl.1 rfl (Nat.le_of_ble_eq_true rfl) dX10_kite_27 ⟨Nat.le_of_ble_eq_true rfl, Nat.le_of_ble_eq_true rfl⟩ (fun r_19 u0 H locs hw0 hP hD hS => ?_)
  have hw_20 : r_19 = (-100001) := hw0
  subst hw_20
  have hP : va_P N.1 vwCl [(sa, .inr (6, [.ref a, .ref ra])), (a, .inr (0, [.ref fl, .ref wi, .ref nr])), (wi, .inr (8, [.ref d, .ref f])), (d, .inl (N.2 0, 80, .inl di)), (f, .inl (N.2 0, 80, .inl fo)), (nr, .inl (N.2 0, 8, .inl ne)), (fl, .inr (1, [.ref t, .int (nI cf)])), (t, .inl (N.2 0, 64, .inl tr)), (km, .inr (10, [.ref sa, .ref hs, .ref shs, .ref ja, .ref uu, .ref tb, .ref ob, .int (fd + nI 1)]))] H := hP
  have hD : va_D Ag [(sa, .inr (6, [.ref a, .ref ra])), (a, .inr (0, [.ref fl, .ref wi, .ref nr])), (wi, .inr (8, [.ref d, .ref f])), (d, .inl (N.2 0, 80, .inl di)), (f, .inl (N.2 0, 80, .inl fo)), (nr, .inl (N.2 0, 8, .inl ne)), (fl, .inr (1, [.ref t, .int (nI cf)])), (t, .inl (N.2 0, 64, .inl tr)), (km, .inr (10, [.ref sa, .ref hs, .ref shs, .ref ja, .ref uu, .ref tb, .ref ob, .int (fd + nI 1)]))] := hD
  exact ck_iret hx hb hrt hlk ((fd + nI 1)) (ckRd_f (by simp [kiF, cz_3, cz_8]) (by decide)) (hP.sub [8, 0, 1, 6, 7, 2, 3, 4, 5] rfl) (hD.sub [8, 0, 1, 6, 7, 2, 3, 4, 5] (by decide) rfl) hS ⟨Nat.le_of_ble_eq_true rfl, Nat.le_of_ble_eq_true rfl⟩ dX10_kite_30
set_option maxHeartbeats 4000000 in
set_option maxRecDepth 100000 in
/-- X10_meet -/
theorem c_X10_meet (l : Launch) (N : ckN) (km : Nat) (sa : Nat) (hs : Nat) (shs : Nat) (ja : Nat) (uu : Nat) (tb : Nat) (ob : Nat) (fd : Int32) (a : Nat) (fl : Nat) (t : Nat) (wi : Nat) (d : Nat) (f : Nat) (nr : Nat) (tr : Nat → Int32) (di : Nat → Int32) (fo : Nat → Int32) (ne : Nat → Int32) (cf : Nat) (ra : Nat) (kd : Nat → Nat) (ht : Nat → Nat) (dr : Nat → Nat) (x : Int32) (y : Int32) (z : Int32) (hAir : ckAir tr di cf kd ht dr) : ckI l yX10_meet cX10_meet 5 (some FieldType.int) { frames := 6, cells := 0, slots := 0, locals := 156 } N [.ref km, .int x, .int y, .int z] [(km, .inr (10, [.ref sa, .ref hs, .ref shs, .ref ja, .ref uu, .ref tb, .ref ob, .int fd])), (sa, .inr (6, [.ref a, .ref ra])), (a, .inr (0, [.ref fl, .ref wi, .ref nr])), (fl, .inr (1, [.ref t, .int (nI cf)])), (t, .inl (N.2 0, 64, .inl tr)), (wi, .inr (8, [.ref d, .ref f])), (d, .inl (N.2 0, 80, .inl di)), (f, .inl (N.2 0, 80, .inl fo)), (nr, .inl (N.2 0, 8, .inl ne))] (fun (r : Int32) (u : Int32) => ckRd (meF cf (fun i j m => fNear tr fo kd ht dr i j m) x y z) (meR (fun i j m => fNear tr fo kd ht dr i j m) x y z) fd r u) (fun (u : Int32) => [(km, .inr (10, [.ref sa, .ref hs, .ref shs, .ref ja, .ref uu, .ref tb, .ref ob, .int u])), (sa, .inr (6, [.ref a, .ref ra])), (a, .inr (0, [.ref fl, .ref wi, .ref nr])), (fl, .inr (1, [.ref t, .int (nI cf)])), (t, .inl (N.2 0, 64, .inl tr)), (wi, .inr (8, [.ref d, .ref f])), (d, .inl (N.2 0, 80, .inl di)), (f, .inl (N.2 0, 80, .inl fo)), (nr, .inl (N.2 0, 8, .inl ne))]) := by
  refine ckI.of (by decide) (Nat.le_of_ble_eq_true rfl) ?_
  intro pg eg sg mg blw mth cg Ag ls hx hb hrt hml hown hlk hin hg hE hA hP hD hS hl
  have hown : sg.vm.findClass RX10 = some mg.cls := hown
  have hl : lv_has ls 5 [(0, .ref km), (1, .int x), (2, .int y), (3, .int z)] := hl
  have C0 : ckC pg sg mg ([.ref km, .int x, .int y, .int z]).toArray cg cX10_meet 5 RX10 N Ag := ⟨⟨hx, hb, hml, hown, hg⟩, hE, hA⟩
  generalize hHe : sg.heap = H at hP
  have hS : va_S Ag sg.heap H [] := hHe ▸ hS
  have hn8 := hAir.1
  refine lv_aload_n hx hb dX10_meet_0 rfl (lv_at hl 0 rfl) ?_
  refine va_get (ci := 10) (v := .ref sa) (C := RX10) (T := TX10) (N := 8) hx hb hg inX10 hown hE.1 hP 0 rfl rfl 0 (by decide) (hg _ k1_216) (fun _ h9 => h9) rfl dX10_meet_1 ?_
  refine va_getN (ci := 6) (v := .ref a) (C := RX6) (T := TX6) (N := 2) (host := "KiteMeet") hx hb hg inX6 hown hE.1 hP 1 rfl rfl 0 (by decide) (hE.nf 15 rfl _) (fun _ h9 => h9) rfl dX10_meet_4 ?_
  refine va_getN (ci := 0) (v := .ref fl) (C := RX0) (T := TX0) (N := 3) (host := "KiteMeet") hx hb hg inX0 hown hE.1 hP 2 rfl rfl 0 (by decide) (hE.nf 3 rfl _) (fun _ h9 => h9) rfl dX10_meet_7 ?_
  refine lv_iload_n hx hb dX10_meet_10 rfl (lv_at hl 1 rfl) ?_
  refine ck_Vi (As := [.int x]) (rest := []) (wr := [(km, .inr (10, [.ref sa, .ref hs, .ref shs, .ref ja, .ref uu, .ref tb, .ref ob, .int fd])), (sa, .inr (6, [.ref a, .ref ra])), (a, .inr (0, [.ref fl, .ref wi, .ref nr])), (wi, .inr (8, [.ref d, .ref f])), (d, .inl (N.2 0, 80, .inl di)), (f, .inl (N.2 0, 80, .inl fo)), (nr, .inl (N.2 0, 8, .inl ne))]) C0 hP hD hS (c_X1_have l N fl t tr cf x (by omega)) myX1_have k2_97 ⟨Nat.le_of_ble_eq_true rfl, Nat.le_of_ble_eq_true rfl⟩ [3, 4] [0, 1, 2, 5, 6, 7, 8] ⟨⟨rfl, rfl⟩, by decide, by decide, by decide⟩ 3 rfl rfl rfl rfl hl.1 rfl (Nat.le_of_ble_eq_true rfl) dX10_meet_11 ⟨Nat.le_of_ble_eq_true rfl, Nat.le_of_ble_eq_true rfl⟩ (fun r_1 u0 H locs hw0 hP hD hS => ?_)
  have hw_2 : r_1 = (b2i (ckLt x cf)) := hw0
  subst hw_2
  have hP : va_P N.1 vwCl [(km, .inr (10, [.ref sa, .ref hs, .ref shs, .ref ja, .ref uu, .ref tb, .ref ob, .int fd])), (sa, .inr (6, [.ref a, .ref ra])), (a, .inr (0, [.ref fl, .ref wi, .ref nr])), (wi, .inr (8, [.ref d, .ref f])), (d, .inl (N.2 0, 80, .inl di)), (f, .inl (N.2 0, 80, .inl fo)), (nr, .inl (N.2 0, 8, .inl ne)), (fl, .inr (1, [.ref t, .int (nI cf)])), (t, .inl (N.2 0, 64, .inl tr))] H := hP
  have hD : va_D Ag [(km, .inr (10, [.ref sa, .ref hs, .ref shs, .ref ja, .ref uu, .ref tb, .ref ob, .int fd])), (sa, .inr (6, [.ref a, .ref ra])), (a, .inr (0, [.ref fl, .ref wi, .ref nr])), (wi, .inr (8, [.ref d, .ref f])), (d, .inl (N.2 0, 80, .inl di)), (f, .inl (N.2 0, 80, .inl fo)), (nr, .inl (N.2 0, 8, .inl ne)), (fl, .inr (1, [.ref t, .int (nI cf)])), (t, .inl (N.2 0, 64, .inl tr))] := hD
  refine ck_ifeq (b := ckLt x cf) (tgt := 41) hx hb dX10_meet_14 (by decide) (fun cz_3 => ?_) (fun cz_3 => ?_)
  · refine lv_aload_n hx hb dX10_meet_41 rfl (lv_at hl 0 rfl) ?_
    refine lv_ldc (own := RX10) (v := (-100001)) hx hb hown (hg _ k2_14) dX10_meet_42 ?_
    refine ck_Vi (As := [.int (-100001)]) (rest := []) (wr := [(sa, .inr (6, [.ref a, .ref ra])), (a, .inr (0, [.ref fl, .ref wi, .ref nr])), (wi, .inr (8, [.ref d, .ref f])), (d, .inl (N.2 0, 80, .inl di)), (f, .inl (N.2 0, 80, .inl fo)), (nr, .inl (N.2 0, 8, .inl ne)), (fl, .inr (1, [.ref t, .int (nI cf)])), (t, .inl (N.2 0, 64, .inl tr))]) C0 hP hD hS (c_X10_finding l N km sa hs shs ja uu tb ob fd (-100001) ) myX10_finding k2_15 ⟨Nat.le_of_ble_eq_true rfl, Nat.le_of_ble_eq_true rfl⟩ [0] [1, 2, 3, 4, 5, 6, 7, 8] ⟨⟨rfl, rfl⟩, by decide, by decide, by decide⟩ 0 rfl rfl rfl rfl hl.1 rfl (Nat.le_of_ble_eq_true rfl) dX10_meet_44 ⟨Nat.le_of_ble_eq_true rfl, Nat.le_of_ble_eq_true rfl⟩ (fun r_4 u0 H locs hw0 hP hD hS => ?_)
    have hw_5 : r_4 = (-100001) := hw0
    subst hw_5
    have hP : va_P N.1 vwCl [(sa, .inr (6, [.ref a, .ref ra])), (a, .inr (0, [.ref fl, .ref wi, .ref nr])), (wi, .inr (8, [.ref d, .ref f])), (d, .inl (N.2 0, 80, .inl di)), (f, .inl (N.2 0, 80, .inl fo)), (nr, .inl (N.2 0, 8, .inl ne)), (fl, .inr (1, [.ref t, .int (nI cf)])), (t, .inl (N.2 0, 64, .inl tr)), (km, .inr (10, [.ref sa, .ref hs, .ref shs, .ref ja, .ref uu, .ref tb, .ref ob, .int (fd + nI 1)]))] H := hP
    have hD : va_D Ag [(sa, .inr (6, [.ref a, .ref ra])), (a, .inr (0, [.ref fl, .ref wi, .ref nr])), (wi, .inr (8, [.ref d, .ref f])), (d, .inl (N.2 0, 80, .inl di)), (f, .inl (N.2 0, 80, .inl fo)), (nr, .inl (N.2 0, 8, .inl ne)), (fl, .inr (1, [.ref t, .int (nI cf)])), (t, .inl (N.2 0, 64, .inl tr)), (km, .inr (10, [.ref sa, .ref hs, .ref shs, .ref ja, .ref uu, .ref tb, .ref ob, .int (fd + nI 1)]))] := hD
    exact ck_iret hx hb hrt hlk ((fd + nI 1)) (ckRd_f (by simp [meF, cz_3]) (by decide)) (hP.sub [8, 0, 1, 6, 7, 2, 3, 4, 5] rfl) (hD.sub [8, 0, 1, 6, 7, 2, 3, 4, 5] (by decide) rfl) hS ⟨Nat.le_of_ble_eq_true rfl, Nat.le_of_ble_eq_true rfl⟩ dX10_meet_47
  refine lv_aload_n hx hb dX10_meet_17 rfl (lv_at hl 0 rfl) ?_
  refine va_get (ci := 10) (v := .ref sa) (C := RX10) (T := TX10) (N := 8) hx hb hg inX10 hown hE.1 hP 0 rfl rfl 0 (by decide) (hg _ k1_216) (fun _ h9 => h9) rfl dX10_meet_18 ?_
  refine va_getN (ci := 6) (v := .ref a) (C := RX6) (T := TX6) (N := 2) (host := "KiteMeet") hx hb hg inX6 hown hE.1 hP 1 rfl rfl 0 (by decide) (hE.nf 15 rfl _) (fun _ h9 => h9) rfl dX10_meet_21 ?_
  refine va_getN (ci := 0) (v := .ref fl) (C := RX0) (T := TX0) (N := 3) (host := "KiteMeet") hx hb hg inX0 hown hE.1 hP 2 rfl rfl 0 (by decide) (hE.nf 3 rfl _) (fun _ h9 => h9) rfl dX10_meet_24 ?_
  refine lv_iload_n hx hb dX10_meet_27 rfl (lv_at hl 2 rfl) ?_
  refine ck_Vi (As := [.int y]) (rest := []) (wr := [(km, .inr (10, [.ref sa, .ref hs, .ref shs, .ref ja, .ref uu, .ref tb, .ref ob, .int fd])), (sa, .inr (6, [.ref a, .ref ra])), (a, .inr (0, [.ref fl, .ref wi, .ref nr])), (wi, .inr (8, [.ref d, .ref f])), (d, .inl (N.2 0, 80, .inl di)), (f, .inl (N.2 0, 80, .inl fo)), (nr, .inl (N.2 0, 8, .inl ne))]) C0 hP hD hS (c_X1_have l N fl t tr cf y (by omega)) myX1_have k2_97 ⟨Nat.le_of_ble_eq_true rfl, Nat.le_of_ble_eq_true rfl⟩ [7, 8] [0, 1, 2, 3, 4, 5, 6] ⟨⟨rfl, rfl⟩, by decide, by decide, by decide⟩ 7 rfl rfl rfl rfl hl.1 rfl (Nat.le_of_ble_eq_true rfl) dX10_meet_28 ⟨Nat.le_of_ble_eq_true rfl, Nat.le_of_ble_eq_true rfl⟩ (fun r_6 u0 H locs hw0 hP hD hS => ?_)
  have hw_7 : r_6 = (b2i (ckLt y cf)) := hw0
  subst hw_7
  have hP : va_P N.1 vwCl [(km, .inr (10, [.ref sa, .ref hs, .ref shs, .ref ja, .ref uu, .ref tb, .ref ob, .int fd])), (sa, .inr (6, [.ref a, .ref ra])), (a, .inr (0, [.ref fl, .ref wi, .ref nr])), (wi, .inr (8, [.ref d, .ref f])), (d, .inl (N.2 0, 80, .inl di)), (f, .inl (N.2 0, 80, .inl fo)), (nr, .inl (N.2 0, 8, .inl ne)), (fl, .inr (1, [.ref t, .int (nI cf)])), (t, .inl (N.2 0, 64, .inl tr))] H := hP
  have hD : va_D Ag [(km, .inr (10, [.ref sa, .ref hs, .ref shs, .ref ja, .ref uu, .ref tb, .ref ob, .int fd])), (sa, .inr (6, [.ref a, .ref ra])), (a, .inr (0, [.ref fl, .ref wi, .ref nr])), (wi, .inr (8, [.ref d, .ref f])), (d, .inl (N.2 0, 80, .inl di)), (f, .inl (N.2 0, 80, .inl fo)), (nr, .inl (N.2 0, 8, .inl ne)), (fl, .inr (1, [.ref t, .int (nI cf)])), (t, .inl (N.2 0, 64, .inl tr))] := hD
  refine ck_ifeq (b := ckLt y cf) (tgt := 41) hx hb dX10_meet_31 (by decide) (fun cz_8 => ?_) (fun cz_8 => ?_)
  · refine lv_aload_n hx hb dX10_meet_41 rfl (lv_at hl 0 rfl) ?_
    refine lv_ldc (own := RX10) (v := (-100001)) hx hb hown (hg _ k2_14) dX10_meet_42 ?_
    refine ck_Vi (As := [.int (-100001)]) (rest := []) (wr := [(sa, .inr (6, [.ref a, .ref ra])), (a, .inr (0, [.ref fl, .ref wi, .ref nr])), (wi, .inr (8, [.ref d, .ref f])), (d, .inl (N.2 0, 80, .inl di)), (f, .inl (N.2 0, 80, .inl fo)), (nr, .inl (N.2 0, 8, .inl ne)), (fl, .inr (1, [.ref t, .int (nI cf)])), (t, .inl (N.2 0, 64, .inl tr))]) C0 hP hD hS (c_X10_finding l N km sa hs shs ja uu tb ob fd (-100001) ) myX10_finding k2_15 ⟨Nat.le_of_ble_eq_true rfl, Nat.le_of_ble_eq_true rfl⟩ [0] [1, 2, 3, 4, 5, 6, 7, 8] ⟨⟨rfl, rfl⟩, by decide, by decide, by decide⟩ 0 rfl rfl rfl rfl hl.1 rfl (Nat.le_of_ble_eq_true rfl) dX10_meet_44 ⟨Nat.le_of_ble_eq_true rfl, Nat.le_of_ble_eq_true rfl⟩ (fun r_9 u0 H locs hw0 hP hD hS => ?_)
    have hw_10 : r_9 = (-100001) := hw0
    subst hw_10
    have hP : va_P N.1 vwCl [(sa, .inr (6, [.ref a, .ref ra])), (a, .inr (0, [.ref fl, .ref wi, .ref nr])), (wi, .inr (8, [.ref d, .ref f])), (d, .inl (N.2 0, 80, .inl di)), (f, .inl (N.2 0, 80, .inl fo)), (nr, .inl (N.2 0, 8, .inl ne)), (fl, .inr (1, [.ref t, .int (nI cf)])), (t, .inl (N.2 0, 64, .inl tr)), (km, .inr (10, [.ref sa, .ref hs, .ref shs, .ref ja, .ref uu, .ref tb, .ref ob, .int (fd + nI 1)]))] H := hP
    have hD : va_D Ag [(sa, .inr (6, [.ref a, .ref ra])), (a, .inr (0, [.ref fl, .ref wi, .ref nr])), (wi, .inr (8, [.ref d, .ref f])), (d, .inl (N.2 0, 80, .inl di)), (f, .inl (N.2 0, 80, .inl fo)), (nr, .inl (N.2 0, 8, .inl ne)), (fl, .inr (1, [.ref t, .int (nI cf)])), (t, .inl (N.2 0, 64, .inl tr)), (km, .inr (10, [.ref sa, .ref hs, .ref shs, .ref ja, .ref uu, .ref tb, .ref ob, .int (fd + nI 1)]))] := hD
    exact ck_iret hx hb hrt hlk ((fd + nI 1)) (ckRd_f (by simp [meF, cz_3, cz_8]) (by decide)) (hP.sub [8, 0, 1, 6, 7, 2, 3, 4, 5] rfl) (hD.sub [8, 0, 1, 6, 7, 2, 3, 4, 5] (by decide) rfl) hS ⟨Nat.le_of_ble_eq_true rfl, Nat.le_of_ble_eq_true rfl⟩ dX10_meet_47
  refine lv_iload_n hx hb dX10_meet_34 rfl (lv_at hl 3 rfl) ?_
  refine ck_Si (As := [.int z]) (rest := []) (wr := [(km, .inr (10, [.ref sa, .ref hs, .ref shs, .ref ja, .ref uu, .ref tb, .ref ob, .int fd])), (sa, .inr (6, [.ref a, .ref ra])), (a, .inr (0, [.ref fl, .ref wi, .ref nr])), (wi, .inr (8, [.ref d, .ref f])), (d, .inl (N.2 0, 80, .inl di)), (f, .inl (N.2 0, 80, .inl fo)), (nr, .inl (N.2 0, 8, .inl ne)), (fl, .inr (1, [.ref t, .int (nI cf)])), (t, .inl (N.2 0, 64, .inl tr))]) C0 hP hD hS (c_X10_isMinute l N z ) myX10_isMinute k2_134 ⟨Nat.le_of_ble_eq_true rfl, Nat.le_of_ble_eq_true rfl⟩ [] [0, 1, 2, 3, 4, 5, 6, 7, 8] ⟨⟨rfl, rfl⟩, by decide, by decide, by decide⟩ rfl hl.1 rfl (Nat.le_of_ble_eq_true rfl) dX10_meet_35 ⟨Nat.le_of_ble_eq_true rfl, Nat.le_of_ble_eq_true rfl⟩ (fun r_11 u0 H locs hw0 hP hD hS => ?_)
  have hw_12 : r_11 = (b2i (ckIn z (nI 0) (nI 19))) := hw0
  subst hw_12
  have hP : va_P N.1 vwCl [(km, .inr (10, [.ref sa, .ref hs, .ref shs, .ref ja, .ref uu, .ref tb, .ref ob, .int fd])), (sa, .inr (6, [.ref a, .ref ra])), (a, .inr (0, [.ref fl, .ref wi, .ref nr])), (wi, .inr (8, [.ref d, .ref f])), (d, .inl (N.2 0, 80, .inl di)), (f, .inl (N.2 0, 80, .inl fo)), (nr, .inl (N.2 0, 8, .inl ne)), (fl, .inr (1, [.ref t, .int (nI cf)])), (t, .inl (N.2 0, 64, .inl tr))] H := hP
  have hD : va_D Ag [(km, .inr (10, [.ref sa, .ref hs, .ref shs, .ref ja, .ref uu, .ref tb, .ref ob, .int fd])), (sa, .inr (6, [.ref a, .ref ra])), (a, .inr (0, [.ref fl, .ref wi, .ref nr])), (wi, .inr (8, [.ref d, .ref f])), (d, .inl (N.2 0, 80, .inl di)), (f, .inl (N.2 0, 80, .inl fo)), (nr, .inl (N.2 0, 8, .inl ne)), (fl, .inr (1, [.ref t, .int (nI cf)])), (t, .inl (N.2 0, 64, .inl tr))] := hD
  refine ck_ifne (b := ckIn z (nI 0) (nI 19)) (tgt := 48) hx hb dX10_meet_38 (by decide) (fun cz_13 => ?_) (fun cz_13 => ?_)
  · refine lv_iload_n hx hb dX10_meet_48 rfl (lv_at hl 1 rfl) ?_
    refine lv_iload_n hx hb dX10_meet_49 rfl (lv_at hl 2 rfl) ?_
    refine lv_icmp_ne (tgt := 60) hx hb dX10_meet_50 (by decide) (fun cz_14 => ?_) (fun cz_14 => ?_)
    · have hf1 := cz_3
      have hf2 := cz_8
      have hf3 := cz_13
      have hxy := cz_14
      obtain ⟨i, hi, rfl⟩ := (ckLt_t (by omega)).mp hf1
      have exi : ix (nI i) = i := ix_nI (by omega)
      obtain ⟨j, hj, rfl⟩ := (ckLt_t (by omega)).mp hf2
      have exj : ix (nI j) = j := ix_nI (by omega)
      obtain ⟨z0, -, hz0, rfl⟩ := (ckIn_n (by decide) (by decide)).mp hf3
      have exz0 : ix (nI z0) = z0 := ix_nI (by omega)
      have exz := exz0
      refine lv_iload_n hx hb dX10_meet_60 rfl (lv_at hl 3 rfl) ?_
      refine lv_istore (lv' := [(4, .int (nI z0)), (0, .ref km), (1, .int (nI i)), (2, .int (nI j)), (3, .int (nI z0))]) hx hb dX10_meet_61 hl (by decide) rfl (fun ls hl => ?_)
      have lp_63 : ∀ (dz : Nat) (m1 : Nat) (hdz : 20 - m1 = dz) (hm1 : z0 ≤ m1 ∧ m1 ≤ 20) (hs1 : fstM (fNear tr fo kd ht dr i j) z0 (20 - z0) = fstM (fNear tr fo kd ht dr i j) m1 (20 - m1)) (H : Heap) (locs : List Loc) (ls : Array Slot), va_P N.1 vwCl [(km, .inr (10, [.ref sa, .ref hs, .ref shs, .ref ja, .ref uu, .ref tb, .ref ob, .int fd])), (sa, .inr (6, [.ref a, .ref ra])), (a, .inr (0, [.ref fl, .ref wi, .ref nr])), (fl, .inr (1, [.ref t, .int (nI cf)])), (t, .inl (N.2 0, 64, .inl tr)), (wi, .inr (8, [.ref d, .ref f])), (d, .inl (N.2 0, 80, .inl di)), (f, .inl (N.2 0, 80, .inl fo)), (nr, .inl (N.2 0, 8, .inl ne))] H → va_D Ag [(km, .inr (10, [.ref sa, .ref hs, .ref shs, .ref ja, .ref uu, .ref tb, .ref ob, .int fd])), (sa, .inr (6, [.ref a, .ref ra])), (a, .inr (0, [.ref fl, .ref wi, .ref nr])), (fl, .inr (1, [.ref t, .int (nI cf)])), (t, .inl (N.2 0, 64, .inl tr)), (wi, .inr (8, [.ref d, .ref f])), (d, .inl (N.2 0, 80, .inl di)), (f, .inl (N.2 0, 80, .inl fo)), (nr, .inl (N.2 0, 8, .inl ne))] → va_S Ag sg.heap H locs → lv_has ls 5 [(4, .int (nI m1)), (0, .ref km), (1, .int (nI i)), (2, .int (nI j)), (3, .int (nI z0))] → W pg l eg { frames := 6, cells := 0, slots := 0, locals := 156 } sg mg ([.ref km, .int (nI i), .int (nI j), .int (nI z0)]).toArray blw mth cg H locs 0 0 (ckQi N Ag blw sg ([.ref km, .int (nI i), .int (nI j), .int (nI z0)]).toArray { frames := 6, cells := 0, slots := 0, locals := 156 } (fun (r : Int32) (u : Int32) => ckRd (meF cf (fun i j m => fNear tr fo kd ht dr i j m) (nI i) (nI j) (nI z0)) (meR (fun i j m => fNear tr fo kd ht dr i j m) (nI i) (nI j) (nI z0)) fd r u) (fun (u : Int32) => [(km, .inr (10, [.ref sa, .ref hs, .ref shs, .ref ja, .ref uu, .ref tb, .ref ob, .int u])), (sa, .inr (6, [.ref a, .ref ra])), (a, .inr (0, [.ref fl, .ref wi, .ref nr])), (fl, .inr (1, [.ref t, .int (nI cf)])), (t, .inl (N.2 0, 64, .inl tr)), (wi, .inr (8, [.ref d, .ref f])), (d, .inl (N.2 0, 80, .inl di)), (f, .inl (N.2 0, 80, .inl fo)), (nr, .inl (N.2 0, 8, .inl ne))])) (F0 mg 63 ls []) := by
        intro dz
        induction dz using Nat.strongRecOn with
        | _ dz ih_63 =>
          intro m1 hdz hm1 hs1 H locs ls hP hD hS hl
          subst hdz
          refine lv_iload hx hb dX10_meet_63 (lv_at hl 0 rfl) ?_
          refine lv_bipush (v := (nI 20)) hx hb dX10_meet_65 (by decide) ?_
          refine ck_ic_ge (tgt := 96) hx hb dX10_meet_67 (by decide) (by omega) (by omega) (fun cz_15 => ?_) (fun cz_15 => ?_)
          · refine lv_aload_n hx hb dX10_meet_96 rfl (lv_at hl 1 rfl) ?_
            refine lv_ldc (own := RX10) (v := (-100006)) hx hb hown (hg _ k2_182) dX10_meet_97 ?_
            refine ck_Vi (As := [.int (-100006)]) (rest := []) (wr := [(sa, .inr (6, [.ref a, .ref ra])), (a, .inr (0, [.ref fl, .ref wi, .ref nr])), (fl, .inr (1, [.ref t, .int (nI cf)])), (t, .inl (N.2 0, 64, .inl tr)), (wi, .inr (8, [.ref d, .ref f])), (d, .inl (N.2 0, 80, .inl di)), (f, .inl (N.2 0, 80, .inl fo)), (nr, .inl (N.2 0, 8, .inl ne))]) C0 hP hD hS (c_X10_finding l N km sa hs shs ja uu tb ob fd (-100006) ) myX10_finding k2_15 ⟨Nat.le_of_ble_eq_true rfl, Nat.le_of_ble_eq_true rfl⟩ [0] [1, 2, 3, 4, 5, 6, 7, 8] ⟨⟨rfl, rfl⟩, by decide, by decide, by decide⟩ 0 rfl rfl rfl rfl hl.1 rfl (Nat.le_of_ble_eq_true rfl) dX10_meet_99 ⟨Nat.le_of_ble_eq_true rfl, Nat.le_of_ble_eq_true rfl⟩ (fun r_16 u0 H locs hw0 hP hD hS => ?_)
            have hw_17 : r_16 = (-100006) := hw0
            subst hw_17
            have hP : va_P N.1 vwCl [(sa, .inr (6, [.ref a, .ref ra])), (a, .inr (0, [.ref fl, .ref wi, .ref nr])), (fl, .inr (1, [.ref t, .int (nI cf)])), (t, .inl (N.2 0, 64, .inl tr)), (wi, .inr (8, [.ref d, .ref f])), (d, .inl (N.2 0, 80, .inl di)), (f, .inl (N.2 0, 80, .inl fo)), (nr, .inl (N.2 0, 8, .inl ne)), (km, .inr (10, [.ref sa, .ref hs, .ref shs, .ref ja, .ref uu, .ref tb, .ref ob, .int (fd + nI 1)]))] H := hP
            have hD : va_D Ag [(sa, .inr (6, [.ref a, .ref ra])), (a, .inr (0, [.ref fl, .ref wi, .ref nr])), (fl, .inr (1, [.ref t, .int (nI cf)])), (t, .inl (N.2 0, 64, .inl tr)), (wi, .inr (8, [.ref d, .ref f])), (d, .inl (N.2 0, 80, .inl di)), (f, .inl (N.2 0, 80, .inl fo)), (nr, .inl (N.2 0, 8, .inl ne)), (km, .inr (10, [.ref sa, .ref hs, .ref shs, .ref ja, .ref uu, .ref tb, .ref ob, .int (fd + nI 1)]))] := hD
            exact ck_iret hx hb hrt hlk ((fd + nI 1)) (ckRd_f (by simp [meF, hf1, hf2, hf3, hxy, exi, exj, exz, hs1, (show 20 - m1 = 0 by omega), fstM]) (by decide)) (hP.sub [8, 0, 1, 2, 3, 4, 5, 6, 7] rfl) (hD.sub [8, 0, 1, 2, 3, 4, 5, 6, 7] (by decide) rfl) hS ⟨Nat.le_of_ble_eq_true rfl, Nat.le_of_ble_eq_true rfl⟩ dX10_meet_102
          refine lv_aload_n hx hb dX10_meet_70 rfl (lv_at hl 1 rfl) ?_
          refine va_get (ci := 10) (v := .ref sa) (C := RX10) (T := TX10) (N := 8) hx hb hg inX10 hown hE.1 hP 0 rfl rfl 0 (by decide) (hg _ k1_216) (fun _ h9 => h9) rfl dX10_meet_71 ?_
          refine va_getN (ci := 6) (v := .ref a) (C := RX6) (T := TX6) (N := 2) (host := "KiteMeet") hx hb hg inX6 hown hE.1 hP 1 rfl rfl 0 (by decide) (hE.nf 15 rfl _) (fun _ h9 => h9) rfl dX10_meet_74 ?_
          refine lv_iload_n hx hb dX10_meet_77 rfl (lv_at hl 2 rfl) ?_
          refine lv_iload_n hx hb dX10_meet_78 rfl (lv_at hl 3 rfl) ?_
          refine lv_iload hx hb dX10_meet_79 (lv_at hl 0 rfl) ?_
          refine ck_Vi (As := [.int (nI i), .int (nI j), .int (nI m1)]) (rest := []) (wr := [(km, .inr (10, [.ref sa, .ref hs, .ref shs, .ref ja, .ref uu, .ref tb, .ref ob, .int fd])), (sa, .inr (6, [.ref a, .ref ra]))]) C0 hP hD hS (c_X0_areTooNear l N a fl t wi d f nr tr cf di fo ne kd ht dr i j m1 hAir (by omega) (by omega) (by omega)) myX0_areTooNear k2_204 ⟨Nat.le_of_ble_eq_true rfl, Nat.le_of_ble_eq_true rfl⟩ [2, 3, 4, 5, 6, 7, 8] [0, 1] ⟨⟨rfl, rfl⟩, by decide, by decide, by decide⟩ 2 rfl rfl rfl rfl hl.1 rfl (Nat.le_of_ble_eq_true rfl) dX10_meet_81 ⟨Nat.le_of_ble_eq_true rfl, Nat.le_of_ble_eq_true rfl⟩ (fun r_18 u0 H locs hw0 hP hD hS => ?_)
          have hw_19 : r_18 = (b2i (fNear tr fo kd ht dr i j m1)) := hw0
          subst hw_19
          have hP : va_P N.1 vwCl [(km, .inr (10, [.ref sa, .ref hs, .ref shs, .ref ja, .ref uu, .ref tb, .ref ob, .int fd])), (sa, .inr (6, [.ref a, .ref ra])), (a, .inr (0, [.ref fl, .ref wi, .ref nr])), (fl, .inr (1, [.ref t, .int (nI cf)])), (t, .inl (N.2 0, 64, .inl tr)), (wi, .inr (8, [.ref d, .ref f])), (d, .inl (N.2 0, 80, .inl di)), (f, .inl (N.2 0, 80, .inl fo)), (nr, .inl (N.2 0, 8, .inl ne))] H := hP
          have hD : va_D Ag [(km, .inr (10, [.ref sa, .ref hs, .ref shs, .ref ja, .ref uu, .ref tb, .ref ob, .int fd])), (sa, .inr (6, [.ref a, .ref ra])), (a, .inr (0, [.ref fl, .ref wi, .ref nr])), (fl, .inr (1, [.ref t, .int (nI cf)])), (t, .inl (N.2 0, 64, .inl tr)), (wi, .inr (8, [.ref d, .ref f])), (d, .inl (N.2 0, 80, .inl di)), (f, .inl (N.2 0, 80, .inl fo)), (nr, .inl (N.2 0, 8, .inl ne))] := hD
          refine ck_ifeq (b := fNear tr fo kd ht dr i j m1) (tgt := 90) hx hb dX10_meet_84 (by decide) (fun cz_20 => ?_) (fun cz_20 => ?_)
          · refine lv_iinc (v := (nI (m1 + 1))) (lv' := [(4, .int (nI (m1 + 1))), (0, .ref km), (1, .int (nI i)), (2, .int (nI j)), (3, .int (nI z0))]) hx hb dX10_meet_90 hl (k := 0) rfl (nI_1 _) (by decide) rfl (fun ls hl => ?_)
            refine lv_goto (tgt := 63) hx hb dX10_meet_93 (by decide) ?_
            exact ih_63 _ (by omega) (m1 + 1) rfl (by omega) (hs1.trans (by rw [fstM_n (by omega) cz_20]; congr 1)) _ _ ls hP hD hS hl
          refine lv_iload hx hb dX10_meet_87 (lv_at hl 0 rfl) ?_
          exact ck_iret hx hb hrt hlk (fd) (ckRd_ok (by simp [meF, hf1, hf2, hf3, hxy, exi, exj, exz, hs1, fstM_y (m := m1) (c := 20 - m1) (by omega) cz_20]) (by rw [meR, exi, exj, exz, hs1, fstM_y (by omega) cz_20]; rfl)) hP hD hS ⟨Nat.le_of_ble_eq_true rfl, Nat.le_of_ble_eq_true rfl⟩ dX10_meet_89
      exact lp_63 _ z0 rfl (by omega) rfl _ _ ls (hP.sub [0, 1, 2, 7, 8, 3, 4, 5, 6] rfl) (hD.sub [0, 1, 2, 7, 8, 3, 4, 5, 6] (by decide) rfl) hS hl
    refine lv_aload_n hx hb dX10_meet_53 rfl (lv_at hl 0 rfl) ?_
    refine lv_ldc (own := RX10) (v := (-100003)) hx hb hown (hg _ k2_31) dX10_meet_54 ?_
    refine ck_Vi (As := [.int (-100003)]) (rest := []) (wr := [(sa, .inr (6, [.ref a, .ref ra])), (a, .inr (0, [.ref fl, .ref wi, .ref nr])), (wi, .inr (8, [.ref d, .ref f])), (d, .inl (N.2 0, 80, .inl di)), (f, .inl (N.2 0, 80, .inl fo)), (nr, .inl (N.2 0, 8, .inl ne)), (fl, .inr (1, [.ref t, .int (nI cf)])), (t, .inl (N.2 0, 64, .inl tr))]) C0 hP hD hS (c_X10_finding l N km sa hs shs ja uu tb ob fd (-100003) ) myX10_finding k2_15 ⟨Nat.le_of_ble_eq_true rfl, Nat.le_of_ble_eq_true rfl⟩ [0] [1, 2, 3, 4, 5, 6, 7, 8] ⟨⟨rfl, rfl⟩, by decide, by decide, by decide⟩ 0 rfl rfl rfl rfl hl.1 rfl (Nat.le_of_ble_eq_true rfl) dX10_meet_56 ⟨Nat.le_of_ble_eq_true rfl, Nat.le_of_ble_eq_true rfl⟩ (fun r_21 u0 H locs hw0 hP hD hS => ?_)
    have hw_22 : r_21 = (-100003) := hw0
    subst hw_22
    have hP : va_P N.1 vwCl [(sa, .inr (6, [.ref a, .ref ra])), (a, .inr (0, [.ref fl, .ref wi, .ref nr])), (wi, .inr (8, [.ref d, .ref f])), (d, .inl (N.2 0, 80, .inl di)), (f, .inl (N.2 0, 80, .inl fo)), (nr, .inl (N.2 0, 8, .inl ne)), (fl, .inr (1, [.ref t, .int (nI cf)])), (t, .inl (N.2 0, 64, .inl tr)), (km, .inr (10, [.ref sa, .ref hs, .ref shs, .ref ja, .ref uu, .ref tb, .ref ob, .int (fd + nI 1)]))] H := hP
    have hD : va_D Ag [(sa, .inr (6, [.ref a, .ref ra])), (a, .inr (0, [.ref fl, .ref wi, .ref nr])), (wi, .inr (8, [.ref d, .ref f])), (d, .inl (N.2 0, 80, .inl di)), (f, .inl (N.2 0, 80, .inl fo)), (nr, .inl (N.2 0, 8, .inl ne)), (fl, .inr (1, [.ref t, .int (nI cf)])), (t, .inl (N.2 0, 64, .inl tr)), (km, .inr (10, [.ref sa, .ref hs, .ref shs, .ref ja, .ref uu, .ref tb, .ref ob, .int (fd + nI 1)]))] := hD
    exact ck_iret hx hb hrt hlk ((fd + nI 1)) (ckRd_f (by simp [meF, cz_3, cz_8, cz_13, cz_14]) (by decide)) (hP.sub [8, 0, 1, 6, 7, 2, 3, 4, 5] rfl) (hD.sub [8, 0, 1, 6, 7, 2, 3, 4, 5] (by decide) rfl) hS ⟨Nat.le_of_ble_eq_true rfl, Nat.le_of_ble_eq_true rfl⟩ dX10_meet_59
  refine lv_aload_n hx hb dX10_meet_41 rfl (lv_at hl 0 rfl) ?_
  refine lv_ldc (own := RX10) (v := (-100001)) hx hb hown (hg _ k2_14) dX10_meet_42 ?_
  refine ck_Vi (As := [.int (-100001)]) (rest := []) (wr := [(sa, .inr (6, [.ref a, .ref ra])), (a, .inr (0, [.ref fl, .ref wi, .ref nr])), (wi, .inr (8, [.ref d, .ref f])), (d, .inl (N.2 0, 80, .inl di)), (f, .inl (N.2 0, 80, .inl fo)), (nr, .inl (N.2 0, 8, .inl ne)), (fl, .inr (1, [.ref t, .int (nI cf)])), (t, .inl (N.2 0, 64, .inl tr))]) C0 hP hD hS (c_X10_finding l N km sa hs shs ja uu tb ob fd (-100001) ) myX10_finding k2_15 ⟨Nat.le_of_ble_eq_true rfl, Nat.le_of_ble_eq_true rfl⟩ [0] [1, 2, 3, 4, 5, 6, 7, 8] ⟨⟨rfl, rfl⟩, by decide, by decide, by decide⟩ 0 rfl rfl rfl rfl hl.1 rfl (Nat.le_of_ble_eq_true rfl) dX10_meet_44 ⟨Nat.le_of_ble_eq_true rfl, Nat.le_of_ble_eq_true rfl⟩ (fun r_23 u0 H locs hw0 hP hD hS => ?_)
  have hw_24 : r_23 = (-100001) := hw0
  subst hw_24
  have hP : va_P N.1 vwCl [(sa, .inr (6, [.ref a, .ref ra])), (a, .inr (0, [.ref fl, .ref wi, .ref nr])), (wi, .inr (8, [.ref d, .ref f])), (d, .inl (N.2 0, 80, .inl di)), (f, .inl (N.2 0, 80, .inl fo)), (nr, .inl (N.2 0, 8, .inl ne)), (fl, .inr (1, [.ref t, .int (nI cf)])), (t, .inl (N.2 0, 64, .inl tr)), (km, .inr (10, [.ref sa, .ref hs, .ref shs, .ref ja, .ref uu, .ref tb, .ref ob, .int (fd + nI 1)]))] H := hP
  have hD : va_D Ag [(sa, .inr (6, [.ref a, .ref ra])), (a, .inr (0, [.ref fl, .ref wi, .ref nr])), (wi, .inr (8, [.ref d, .ref f])), (d, .inl (N.2 0, 80, .inl di)), (f, .inl (N.2 0, 80, .inl fo)), (nr, .inl (N.2 0, 8, .inl ne)), (fl, .inr (1, [.ref t, .int (nI cf)])), (t, .inl (N.2 0, 64, .inl tr)), (km, .inr (10, [.ref sa, .ref hs, .ref shs, .ref ja, .ref uu, .ref tb, .ref ob, .int (fd + nI 1)]))] := hD
  exact ck_iret hx hb hrt hlk ((fd + nI 1)) (ckRd_f (by simp [meF, cz_3, cz_8, cz_13]) (by decide)) (hP.sub [8, 0, 1, 6, 7, 2, 3, 4, 5] rfl) (hD.sub [8, 0, 1, 6, 7, 2, 3, 4, 5] (by decide) rfl) hS ⟨Nat.le_of_ble_eq_true rfl, Nat.le_of_ble_eq_true rfl⟩ dX10_meet_47
set_option maxHeartbeats 4000000 in
set_option maxRecDepth 100000 in
/-- X10_meets -/
theorem c_X10_meets (l : Launch) (N : ckN) (km : Nat) (sa : Nat) (hs : Nat) (shs : Nat) (ja : Nat) (uu : Nat) (tb : Nat) (ob : Nat) (fd : Int32) (a : Nat) (fl : Nat) (t : Nat) (wi : Nat) (d : Nat) (f : Nat) (nr : Nat) (tr : Nat → Int32) (di : Nat → Int32) (fo : Nat → Int32) (ne : Nat → Int32) (cf : Nat) (ra : Nat) (kd : Nat → Nat) (ht : Nat → Nat) (dr : Nat → Nat) (x : Int32) (hAir : ckAir tr di cf kd ht dr) : ckI l yX10_meets cX10_meets 2 (some FieldType.int) { frames := 7, cells := 0, slots := 0, locals := 180 } N [.ref km, .int x] [(km, .inr (10, [.ref sa, .ref hs, .ref shs, .ref ja, .ref uu, .ref tb, .ref ob, .int fd])), (sa, .inr (6, [.ref a, .ref ra])), (a, .inr (0, [.ref fl, .ref wi, .ref nr])), (fl, .inr (1, [.ref t, .int (nI cf)])), (t, .inl (N.2 0, 64, .inl tr)), (wi, .inr (8, [.ref d, .ref f])), (d, .inl (N.2 0, 80, .inl di)), (f, .inl (N.2 0, 80, .inl fo)), (nr, .inl (N.2 0, 8, .inl ne))] (fun (r : Int32) (u : Int32) => ckRd (miF x) (nI (ckPairs (fun f g => fNear tr fo kd ht dr f g (ix x)) cf)) fd r u) (fun (u : Int32) => [(km, .inr (10, [.ref sa, .ref hs, .ref shs, .ref ja, .ref uu, .ref tb, .ref ob, .int u])), (sa, .inr (6, [.ref a, .ref ra])), (a, .inr (0, [.ref fl, .ref wi, .ref nr])), (fl, .inr (1, [.ref t, .int (nI cf)])), (t, .inl (N.2 0, 64, .inl tr)), (wi, .inr (8, [.ref d, .ref f])), (d, .inl (N.2 0, 80, .inl di)), (f, .inl (N.2 0, 80, .inl fo)), (nr, .inl (N.2 0, 8, .inl ne))]) := by
  refine ckI.of (by decide) (Nat.le_of_ble_eq_true rfl) ?_
  intro pg eg sg mg blw mth cg Ag ls hx hb hrt hml hown hlk hin hg hE hA hP hD hS hl
  have hown : sg.vm.findClass RX10 = some mg.cls := hown
  have hl : lv_has ls 2 [(0, .ref km), (1, .int x)] := hl
  have C0 : ckC pg sg mg ([.ref km, .int x]).toArray cg cX10_meets 2 RX10 N Ag := ⟨⟨hx, hb, hml, hown, hg⟩, hE, hA⟩
  generalize hHe : sg.heap = H at hP
  have hS : va_S Ag sg.heap H [] := hHe ▸ hS
  refine lv_iload_n hx hb dX10_meets_0 rfl (lv_at hl 1 rfl) ?_
  refine ck_Si (As := [.int x]) (rest := []) (wr := [(km, .inr (10, [.ref sa, .ref hs, .ref shs, .ref ja, .ref uu, .ref tb, .ref ob, .int fd])), (sa, .inr (6, [.ref a, .ref ra])), (a, .inr (0, [.ref fl, .ref wi, .ref nr])), (fl, .inr (1, [.ref t, .int (nI cf)])), (t, .inl (N.2 0, 64, .inl tr)), (wi, .inr (8, [.ref d, .ref f])), (d, .inl (N.2 0, 80, .inl di)), (f, .inl (N.2 0, 80, .inl fo)), (nr, .inl (N.2 0, 8, .inl ne))]) C0 hP hD hS (c_X10_isMinute l N x ) myX10_isMinute k2_134 ⟨Nat.le_of_ble_eq_true rfl, Nat.le_of_ble_eq_true rfl⟩ [] [0, 1, 2, 3, 4, 5, 6, 7, 8] ⟨⟨rfl, rfl⟩, by decide, by decide, by decide⟩ rfl hl.1 rfl (Nat.le_of_ble_eq_true rfl) dX10_meets_1 ⟨Nat.le_of_ble_eq_true rfl, Nat.le_of_ble_eq_true rfl⟩ (fun r_1 u0 H locs hw0 hP hD hS => ?_)
  have hw_2 : r_1 = (b2i (ckIn x (nI 0) (nI 19))) := hw0
  subst hw_2
  have hP : va_P N.1 vwCl [(km, .inr (10, [.ref sa, .ref hs, .ref shs, .ref ja, .ref uu, .ref tb, .ref ob, .int fd])), (sa, .inr (6, [.ref a, .ref ra])), (a, .inr (0, [.ref fl, .ref wi, .ref nr])), (fl, .inr (1, [.ref t, .int (nI cf)])), (t, .inl (N.2 0, 64, .inl tr)), (wi, .inr (8, [.ref d, .ref f])), (d, .inl (N.2 0, 80, .inl di)), (f, .inl (N.2 0, 80, .inl fo)), (nr, .inl (N.2 0, 8, .inl ne))] H := hP
  have hD : va_D Ag [(km, .inr (10, [.ref sa, .ref hs, .ref shs, .ref ja, .ref uu, .ref tb, .ref ob, .int fd])), (sa, .inr (6, [.ref a, .ref ra])), (a, .inr (0, [.ref fl, .ref wi, .ref nr])), (fl, .inr (1, [.ref t, .int (nI cf)])), (t, .inl (N.2 0, 64, .inl tr)), (wi, .inr (8, [.ref d, .ref f])), (d, .inl (N.2 0, 80, .inl di)), (f, .inl (N.2 0, 80, .inl fo)), (nr, .inl (N.2 0, 8, .inl ne))] := hD
  refine ck_ifne (b := ckIn x (nI 0) (nI 19)) (tgt := 14) hx hb dX10_meets_4 (by decide) (fun cz_3 => ?_) (fun cz_3 => ?_)
  · obtain ⟨i, -, hi, rfl⟩ := (ckIn_n (by decide) (by decide)).mp cz_3
    have exi : ix (nI i) = i := ix_nI (by omega)
    refine lv_aload_n hx hb dX10_meets_14 rfl (lv_at hl 0 rfl) ?_
    refine va_get (ci := 10) (v := .ref sa) (C := RX10) (T := TX10) (N := 8) hx hb hg inX10 hown hE.1 hP 0 rfl rfl 0 (by decide) (hg _ k1_216) (fun _ h9 => h9) rfl dX10_meets_15 ?_
    refine va_getN (ci := 6) (v := .ref a) (C := RX6) (T := TX6) (N := 2) (host := "KiteMeet") hx hb hg inX6 hown hE.1 hP 1 rfl rfl 0 (by decide) (hE.nf 15 rfl _) (fun _ h9 => h9) rfl dX10_meets_18 ?_
    refine lv_iload_n hx hb dX10_meets_21 rfl (lv_at hl 1 rfl) ?_
    refine ck_Vi (As := [.int (nI i)]) (rest := []) (wr := [(km, .inr (10, [.ref sa, .ref hs, .ref shs, .ref ja, .ref uu, .ref tb, .ref ob, .int fd])), (sa, .inr (6, [.ref a, .ref ra]))]) C0 hP hD hS (c_X0_pairsTooNear l N a fl t wi d f nr tr cf di fo ne kd ht dr i hAir (by omega)) myX0_pairsTooNear k2_215 ⟨Nat.le_of_ble_eq_true rfl, Nat.le_of_ble_eq_true rfl⟩ [2, 3, 4, 5, 6, 7, 8] [0, 1] ⟨⟨rfl, rfl⟩, by decide, by decide, by decide⟩ 2 rfl rfl rfl rfl hl.1 rfl (Nat.le_of_ble_eq_true rfl) dX10_meets_22 ⟨Nat.le_of_ble_eq_true rfl, Nat.le_of_ble_eq_true rfl⟩ (fun r_4 u0 H locs hw0 hP hD hS => ?_)
    have hw_5 : r_4 = (nI (ckPairs (fun f g => fNear tr fo kd ht dr f g i) cf)) := hw0
    subst hw_5
    have hP : va_P N.1 vwCl [(km, .inr (10, [.ref sa, .ref hs, .ref shs, .ref ja, .ref uu, .ref tb, .ref ob, .int fd])), (sa, .inr (6, [.ref a, .ref ra])), (a, .inr (0, [.ref fl, .ref wi, .ref nr])), (fl, .inr (1, [.ref t, .int (nI cf)])), (t, .inl (N.2 0, 64, .inl tr)), (wi, .inr (8, [.ref d, .ref f])), (d, .inl (N.2 0, 80, .inl di)), (f, .inl (N.2 0, 80, .inl fo)), (nr, .inl (N.2 0, 8, .inl ne))] H := hP
    have hD : va_D Ag [(km, .inr (10, [.ref sa, .ref hs, .ref shs, .ref ja, .ref uu, .ref tb, .ref ob, .int fd])), (sa, .inr (6, [.ref a, .ref ra])), (a, .inr (0, [.ref fl, .ref wi, .ref nr])), (fl, .inr (1, [.ref t, .int (nI cf)])), (t, .inl (N.2 0, 64, .inl tr)), (wi, .inr (8, [.ref d, .ref f])), (d, .inl (N.2 0, 80, .inl di)), (f, .inl (N.2 0, 80, .inl fo)), (nr, .inl (N.2 0, 8, .inl ne))] := hD
    exact ck_iret hx hb hrt hlk (fd) (ckRd_ok (by simp [miF, cz_3, exi]) (by rw [exi])) hP hD hS ⟨Nat.le_of_ble_eq_true rfl, Nat.le_of_ble_eq_true rfl⟩ dX10_meets_25
  refine lv_aload_n hx hb dX10_meets_7 rfl (lv_at hl 0 rfl) ?_
  refine lv_ldc (own := RX10) (v := (-100001)) hx hb hown (hg _ k2_14) dX10_meets_8 ?_
  refine ck_Vi (As := [.int (-100001)]) (rest := []) (wr := [(sa, .inr (6, [.ref a, .ref ra])), (a, .inr (0, [.ref fl, .ref wi, .ref nr])), (fl, .inr (1, [.ref t, .int (nI cf)])), (t, .inl (N.2 0, 64, .inl tr)), (wi, .inr (8, [.ref d, .ref f])), (d, .inl (N.2 0, 80, .inl di)), (f, .inl (N.2 0, 80, .inl fo)), (nr, .inl (N.2 0, 8, .inl ne))]) C0 hP hD hS (c_X10_finding l N km sa hs shs ja uu tb ob fd (-100001) ) myX10_finding k2_15 ⟨Nat.le_of_ble_eq_true rfl, Nat.le_of_ble_eq_true rfl⟩ [0] [1, 2, 3, 4, 5, 6, 7, 8] ⟨⟨rfl, rfl⟩, by decide, by decide, by decide⟩ 0 rfl rfl rfl rfl hl.1 rfl (Nat.le_of_ble_eq_true rfl) dX10_meets_10 ⟨Nat.le_of_ble_eq_true rfl, Nat.le_of_ble_eq_true rfl⟩ (fun r_6 u0 H locs hw0 hP hD hS => ?_)
  have hw_7 : r_6 = (-100001) := hw0
  subst hw_7
  have hP : va_P N.1 vwCl [(sa, .inr (6, [.ref a, .ref ra])), (a, .inr (0, [.ref fl, .ref wi, .ref nr])), (fl, .inr (1, [.ref t, .int (nI cf)])), (t, .inl (N.2 0, 64, .inl tr)), (wi, .inr (8, [.ref d, .ref f])), (d, .inl (N.2 0, 80, .inl di)), (f, .inl (N.2 0, 80, .inl fo)), (nr, .inl (N.2 0, 8, .inl ne)), (km, .inr (10, [.ref sa, .ref hs, .ref shs, .ref ja, .ref uu, .ref tb, .ref ob, .int (fd + nI 1)]))] H := hP
  have hD : va_D Ag [(sa, .inr (6, [.ref a, .ref ra])), (a, .inr (0, [.ref fl, .ref wi, .ref nr])), (fl, .inr (1, [.ref t, .int (nI cf)])), (t, .inl (N.2 0, 64, .inl tr)), (wi, .inr (8, [.ref d, .ref f])), (d, .inl (N.2 0, 80, .inl di)), (f, .inl (N.2 0, 80, .inl fo)), (nr, .inl (N.2 0, 8, .inl ne)), (km, .inr (10, [.ref sa, .ref hs, .ref shs, .ref ja, .ref uu, .ref tb, .ref ob, .int (fd + nI 1)]))] := hD
  exact ck_iret hx hb hrt hlk ((fd + nI 1)) (ckRd_f (by simp [miF, cz_3]) (by decide)) (hP.sub [8, 0, 1, 2, 3, 4, 5, 6, 7] rfl) (hD.sub [8, 0, 1, 2, 3, 4, 5, 6, 7] (by decide) rfl) hS ⟨Nat.le_of_ble_eq_true rfl, Nat.le_of_ble_eq_true rfl⟩ dX10_meets_13
set_option maxHeartbeats 4000000 in
set_option maxRecDepth 100000 in
/-- X10_field -/
theorem c_X10_field (l : Launch) (N : ckN) (km : Nat) (sa : Nat) (hs : Nat) (shs : Nat) (ja : Nat) (uu : Nat) (tb : Nat) (ob : Nat) (fd : Int32) (a : Nat) (fl : Nat) (t : Nat) (wi : Nat) (d : Nat) (f : Nat) (nr : Nat) (tr : Nat → Int32) (di : Nat → Int32) (fo : Nat → Int32) (ne : Nat → Int32) (cf : Nat) (ra : Nat) (kd : Nat → Nat) (ht : Nat → Nat) (dr : Nat → Nat) (x : Int32) (hAir : ckAir tr di cf kd ht dr) : ckI l yX10_field cX10_field 2 (some FieldType.int) { frames := 8, cells := 0, slots := 0, locals := 205 } N [.ref km, .int x] [(km, .inr (10, [.ref sa, .ref hs, .ref shs, .ref ja, .ref uu, .ref tb, .ref ob, .int fd])), (sa, .inr (6, [.ref a, .ref ra])), (a, .inr (0, [.ref fl, .ref wi, .ref nr])), (fl, .inr (1, [.ref t, .int (nI cf)])), (t, .inl (N.2 0, 64, .inl tr)), (wi, .inr (8, [.ref d, .ref f])), (d, .inl (N.2 0, 80, .inl di)), (f, .inl (N.2 0, 80, .inl fo)), (nr, .inl (N.2 0, 8, .inl ne))] (fun (r : Int32) (u : Int32 × (Nat → Int32)) => ckRd (miF x) (nI (ckField (fun f => fFly tr fo kd ht f (ix x)) (fun f g => fNear tr fo kd ht dr f g (ix x)) cf)) fd r u.1) (fun (u : Int32 × (Nat → Int32)) => [(km, .inr (10, [.ref sa, .ref hs, .ref shs, .ref ja, .ref uu, .ref tb, .ref ob, .int u.1])), (sa, .inr (6, [.ref a, .ref ra])), (a, .inr (0, [.ref fl, .ref wi, .ref nr])), (fl, .inr (1, [.ref t, .int (nI cf)])), (t, .inl (N.2 0, 64, .inl tr)), (wi, .inr (8, [.ref d, .ref f])), (d, .inl (N.2 0, 80, .inl di)), (f, .inl (N.2 0, 80, .inl fo)), (nr, .inl (N.2 0, 8, .inl u.2))]) := by
  refine ckI.of (by decide) (Nat.le_of_ble_eq_true rfl) ?_
  intro pg eg sg mg blw mth cg Ag ls hx hb hrt hml hown hlk hin hg hE hA hP hD hS hl
  have hown : sg.vm.findClass RX10 = some mg.cls := hown
  have hl : lv_has ls 2 [(0, .ref km), (1, .int x)] := hl
  have C0 : ckC pg sg mg ([.ref km, .int x]).toArray cg cX10_field 2 RX10 N Ag := ⟨⟨hx, hb, hml, hown, hg⟩, hE, hA⟩
  generalize hHe : sg.heap = H at hP
  have hS : va_S Ag sg.heap H [] := hHe ▸ hS
  refine lv_iload_n hx hb dX10_field_0 rfl (lv_at hl 1 rfl) ?_
  refine ck_Si (As := [.int x]) (rest := []) (wr := [(km, .inr (10, [.ref sa, .ref hs, .ref shs, .ref ja, .ref uu, .ref tb, .ref ob, .int fd])), (sa, .inr (6, [.ref a, .ref ra])), (a, .inr (0, [.ref fl, .ref wi, .ref nr])), (fl, .inr (1, [.ref t, .int (nI cf)])), (t, .inl (N.2 0, 64, .inl tr)), (wi, .inr (8, [.ref d, .ref f])), (d, .inl (N.2 0, 80, .inl di)), (f, .inl (N.2 0, 80, .inl fo)), (nr, .inl (N.2 0, 8, .inl ne))]) C0 hP hD hS (c_X10_isMinute l N x ) myX10_isMinute k2_134 ⟨Nat.le_of_ble_eq_true rfl, Nat.le_of_ble_eq_true rfl⟩ [] [0, 1, 2, 3, 4, 5, 6, 7, 8] ⟨⟨rfl, rfl⟩, by decide, by decide, by decide⟩ rfl hl.1 rfl (Nat.le_of_ble_eq_true rfl) dX10_field_1 ⟨Nat.le_of_ble_eq_true rfl, Nat.le_of_ble_eq_true rfl⟩ (fun r_1 u0 H locs hw0 hP hD hS => ?_)
  have hw_2 : r_1 = (b2i (ckIn x (nI 0) (nI 19))) := hw0
  subst hw_2
  have hP : va_P N.1 vwCl [(km, .inr (10, [.ref sa, .ref hs, .ref shs, .ref ja, .ref uu, .ref tb, .ref ob, .int fd])), (sa, .inr (6, [.ref a, .ref ra])), (a, .inr (0, [.ref fl, .ref wi, .ref nr])), (fl, .inr (1, [.ref t, .int (nI cf)])), (t, .inl (N.2 0, 64, .inl tr)), (wi, .inr (8, [.ref d, .ref f])), (d, .inl (N.2 0, 80, .inl di)), (f, .inl (N.2 0, 80, .inl fo)), (nr, .inl (N.2 0, 8, .inl ne))] H := hP
  have hD : va_D Ag [(km, .inr (10, [.ref sa, .ref hs, .ref shs, .ref ja, .ref uu, .ref tb, .ref ob, .int fd])), (sa, .inr (6, [.ref a, .ref ra])), (a, .inr (0, [.ref fl, .ref wi, .ref nr])), (fl, .inr (1, [.ref t, .int (nI cf)])), (t, .inl (N.2 0, 64, .inl tr)), (wi, .inr (8, [.ref d, .ref f])), (d, .inl (N.2 0, 80, .inl di)), (f, .inl (N.2 0, 80, .inl fo)), (nr, .inl (N.2 0, 8, .inl ne))] := hD
  refine ck_ifne (b := ckIn x (nI 0) (nI 19)) (tgt := 14) hx hb dX10_field_4 (by decide) (fun cz_3 => ?_) (fun cz_3 => ?_)
  · obtain ⟨i, -, hi, rfl⟩ := (ckIn_n (by decide) (by decide)).mp cz_3
    have exi : ix (nI i) = i := ix_nI (by omega)
    refine lv_aload_n hx hb dX10_field_14 rfl (lv_at hl 0 rfl) ?_
    refine va_get (ci := 10) (v := .ref sa) (C := RX10) (T := TX10) (N := 8) hx hb hg inX10 hown hE.1 hP 0 rfl rfl 0 (by decide) (hg _ k1_216) (fun _ h9 => h9) rfl dX10_field_15 ?_
    refine va_getN (ci := 6) (v := .ref a) (C := RX6) (T := TX6) (N := 2) (host := "KiteMeet") hx hb hg inX6 hown hE.1 hP 1 rfl rfl 0 (by decide) (hE.nf 15 rfl _) (fun _ h9 => h9) rfl dX10_field_18 ?_
    refine lv_iload_n hx hb dX10_field_21 rfl (lv_at hl 1 rfl) ?_
    refine ck_Vi (As := [.int (nI i)]) (rest := []) (wr := [(km, .inr (10, [.ref sa, .ref hs, .ref shs, .ref ja, .ref uu, .ref tb, .ref ob, .int fd])), (sa, .inr (6, [.ref a, .ref ra]))]) C0 hP hD hS (c_X0_largestApart l N a fl t wi d f nr tr cf di fo ne kd ht dr i hAir (by omega)) myX0_largestApart k2_225 ⟨Nat.le_of_ble_eq_true rfl, Nat.le_of_ble_eq_true rfl⟩ [2, 3, 4, 5, 6, 7, 8] [0, 1] ⟨⟨rfl, rfl⟩, by decide, by decide, by decide⟩ 2 rfl rfl rfl rfl hl.1 rfl (Nat.le_of_ble_eq_true rfl) dX10_field_22 ⟨Nat.le_of_ble_eq_true rfl, Nat.le_of_ble_eq_true rfl⟩ (fun r_4 u0 H locs hw0 hP hD hS => ?_)
    obtain ⟨ne4_5, rfl⟩ : ∃ z, z = u0 := ⟨_, rfl⟩
    have hw_6 : r_4 = (nI (ckField (fun f => fFly tr fo kd ht f i) (fun f g => fNear tr fo kd ht dr f g i) cf)) := hw0
    subst hw_6
    have hP : va_P N.1 vwCl [(km, .inr (10, [.ref sa, .ref hs, .ref shs, .ref ja, .ref uu, .ref tb, .ref ob, .int fd])), (sa, .inr (6, [.ref a, .ref ra])), (a, .inr (0, [.ref fl, .ref wi, .ref nr])), (fl, .inr (1, [.ref t, .int (nI cf)])), (t, .inl (N.2 0, 64, .inl tr)), (wi, .inr (8, [.ref d, .ref f])), (d, .inl (N.2 0, 80, .inl di)), (f, .inl (N.2 0, 80, .inl fo)), (nr, .inl (N.2 0, 8, .inl ne4_5))] H := hP
    have hD : va_D Ag [(km, .inr (10, [.ref sa, .ref hs, .ref shs, .ref ja, .ref uu, .ref tb, .ref ob, .int fd])), (sa, .inr (6, [.ref a, .ref ra])), (a, .inr (0, [.ref fl, .ref wi, .ref nr])), (fl, .inr (1, [.ref t, .int (nI cf)])), (t, .inl (N.2 0, 64, .inl tr)), (wi, .inr (8, [.ref d, .ref f])), (d, .inl (N.2 0, 80, .inl di)), (f, .inl (N.2 0, 80, .inl fo)), (nr, .inl (N.2 0, 8, .inl ne4_5))] := hD
    exact ck_iret hx hb hrt hlk ⟨fd, ne4_5⟩ (ckRd_ok (by simp [miF, cz_3, exi]) (by rw [exi])) hP hD hS ⟨Nat.le_of_ble_eq_true rfl, Nat.le_of_ble_eq_true rfl⟩ dX10_field_25
  refine lv_aload_n hx hb dX10_field_7 rfl (lv_at hl 0 rfl) ?_
  refine lv_ldc (own := RX10) (v := (-100001)) hx hb hown (hg _ k2_14) dX10_field_8 ?_
  refine ck_Vi (As := [.int (-100001)]) (rest := []) (wr := [(sa, .inr (6, [.ref a, .ref ra])), (a, .inr (0, [.ref fl, .ref wi, .ref nr])), (fl, .inr (1, [.ref t, .int (nI cf)])), (t, .inl (N.2 0, 64, .inl tr)), (wi, .inr (8, [.ref d, .ref f])), (d, .inl (N.2 0, 80, .inl di)), (f, .inl (N.2 0, 80, .inl fo)), (nr, .inl (N.2 0, 8, .inl ne))]) C0 hP hD hS (c_X10_finding l N km sa hs shs ja uu tb ob fd (-100001) ) myX10_finding k2_15 ⟨Nat.le_of_ble_eq_true rfl, Nat.le_of_ble_eq_true rfl⟩ [0] [1, 2, 3, 4, 5, 6, 7, 8] ⟨⟨rfl, rfl⟩, by decide, by decide, by decide⟩ 0 rfl rfl rfl rfl hl.1 rfl (Nat.le_of_ble_eq_true rfl) dX10_field_10 ⟨Nat.le_of_ble_eq_true rfl, Nat.le_of_ble_eq_true rfl⟩ (fun r_7 u0 H locs hw0 hP hD hS => ?_)
  have hw_8 : r_7 = (-100001) := hw0
  subst hw_8
  have hP : va_P N.1 vwCl [(sa, .inr (6, [.ref a, .ref ra])), (a, .inr (0, [.ref fl, .ref wi, .ref nr])), (fl, .inr (1, [.ref t, .int (nI cf)])), (t, .inl (N.2 0, 64, .inl tr)), (wi, .inr (8, [.ref d, .ref f])), (d, .inl (N.2 0, 80, .inl di)), (f, .inl (N.2 0, 80, .inl fo)), (nr, .inl (N.2 0, 8, .inl ne)), (km, .inr (10, [.ref sa, .ref hs, .ref shs, .ref ja, .ref uu, .ref tb, .ref ob, .int (fd + nI 1)]))] H := hP
  have hD : va_D Ag [(sa, .inr (6, [.ref a, .ref ra])), (a, .inr (0, [.ref fl, .ref wi, .ref nr])), (fl, .inr (1, [.ref t, .int (nI cf)])), (t, .inl (N.2 0, 64, .inl tr)), (wi, .inr (8, [.ref d, .ref f])), (d, .inl (N.2 0, 80, .inl di)), (f, .inl (N.2 0, 80, .inl fo)), (nr, .inl (N.2 0, 8, .inl ne)), (km, .inr (10, [.ref sa, .ref hs, .ref shs, .ref ja, .ref uu, .ref tb, .ref ob, .int (fd + nI 1)]))] := hD
  exact ck_iret hx hb hrt hlk ⟨(fd + nI 1), ne⟩ (ckRd_f (by simp [miF, cz_3]) (by decide)) (hP.sub [8, 0, 1, 2, 3, 4, 5, 6, 7] rfl) (hD.sub [8, 0, 1, 2, 3, 4, 5, 6, 7] (by decide) rfl) hS ⟨Nat.le_of_ble_eq_true rfl, Nat.le_of_ble_eq_true rfl⟩ dX10_field_13
set_option maxHeartbeats 4000000 in
set_option maxRecDepth 100000 in
/-- X10_best -/
theorem c_X10_best (l : Launch) (N : ckN) (km : Nat) (sa : Nat) (hs : Nat) (shs : Nat) (ja : Nat) (uu : Nat) (tb : Nat) (ob : Nat) (fd : Int32) (a : Nat) (fl : Nat) (t : Nat) (wi : Nat) (d : Nat) (f : Nat) (nr : Nat) (tr : Nat → Int32) (di : Nat → Int32) (fo : Nat → Int32) (ne : Nat → Int32) (cf : Nat) (ra : Nat) (kd : Nat → Nat) (ht : Nat → Nat) (dr : Nat → Nat) (x : Int32) (y : Int32) (hAir : ckAir tr di cf kd ht dr) : ckI l yX10_best cX10_best 7 (some FieldType.int) { frames := 8, cells := 0, slots := 0, locals := 205 } N [.ref km, .int x, .int y] [(km, .inr (10, [.ref sa, .ref hs, .ref shs, .ref ja, .ref uu, .ref tb, .ref ob, .int fd])), (sa, .inr (6, [.ref a, .ref ra])), (a, .inr (0, [.ref fl, .ref wi, .ref nr])), (fl, .inr (1, [.ref t, .int (nI cf)])), (t, .inl (N.2 0, 64, .inl tr)), (wi, .inr (8, [.ref d, .ref f])), (d, .inl (N.2 0, 80, .inl di)), (f, .inl (N.2 0, 80, .inl fo)), (nr, .inl (N.2 0, 8, .inl ne))] (fun (r : Int32) (u : Int32 × (Nat → Int32)) => ckRd (beF x y) (nI (bst (fun m => pop (ckField (fun f => fFly tr fo kd ht f m) (fun f g => fNear tr fo kd ht dr f g m) cf)) (ix x) (ix y + 1 - ix x))) fd r u.1) (fun (u : Int32 × (Nat → Int32)) => [(km, .inr (10, [.ref sa, .ref hs, .ref shs, .ref ja, .ref uu, .ref tb, .ref ob, .int u.1])), (sa, .inr (6, [.ref a, .ref ra])), (a, .inr (0, [.ref fl, .ref wi, .ref nr])), (fl, .inr (1, [.ref t, .int (nI cf)])), (t, .inl (N.2 0, 64, .inl tr)), (wi, .inr (8, [.ref d, .ref f])), (d, .inl (N.2 0, 80, .inl di)), (f, .inl (N.2 0, 80, .inl fo)), (nr, .inl (N.2 0, 8, .inl u.2))]) := by
  refine ckI.of (by decide) (Nat.le_of_ble_eq_true rfl) ?_
  intro pg eg sg mg blw mth cg Ag ls hx hb hrt hml hown hlk hin hg hE hA hP hD hS hl
  have hown : sg.vm.findClass RX10 = some mg.cls := hown
  have hl : lv_has ls 7 [(0, .ref km), (1, .int x), (2, .int y)] := hl
  have C0 : ckC pg sg mg ([.ref km, .int x, .int y]).toArray cg cX10_best 7 RX10 N Ag := ⟨⟨hx, hb, hml, hown, hg⟩, hE, hA⟩
  generalize hHe : sg.heap = H at hP
  have hS : va_S Ag sg.heap H [] := hHe ▸ hS
  have hn8 := hAir.1
  refine lv_iload_n hx hb dX10_best_0 rfl (lv_at hl 1 rfl) ?_
  refine ck_Si (As := [.int x]) (rest := []) (wr := [(km, .inr (10, [.ref sa, .ref hs, .ref shs, .ref ja, .ref uu, .ref tb, .ref ob, .int fd])), (sa, .inr (6, [.ref a, .ref ra])), (a, .inr (0, [.ref fl, .ref wi, .ref nr])), (fl, .inr (1, [.ref t, .int (nI cf)])), (t, .inl (N.2 0, 64, .inl tr)), (wi, .inr (8, [.ref d, .ref f])), (d, .inl (N.2 0, 80, .inl di)), (f, .inl (N.2 0, 80, .inl fo)), (nr, .inl (N.2 0, 8, .inl ne))]) C0 hP hD hS (c_X10_isMinute l N x ) myX10_isMinute k2_134 ⟨Nat.le_of_ble_eq_true rfl, Nat.le_of_ble_eq_true rfl⟩ [] [0, 1, 2, 3, 4, 5, 6, 7, 8] ⟨⟨rfl, rfl⟩, by decide, by decide, by decide⟩ rfl hl.1 rfl (Nat.le_of_ble_eq_true rfl) dX10_best_1 ⟨Nat.le_of_ble_eq_true rfl, Nat.le_of_ble_eq_true rfl⟩ (fun r_1 u0 H locs hw0 hP hD hS => ?_)
  have hw_2 : r_1 = (b2i (ckIn x (nI 0) (nI 19))) := hw0
  subst hw_2
  have hP : va_P N.1 vwCl [(km, .inr (10, [.ref sa, .ref hs, .ref shs, .ref ja, .ref uu, .ref tb, .ref ob, .int fd])), (sa, .inr (6, [.ref a, .ref ra])), (a, .inr (0, [.ref fl, .ref wi, .ref nr])), (fl, .inr (1, [.ref t, .int (nI cf)])), (t, .inl (N.2 0, 64, .inl tr)), (wi, .inr (8, [.ref d, .ref f])), (d, .inl (N.2 0, 80, .inl di)), (f, .inl (N.2 0, 80, .inl fo)), (nr, .inl (N.2 0, 8, .inl ne))] H := hP
  have hD : va_D Ag [(km, .inr (10, [.ref sa, .ref hs, .ref shs, .ref ja, .ref uu, .ref tb, .ref ob, .int fd])), (sa, .inr (6, [.ref a, .ref ra])), (a, .inr (0, [.ref fl, .ref wi, .ref nr])), (fl, .inr (1, [.ref t, .int (nI cf)])), (t, .inl (N.2 0, 64, .inl tr)), (wi, .inr (8, [.ref d, .ref f])), (d, .inl (N.2 0, 80, .inl di)), (f, .inl (N.2 0, 80, .inl fo)), (nr, .inl (N.2 0, 8, .inl ne))] := hD
  refine ck_ifeq (b := ckIn x (nI 0) (nI 19)) (tgt := 19) hx hb dX10_best_4 (by decide) (fun cz_3 => ?_) (fun cz_3 => ?_)
  · refine lv_aload_n hx hb dX10_best_19 rfl (lv_at hl 0 rfl) ?_
    refine lv_ldc (own := RX10) (v := (-100001)) hx hb hown (hg _ k2_14) dX10_best_20 ?_
    refine ck_Vi (As := [.int (-100001)]) (rest := []) (wr := [(sa, .inr (6, [.ref a, .ref ra])), (a, .inr (0, [.ref fl, .ref wi, .ref nr])), (fl, .inr (1, [.ref t, .int (nI cf)])), (t, .inl (N.2 0, 64, .inl tr)), (wi, .inr (8, [.ref d, .ref f])), (d, .inl (N.2 0, 80, .inl di)), (f, .inl (N.2 0, 80, .inl fo)), (nr, .inl (N.2 0, 8, .inl ne))]) C0 hP hD hS (c_X10_finding l N km sa hs shs ja uu tb ob fd (-100001) ) myX10_finding k2_15 ⟨Nat.le_of_ble_eq_true rfl, Nat.le_of_ble_eq_true rfl⟩ [0] [1, 2, 3, 4, 5, 6, 7, 8] ⟨⟨rfl, rfl⟩, by decide, by decide, by decide⟩ 0 rfl rfl rfl rfl hl.1 rfl (Nat.le_of_ble_eq_true rfl) dX10_best_22 ⟨Nat.le_of_ble_eq_true rfl, Nat.le_of_ble_eq_true rfl⟩ (fun r_4 u0 H locs hw0 hP hD hS => ?_)
    have hw_5 : r_4 = (-100001) := hw0
    subst hw_5
    have hP : va_P N.1 vwCl [(sa, .inr (6, [.ref a, .ref ra])), (a, .inr (0, [.ref fl, .ref wi, .ref nr])), (fl, .inr (1, [.ref t, .int (nI cf)])), (t, .inl (N.2 0, 64, .inl tr)), (wi, .inr (8, [.ref d, .ref f])), (d, .inl (N.2 0, 80, .inl di)), (f, .inl (N.2 0, 80, .inl fo)), (nr, .inl (N.2 0, 8, .inl ne)), (km, .inr (10, [.ref sa, .ref hs, .ref shs, .ref ja, .ref uu, .ref tb, .ref ob, .int (fd + nI 1)]))] H := hP
    have hD : va_D Ag [(sa, .inr (6, [.ref a, .ref ra])), (a, .inr (0, [.ref fl, .ref wi, .ref nr])), (fl, .inr (1, [.ref t, .int (nI cf)])), (t, .inl (N.2 0, 64, .inl tr)), (wi, .inr (8, [.ref d, .ref f])), (d, .inl (N.2 0, 80, .inl di)), (f, .inl (N.2 0, 80, .inl fo)), (nr, .inl (N.2 0, 8, .inl ne)), (km, .inr (10, [.ref sa, .ref hs, .ref shs, .ref ja, .ref uu, .ref tb, .ref ob, .int (fd + nI 1)]))] := hD
    exact ck_iret hx hb hrt hlk ⟨(fd + nI 1), ne⟩ (ckRd_f (by simp [beF, cz_3]) (by decide)) (hP.sub [8, 0, 1, 2, 3, 4, 5, 6, 7] rfl) (hD.sub [8, 0, 1, 2, 3, 4, 5, 6, 7] (by decide) rfl) hS ⟨Nat.le_of_ble_eq_true rfl, Nat.le_of_ble_eq_true rfl⟩ dX10_best_25
  refine lv_iload_n hx hb dX10_best_7 rfl (lv_at hl 2 rfl) ?_
  refine ck_Si (As := [.int y]) (rest := []) (wr := [(km, .inr (10, [.ref sa, .ref hs, .ref shs, .ref ja, .ref uu, .ref tb, .ref ob, .int fd])), (sa, .inr (6, [.ref a, .ref ra])), (a, .inr (0, [.ref fl, .ref wi, .ref nr])), (fl, .inr (1, [.ref t, .int (nI cf)])), (t, .inl (N.2 0, 64, .inl tr)), (wi, .inr (8, [.ref d, .ref f])), (d, .inl (N.2 0, 80, .inl di)), (f, .inl (N.2 0, 80, .inl fo)), (nr, .inl (N.2 0, 8, .inl ne))]) C0 hP hD hS (c_X10_isMinute l N y ) myX10_isMinute k2_134 ⟨Nat.le_of_ble_eq_true rfl, Nat.le_of_ble_eq_true rfl⟩ [] [0, 1, 2, 3, 4, 5, 6, 7, 8] ⟨⟨rfl, rfl⟩, by decide, by decide, by decide⟩ rfl hl.1 rfl (Nat.le_of_ble_eq_true rfl) dX10_best_8 ⟨Nat.le_of_ble_eq_true rfl, Nat.le_of_ble_eq_true rfl⟩ (fun r_6 u0 H locs hw0 hP hD hS => ?_)
  have hw_7 : r_6 = (b2i (ckIn y (nI 0) (nI 19))) := hw0
  subst hw_7
  have hP : va_P N.1 vwCl [(km, .inr (10, [.ref sa, .ref hs, .ref shs, .ref ja, .ref uu, .ref tb, .ref ob, .int fd])), (sa, .inr (6, [.ref a, .ref ra])), (a, .inr (0, [.ref fl, .ref wi, .ref nr])), (fl, .inr (1, [.ref t, .int (nI cf)])), (t, .inl (N.2 0, 64, .inl tr)), (wi, .inr (8, [.ref d, .ref f])), (d, .inl (N.2 0, 80, .inl di)), (f, .inl (N.2 0, 80, .inl fo)), (nr, .inl (N.2 0, 8, .inl ne))] H := hP
  have hD : va_D Ag [(km, .inr (10, [.ref sa, .ref hs, .ref shs, .ref ja, .ref uu, .ref tb, .ref ob, .int fd])), (sa, .inr (6, [.ref a, .ref ra])), (a, .inr (0, [.ref fl, .ref wi, .ref nr])), (fl, .inr (1, [.ref t, .int (nI cf)])), (t, .inl (N.2 0, 64, .inl tr)), (wi, .inr (8, [.ref d, .ref f])), (d, .inl (N.2 0, 80, .inl di)), (f, .inl (N.2 0, 80, .inl fo)), (nr, .inl (N.2 0, 8, .inl ne))] := hD
  refine ck_ifeq (b := ckIn y (nI 0) (nI 19)) (tgt := 19) hx hb dX10_best_11 (by decide) (fun cz_8 => ?_) (fun cz_8 => ?_)
  · refine lv_aload_n hx hb dX10_best_19 rfl (lv_at hl 0 rfl) ?_
    refine lv_ldc (own := RX10) (v := (-100001)) hx hb hown (hg _ k2_14) dX10_best_20 ?_
    refine ck_Vi (As := [.int (-100001)]) (rest := []) (wr := [(sa, .inr (6, [.ref a, .ref ra])), (a, .inr (0, [.ref fl, .ref wi, .ref nr])), (fl, .inr (1, [.ref t, .int (nI cf)])), (t, .inl (N.2 0, 64, .inl tr)), (wi, .inr (8, [.ref d, .ref f])), (d, .inl (N.2 0, 80, .inl di)), (f, .inl (N.2 0, 80, .inl fo)), (nr, .inl (N.2 0, 8, .inl ne))]) C0 hP hD hS (c_X10_finding l N km sa hs shs ja uu tb ob fd (-100001) ) myX10_finding k2_15 ⟨Nat.le_of_ble_eq_true rfl, Nat.le_of_ble_eq_true rfl⟩ [0] [1, 2, 3, 4, 5, 6, 7, 8] ⟨⟨rfl, rfl⟩, by decide, by decide, by decide⟩ 0 rfl rfl rfl rfl hl.1 rfl (Nat.le_of_ble_eq_true rfl) dX10_best_22 ⟨Nat.le_of_ble_eq_true rfl, Nat.le_of_ble_eq_true rfl⟩ (fun r_9 u0 H locs hw0 hP hD hS => ?_)
    have hw_10 : r_9 = (-100001) := hw0
    subst hw_10
    have hP : va_P N.1 vwCl [(sa, .inr (6, [.ref a, .ref ra])), (a, .inr (0, [.ref fl, .ref wi, .ref nr])), (fl, .inr (1, [.ref t, .int (nI cf)])), (t, .inl (N.2 0, 64, .inl tr)), (wi, .inr (8, [.ref d, .ref f])), (d, .inl (N.2 0, 80, .inl di)), (f, .inl (N.2 0, 80, .inl fo)), (nr, .inl (N.2 0, 8, .inl ne)), (km, .inr (10, [.ref sa, .ref hs, .ref shs, .ref ja, .ref uu, .ref tb, .ref ob, .int (fd + nI 1)]))] H := hP
    have hD : va_D Ag [(sa, .inr (6, [.ref a, .ref ra])), (a, .inr (0, [.ref fl, .ref wi, .ref nr])), (fl, .inr (1, [.ref t, .int (nI cf)])), (t, .inl (N.2 0, 64, .inl tr)), (wi, .inr (8, [.ref d, .ref f])), (d, .inl (N.2 0, 80, .inl di)), (f, .inl (N.2 0, 80, .inl fo)), (nr, .inl (N.2 0, 8, .inl ne)), (km, .inr (10, [.ref sa, .ref hs, .ref shs, .ref ja, .ref uu, .ref tb, .ref ob, .int (fd + nI 1)]))] := hD
    exact ck_iret hx hb hrt hlk ⟨(fd + nI 1), ne⟩ (ckRd_f (by simp [beF, cz_3, cz_8]) (by decide)) (hP.sub [8, 0, 1, 2, 3, 4, 5, 6, 7] rfl) (hD.sub [8, 0, 1, 2, 3, 4, 5, 6, 7] (by decide) rfl) hS ⟨Nat.le_of_ble_eq_true rfl, Nat.le_of_ble_eq_true rfl⟩ dX10_best_25
  refine lv_iload_n hx hb dX10_best_14 rfl (lv_at hl 1 rfl) ?_
  refine lv_iload_n hx hb dX10_best_15 rfl (lv_at hl 2 rfl) ?_
  refine lv_icmp_le (tgt := 26) hx hb dX10_best_16 (by decide) (fun cz_11 => ?_) (fun cz_11 => ?_)
  · have hf1 := cz_3
    have hf2 := cz_8
    have hf3 := cz_11
    obtain ⟨i, -, hi, rfl⟩ := (ckIn_n (by decide) (by decide)).mp hf1
    have exi : ix (nI i) = i := ix_nI (by omega)
    obtain ⟨j, -, hj, rfl⟩ := (ckIn_n (by decide) (by decide)).mp hf2
    have exj : ix (nI j) = j := ix_nI (by omega)
    have hij : i ≤ j := (nI_leI (by omega) (by omega)).mp hf3
    refine lv_iload_n hx hb dX10_best_26 rfl (lv_at hl 1 rfl) ?_
    refine lv_istore_n (lv' := [(3, .int (nI i)), (0, .ref km), (1, .int (nI i)), (2, .int (nI j))]) hx hb dX10_best_27 rfl hl (by decide) rfl (fun ls hl => ?_)
    refine lv_iconst (v := (-1)) hx hb dX10_best_28 (by decide) ?_
    refine lv_istore (lv' := [(4, .int (-1)), (3, .int (nI i)), (0, .ref km), (1, .int (nI i)), (2, .int (nI j))]) hx hb dX10_best_29 hl (by decide) rfl (fun ls hl => ?_)
    refine lv_iload_n hx hb dX10_best_31 rfl (lv_at hl 3 rfl) ?_
    refine lv_istore (lv' := [(5, .int (nI i)), (4, .int (-1)), (3, .int (nI i)), (0, .ref km), (1, .int (nI i)), (2, .int (nI j))]) hx hb dX10_best_32 hl (by decide) rfl (fun ls hl => ?_)
    have lp_34 : ∀ (dz : Nat) (m1 : Nat) (fdd : Nat) (mo : Int32) (ne1 : Nat → Int32) (hdz : j + 1 - m1 = dz) (hm1 : i ≤ m1 ∧ m1 ≤ j + 1) (hmo : (m1 = i ∧ mo = -1) ∨ (i < m1 ∧ mo = nI ((fun m => pop (ckField (fun f => fFly tr fo kd ht f m) (fun f g => fNear tr fo kd ht dr f g m) cf)) fdd))) (hfd : fdd = bst (fun m => pop (ckField (fun f => fFly tr fo kd ht f m) (fun f g => fNear tr fo kd ht dr f g m) cf)) i (m1 - i)) (H : Heap) (locs : List Loc) (ls : Array Slot), va_P N.1 vwCl [(km, .inr (10, [.ref sa, .ref hs, .ref shs, .ref ja, .ref uu, .ref tb, .ref ob, .int fd])), (sa, .inr (6, [.ref a, .ref ra])), (a, .inr (0, [.ref fl, .ref wi, .ref nr])), (fl, .inr (1, [.ref t, .int (nI cf)])), (t, .inl (N.2 0, 64, .inl tr)), (wi, .inr (8, [.ref d, .ref f])), (d, .inl (N.2 0, 80, .inl di)), (f, .inl (N.2 0, 80, .inl fo)), (nr, .inl (N.2 0, 8, .inl ne1))] H → va_D Ag [(km, .inr (10, [.ref sa, .ref hs, .ref shs, .ref ja, .ref uu, .ref tb, .ref ob, .int fd])), (sa, .inr (6, [.ref a, .ref ra])), (a, .inr (0, [.ref fl, .ref wi, .ref nr])), (fl, .inr (1, [.ref t, .int (nI cf)])), (t, .inl (N.2 0, 64, .inl tr)), (wi, .inr (8, [.ref d, .ref f])), (d, .inl (N.2 0, 80, .inl di)), (f, .inl (N.2 0, 80, .inl fo)), (nr, .inl (N.2 0, 8, .inl ne1))] → va_S Ag sg.heap H locs → lv_has ls 7 [(5, .int (nI m1)), (4, .int mo), (3, .int (nI fdd)), (0, .ref km), (1, .int (nI i)), (2, .int (nI j))] → W pg l eg { frames := 8, cells := 0, slots := 0, locals := 205 } sg mg ([.ref km, .int (nI i), .int (nI j)]).toArray blw mth cg H locs 0 0 (ckQi N Ag blw sg ([.ref km, .int (nI i), .int (nI j)]).toArray { frames := 8, cells := 0, slots := 0, locals := 205 } (fun (r : Int32) (u : Int32 × (Nat → Int32)) => ckRd (beF (nI i) (nI j)) (nI (bst (fun m => pop (ckField (fun f => fFly tr fo kd ht f m) (fun f g => fNear tr fo kd ht dr f g m) cf)) (ix (nI i)) (ix (nI j) + 1 - ix (nI i)))) fd r u.1) (fun (u : Int32 × (Nat → Int32)) => [(km, .inr (10, [.ref sa, .ref hs, .ref shs, .ref ja, .ref uu, .ref tb, .ref ob, .int u.1])), (sa, .inr (6, [.ref a, .ref ra])), (a, .inr (0, [.ref fl, .ref wi, .ref nr])), (fl, .inr (1, [.ref t, .int (nI cf)])), (t, .inl (N.2 0, 64, .inl tr)), (wi, .inr (8, [.ref d, .ref f])), (d, .inl (N.2 0, 80, .inl di)), (f, .inl (N.2 0, 80, .inl fo)), (nr, .inl (N.2 0, 8, .inl u.2))])) (F0 mg 34 ls []) := by
      intro dz
      induction dz using Nat.strongRecOn with
      | _ dz ih_34 =>
        intro m1 fdd mo ne1 hdz hm1 hmo hfd H locs ls hP hD hS hl
        subst hdz
        refine lv_iload hx hb dX10_best_34 (lv_at hl 0 rfl) ?_
        refine lv_iload_n hx hb dX10_best_36 rfl (lv_at hl 5 rfl) ?_
        refine ck_ic_gt (tgt := 77) hx hb dX10_best_37 (by decide) (by omega) (by omega) (fun cz_12 => ?_) (fun cz_12 => ?_)
        · refine lv_iload_n hx hb dX10_best_77 rfl (lv_at hl 2 rfl) ?_
          exact ck_iret hx hb hrt hlk ⟨fd, ne1⟩ (ckRd_ok (by simp [beF, hf1, hf2, hf3]) (by rw [exi, exj, hfd, (show m1 = j + 1 by omega)])) hP hD hS ⟨Nat.le_of_ble_eq_true rfl, Nat.le_of_ble_eq_true rfl⟩ dX10_best_78
        refine lv_aload_n hx hb dX10_best_40 rfl (lv_at hl 3 rfl) ?_
        refine va_get (ci := 10) (v := .ref sa) (C := RX10) (T := TX10) (N := 8) hx hb hg inX10 hown hE.1 hP 0 rfl rfl 0 (by decide) (hg _ k1_216) (fun _ h9 => h9) rfl dX10_best_41 ?_
        refine va_getN (ci := 6) (v := .ref a) (C := RX6) (T := TX6) (N := 2) (host := "KiteMeet") hx hb hg inX6 hown hE.1 hP 1 rfl rfl 0 (by decide) (hE.nf 15 rfl _) (fun _ h9 => h9) rfl dX10_best_44 ?_
        refine lv_iload hx hb dX10_best_47 (lv_at hl 0 rfl) ?_
        refine ck_Vi (As := [.int (nI m1)]) (rest := []) (wr := [(km, .inr (10, [.ref sa, .ref hs, .ref shs, .ref ja, .ref uu, .ref tb, .ref ob, .int fd])), (sa, .inr (6, [.ref a, .ref ra]))]) C0 hP hD hS (c_X0_largestApart l N a fl t wi d f nr tr cf di fo ne1 kd ht dr m1 hAir (by omega)) myX0_largestApart k2_225 ⟨Nat.le_of_ble_eq_true rfl, Nat.le_of_ble_eq_true rfl⟩ [2, 3, 4, 5, 6, 7, 8] [0, 1] ⟨⟨rfl, rfl⟩, by decide, by decide, by decide⟩ 2 rfl rfl rfl rfl hl.1 rfl (Nat.le_of_ble_eq_true rfl) dX10_best_49 ⟨Nat.le_of_ble_eq_true rfl, Nat.le_of_ble_eq_true rfl⟩ (fun r_13 u0 H locs hw0 hP hD hS => ?_)
        obtain ⟨ne4_14, rfl⟩ : ∃ z, z = u0 := ⟨_, rfl⟩
        have hw_15 : r_13 = (nI (ckField (fun f => fFly tr fo kd ht f m1) (fun f g => fNear tr fo kd ht dr f g m1) cf)) := hw0
        subst hw_15
        have hP : va_P N.1 vwCl [(km, .inr (10, [.ref sa, .ref hs, .ref shs, .ref ja, .ref uu, .ref tb, .ref ob, .int fd])), (sa, .inr (6, [.ref a, .ref ra])), (a, .inr (0, [.ref fl, .ref wi, .ref nr])), (fl, .inr (1, [.ref t, .int (nI cf)])), (t, .inl (N.2 0, 64, .inl tr)), (wi, .inr (8, [.ref d, .ref f])), (d, .inl (N.2 0, 80, .inl di)), (f, .inl (N.2 0, 80, .inl fo)), (nr, .inl (N.2 0, 8, .inl ne4_14))] H := hP
        have hD : va_D Ag [(km, .inr (10, [.ref sa, .ref hs, .ref shs, .ref ja, .ref uu, .ref tb, .ref ob, .int fd])), (sa, .inr (6, [.ref a, .ref ra])), (a, .inr (0, [.ref fl, .ref wi, .ref nr])), (fl, .inr (1, [.ref t, .int (nI cf)])), (t, .inl (N.2 0, 64, .inl tr)), (wi, .inr (8, [.ref d, .ref f])), (d, .inl (N.2 0, 80, .inl di)), (f, .inl (N.2 0, 80, .inl fo)), (nr, .inl (N.2 0, 8, .inl ne4_14))] := hD
        refine ck_Si (As := [.int (nI (ckField (fun f => fFly tr fo kd ht f m1) (fun f g => fNear tr fo kd ht dr f g m1) cf))]) (rest := []) (wr := [(km, .inr (10, [.ref sa, .ref hs, .ref shs, .ref ja, .ref uu, .ref tb, .ref ob, .int fd])), (sa, .inr (6, [.ref a, .ref ra])), (a, .inr (0, [.ref fl, .ref wi, .ref nr])), (fl, .inr (1, [.ref t, .int (nI cf)])), (t, .inl (N.2 0, 64, .inl tr)), (wi, .inr (8, [.ref d, .ref f])), (d, .inl (N.2 0, 80, .inl di)), (f, .inl (N.2 0, 80, .inl fo)), (nr, .inl (N.2 0, 8, .inl ne4_14))]) C0 hP hD hS (c_J6_bitCount_0f7a4 l N (nI (ckField (fun f => fFly tr fo kd ht f m1) (fun f g => fNear tr fo kd ht dr f g m1) cf)) ) myJ6_bitCount_0f7a4 k3_7 ⟨Nat.le_of_ble_eq_true rfl, Nat.le_of_ble_eq_true rfl⟩ [] [0, 1, 2, 3, 4, 5, 6, 7, 8] ⟨⟨rfl, rfl⟩, by decide, by decide, by decide⟩ rfl hl.1 rfl (Nat.le_of_ble_eq_true rfl) dX10_best_52 ⟨Nat.le_of_ble_eq_true rfl, Nat.le_of_ble_eq_true rfl⟩ (fun r_16 u0 H locs hw0 hP hD hS => ?_)
        have hw_17 : r_16 = (ckBC (nI (ckField (fun f => fFly tr fo kd ht f m1) (fun f g => fNear tr fo kd ht dr f g m1) cf))) := hw0
        subst hw_17
        have hP : va_P N.1 vwCl [(km, .inr (10, [.ref sa, .ref hs, .ref shs, .ref ja, .ref uu, .ref tb, .ref ob, .int fd])), (sa, .inr (6, [.ref a, .ref ra])), (a, .inr (0, [.ref fl, .ref wi, .ref nr])), (fl, .inr (1, [.ref t, .int (nI cf)])), (t, .inl (N.2 0, 64, .inl tr)), (wi, .inr (8, [.ref d, .ref f])), (d, .inl (N.2 0, 80, .inl di)), (f, .inl (N.2 0, 80, .inl fo)), (nr, .inl (N.2 0, 8, .inl ne4_14))] H := hP
        have hD : va_D Ag [(km, .inr (10, [.ref sa, .ref hs, .ref shs, .ref ja, .ref uu, .ref tb, .ref ob, .int fd])), (sa, .inr (6, [.ref a, .ref ra])), (a, .inr (0, [.ref fl, .ref wi, .ref nr])), (fl, .inr (1, [.ref t, .int (nI cf)])), (t, .inl (N.2 0, 64, .inl tr)), (wi, .inr (8, [.ref d, .ref f])), (d, .inl (N.2 0, 80, .inl di)), (f, .inl (N.2 0, 80, .inl fo)), (nr, .inl (N.2 0, 8, .inl ne4_14))] := hD
        refine ck_top (y := (nI (pop (ckField (fun f => fFly tr fo kd ht f m1) (fun f g => fNear tr fo kd ht dr f g m1) cf)))) (ck_bc _ (by refine Nat.lt_of_le_of_lt (ckBest_le _ _ _) ?_; exact Nat.lt_of_lt_of_le (bitsOf_lt _ cf) (Nat.pow_le_pow_right (by decide) hn8))) ?_
        refine lv_istore (lv' := [(6, .int (nI (pop (ckField (fun f => fFly tr fo kd ht f m1) (fun f g => fNear tr fo kd ht dr f g m1) cf)))), (5, .int (nI m1)), (4, .int mo), (3, .int (nI fdd)), (0, .ref km), (1, .int (nI i)), (2, .int (nI j))]) hx hb dX10_best_55 hl (by decide) rfl (fun ls hl => ?_)
        refine lv_iload hx hb dX10_best_57 (lv_at hl 0 rfl) ?_
        refine lv_iload hx hb dX10_best_59 (lv_at hl 2 rfl) ?_
        refine lv_icmp_le (tgt := 71) hx hb dX10_best_61 (by decide) (fun cz_18 => ?_) (fun cz_18 => ?_)
        · refine lv_iinc (v := (nI (m1 + 1))) (lv' := [(5, .int (nI (m1 + 1))), (6, .int (nI (pop (ckField (fun f => fFly tr fo kd ht f m1) (fun f g => fNear tr fo kd ht dr f g m1) cf)))), (4, .int mo), (3, .int (nI fdd)), (0, .ref km), (1, .int (nI i)), (2, .int (nI j))]) hx hb dX10_best_71 hl (k := 1) rfl (nI_1 _) (by decide) rfl (fun ls hl => ?_)
          refine lv_goto (tgt := 34) hx hb dX10_best_74 (by decide) ?_
          exact ih_34 _ (by omega) (m1 + 1) fdd mo ne4_14 rfl (by omega) (bst_st (sz := fun m => pop (ckField (fun f => fFly tr fo kd ht f m) (fun f g => fNear tr fo kd ht dr f g m) cf)) (fun k => pop_lt _) hmo hfd cz_18).1 (bst_st (sz := fun m => pop (ckField (fun f => fFly tr fo kd ht f m) (fun f g => fNear tr fo kd ht dr f g m) cf)) (fun k => pop_lt _) hmo hfd cz_18).2 _ _ ls hP hD hS (lv_sub hl [0, 2, 3, 4, 5, 6] rfl)
        refine lv_iload hx hb dX10_best_64 (lv_at hl 0 rfl) ?_
        refine lv_istore (lv' := [(4, .int (nI (pop (ckField (fun f => fFly tr fo kd ht f m1) (fun f g => fNear tr fo kd ht dr f g m1) cf)))), (6, .int (nI (pop (ckField (fun f => fFly tr fo kd ht f m1) (fun f g => fNear tr fo kd ht dr f g m1) cf)))), (5, .int (nI m1)), (3, .int (nI fdd)), (0, .ref km), (1, .int (nI i)), (2, .int (nI j))]) hx hb dX10_best_66 hl (by decide) rfl (fun ls hl => ?_)
        refine lv_iload hx hb dX10_best_68 (lv_at hl 2 rfl) ?_
        refine lv_istore_n (lv' := [(3, .int (nI m1)), (4, .int (nI (pop (ckField (fun f => fFly tr fo kd ht f m1) (fun f g => fNear tr fo kd ht dr f g m1) cf)))), (6, .int (nI (pop (ckField (fun f => fFly tr fo kd ht f m1) (fun f g => fNear tr fo kd ht dr f g m1) cf)))), (5, .int (nI m1)), (0, .ref km), (1, .int (nI i)), (2, .int (nI j))]) hx hb dX10_best_70 rfl hl (by decide) rfl (fun ls hl => ?_)
        refine lv_iinc (v := (nI (m1 + 1))) (lv' := [(5, .int (nI (m1 + 1))), (3, .int (nI m1)), (4, .int (nI (pop (ckField (fun f => fFly tr fo kd ht f m1) (fun f g => fNear tr fo kd ht dr f g m1) cf)))), (6, .int (nI (pop (ckField (fun f => fFly tr fo kd ht f m1) (fun f g => fNear tr fo kd ht dr f g m1) cf)))), (0, .ref km), (1, .int (nI i)), (2, .int (nI j))]) hx hb dX10_best_71 hl (k := 3) rfl (nI_1 _) (by decide) rfl (fun ls hl => ?_)
        refine lv_goto (tgt := 34) hx hb dX10_best_74 (by decide) ?_
        exact ih_34 _ (by omega) (m1 + 1) m1 (nI (pop (ckField (fun f => fFly tr fo kd ht f m1) (fun f g => fNear tr fo kd ht dr f g m1) cf))) ne4_14 rfl (by omega) (Or.inr ⟨by omega, rfl⟩) (bst_up (sz := fun m => pop (ckField (fun f => fFly tr fo kd ht f m) (fun f g => fNear tr fo kd ht dr f g m) cf)) (fun k => pop_lt _) hmo hfd cz_18) _ _ ls hP hD hS (lv_sub hl [0, 2, 1, 4, 5, 6] rfl)
    exact lp_34 _ i i (-1) ne rfl (by omega) (Or.inl ⟨rfl, rfl⟩) (by rw [Nat.sub_self]; rfl) _ _ ls hP hD hS hl
  refine lv_aload_n hx hb dX10_best_19 rfl (lv_at hl 0 rfl) ?_
  refine lv_ldc (own := RX10) (v := (-100001)) hx hb hown (hg _ k2_14) dX10_best_20 ?_
  refine ck_Vi (As := [.int (-100001)]) (rest := []) (wr := [(sa, .inr (6, [.ref a, .ref ra])), (a, .inr (0, [.ref fl, .ref wi, .ref nr])), (fl, .inr (1, [.ref t, .int (nI cf)])), (t, .inl (N.2 0, 64, .inl tr)), (wi, .inr (8, [.ref d, .ref f])), (d, .inl (N.2 0, 80, .inl di)), (f, .inl (N.2 0, 80, .inl fo)), (nr, .inl (N.2 0, 8, .inl ne))]) C0 hP hD hS (c_X10_finding l N km sa hs shs ja uu tb ob fd (-100001) ) myX10_finding k2_15 ⟨Nat.le_of_ble_eq_true rfl, Nat.le_of_ble_eq_true rfl⟩ [0] [1, 2, 3, 4, 5, 6, 7, 8] ⟨⟨rfl, rfl⟩, by decide, by decide, by decide⟩ 0 rfl rfl rfl rfl hl.1 rfl (Nat.le_of_ble_eq_true rfl) dX10_best_22 ⟨Nat.le_of_ble_eq_true rfl, Nat.le_of_ble_eq_true rfl⟩ (fun r_19 u0 H locs hw0 hP hD hS => ?_)
  have hw_20 : r_19 = (-100001) := hw0
  subst hw_20
  have hP : va_P N.1 vwCl [(sa, .inr (6, [.ref a, .ref ra])), (a, .inr (0, [.ref fl, .ref wi, .ref nr])), (fl, .inr (1, [.ref t, .int (nI cf)])), (t, .inl (N.2 0, 64, .inl tr)), (wi, .inr (8, [.ref d, .ref f])), (d, .inl (N.2 0, 80, .inl di)), (f, .inl (N.2 0, 80, .inl fo)), (nr, .inl (N.2 0, 8, .inl ne)), (km, .inr (10, [.ref sa, .ref hs, .ref shs, .ref ja, .ref uu, .ref tb, .ref ob, .int (fd + nI 1)]))] H := hP
  have hD : va_D Ag [(sa, .inr (6, [.ref a, .ref ra])), (a, .inr (0, [.ref fl, .ref wi, .ref nr])), (fl, .inr (1, [.ref t, .int (nI cf)])), (t, .inl (N.2 0, 64, .inl tr)), (wi, .inr (8, [.ref d, .ref f])), (d, .inl (N.2 0, 80, .inl di)), (f, .inl (N.2 0, 80, .inl fo)), (nr, .inl (N.2 0, 8, .inl ne)), (km, .inr (10, [.ref sa, .ref hs, .ref shs, .ref ja, .ref uu, .ref tb, .ref ob, .int (fd + nI 1)]))] := hD
  exact ck_iret hx hb hrt hlk ⟨(fd + nI 1), ne⟩ (ckRd_f (by simp [beF, cz_3, cz_8, cz_11]) (by decide)) (hP.sub [8, 0, 1, 2, 3, 4, 5, 6, 7] rfl) (hD.sub [8, 0, 1, 2, 3, 4, 5, 6, 7] (by decide) rfl) hS ⟨Nat.le_of_ble_eq_true rfl, Nat.le_of_ble_eq_true rfl⟩ dX10_best_25
