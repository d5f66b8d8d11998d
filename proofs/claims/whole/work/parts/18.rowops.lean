set_option maxHeartbeats 4000000 in
set_option maxRecDepth 100000 in
/-- X10_at -/
theorem c_X10_at (l : Launch) (N : ckN) (km : Nat) (sa : Nat) (hs : Nat) (shs : Nat) (ja : Nat) (uu : Nat) (tb : Nat) (ob : Nat) (fd : Int32) (a : Nat) (ra : Nat) (b : Nat) (sd : Nat) (tw : Nat) (sh : Nat) (wo : Nat) (sdf : Nat → Int32) (n : Nat) (wk : Int32) (x : Int32) (hn : n ≤ 5) : ckI l yX10_at cX10_at 2 (some FieldType.int) { frames := 3, cells := 0, slots := 0, locals := 81 } N [.ref km, .int x] [(km, .inr (10, [.ref sa, .ref hs, .ref shs, .ref ja, .ref uu, .ref tb, .ref ob, .int fd])), (sa, .inr (6, [.ref a, .ref ra])), (ra, .inr (4, [.ref b, .ref sd, .ref tw, .ref sh, .ref wo, .int (nI n), .int wk])), (sd, .inl (N.2 0, 5, .inl sdf))] (fun (r : Int32) (u : Int32) => ckRd (atF n x) (sdf (ix x)) fd r u) (fun (u : Int32) => [(km, .inr (10, [.ref sa, .ref hs, .ref shs, .ref ja, .ref uu, .ref tb, .ref ob, .int u])), (sa, .inr (6, [.ref a, .ref ra])), (ra, .inr (4, [.ref b, .ref sd, .ref tw, .ref sh, .ref wo, .int (nI n), .int wk])), (sd, .inl (N.2 0, 5, .inl sdf))]) := by
  refine ckI.of (by decide) (Nat.le_of_ble_eq_true rfl) ?_
  intro pg eg sg mg blw mth cg Ag ls hx hb hrt hml hown hlk hin hg hE hA hP hD hS hl
  have hown : sg.vm.findClass RX10 = some mg.cls := hown
  have hl : lv_has ls 2 [(0, .ref km), (1, .int x)] := hl
  have C0 : ckC pg sg mg ([.ref km, .int x]).toArray cg cX10_at 2 RX10 N Ag := ⟨⟨hx, hb, hml, hown, hg⟩, hE, hA⟩
  generalize hHe : sg.heap = H at hP
  have hS : va_S Ag sg.heap H [] := hHe ▸ hS
  refine lv_aload_n hx hb dX10_at_0 rfl (lv_at hl 0 rfl) ?_
  refine va_get (ci := 10) (v := .ref sa) (C := RX10) (T := TX10) (N := 8) hx hb hg inX10 hown hE.1 hP 0 rfl rfl 0 (by decide) (hg _ k1_216) (fun _ h9 => h9) rfl dX10_at_1 ?_
  refine va_getN (ci := 6) (v := .ref ra) (C := RX6) (T := TX6) (N := 2) (host := "KiteMeet") hx hb hg inX6 hown hE.1 hP 1 rfl rfl 1 (by decide) (hE.nf 16 rfl _) (fun _ h9 => h9) rfl dX10_at_4 ?_
  refine lv_iload_n hx hb dX10_at_7 rfl (lv_at hl 1 rfl) ?_
  refine ck_Vi (As := [.int x]) (rest := []) (wr := [(km, .inr (10, [.ref sa, .ref hs, .ref shs, .ref ja, .ref uu, .ref tb, .ref ob, .int fd])), (sa, .inr (6, [.ref a, .ref ra])), (sd, .inl (N.2 0, 5, .inl sdf))]) C0 hP hD hS (c_X4_has l N ra b sd tw sh wo n wk x (by omega)) myX4_has k3_84 ⟨Nat.le_of_ble_eq_true rfl, Nat.le_of_ble_eq_true rfl⟩ [2] [0, 1, 3] ⟨⟨rfl, rfl⟩, by decide, by decide, by decide⟩ 2 rfl rfl rfl rfl hl.1 rfl (Nat.le_of_ble_eq_true rfl) dX10_at_8 ⟨Nat.le_of_ble_eq_true rfl, Nat.le_of_ble_eq_true rfl⟩ (fun r_1 u0 H locs hw0 hP hD hS => ?_)
  have hw_2 : r_1 = (b2i (ckLt x n)) := hw0
  subst hw_2
  have hP : va_P N.1 vwCl [(km, .inr (10, [.ref sa, .ref hs, .ref shs, .ref ja, .ref uu, .ref tb, .ref ob, .int fd])), (sa, .inr (6, [.ref a, .ref ra])), (sd, .inl (N.2 0, 5, .inl sdf)), (ra, .inr (4, [.ref b, .ref sd, .ref tw, .ref sh, .ref wo, .int (nI n), .int wk]))] H := hP
  have hD : va_D Ag [(km, .inr (10, [.ref sa, .ref hs, .ref shs, .ref ja, .ref uu, .ref tb, .ref ob, .int fd])), (sa, .inr (6, [.ref a, .ref ra])), (sd, .inl (N.2 0, 5, .inl sdf)), (ra, .inr (4, [.ref b, .ref sd, .ref tw, .ref sh, .ref wo, .int (nI n), .int wk]))] := hD
  refine ck_ifne (b := ckLt x n) (tgt := 21) hx hb dX10_at_11 (by decide) (fun cz_3 => ?_) (fun cz_3 => ?_)
  · obtain ⟨i, hi, rfl⟩ := (ckLt_t (by omega)).mp cz_3
    have exi : ix (nI i) = i := ix_nI (by omega)
    refine lv_aload_n hx hb dX10_at_21 rfl (lv_at hl 0 rfl) ?_
    refine va_get (ci := 10) (v := .ref sa) (C := RX10) (T := TX10) (N := 8) hx hb hg inX10 hown hE.1 hP 0 rfl rfl 0 (by decide) (hg _ k1_216) (fun _ h9 => h9) rfl dX10_at_22 ?_
    refine va_getN (ci := 6) (v := .ref ra) (C := RX6) (T := TX6) (N := 2) (host := "KiteMeet") hx hb hg inX6 hown hE.1 hP 1 rfl rfl 1 (by decide) (hE.nf 16 rfl _) (fun _ h9 => h9) rfl dX10_at_25 ?_
    refine va_getN (ci := 4) (v := .ref sd) (C := RX4) (T := TX4) (N := 7) (host := "KiteMeet") hx hb hg inX4 hown hE.1 hP 3 rfl rfl 1 (by decide) (hE.nf 10 rfl _) (fun _ h9 => h9) rfl dX10_at_28 ?_
    refine lv_iload_n hx hb dX10_at_31 rfl (lv_at hl 1 rfl) ?_
    refine ck_iald hx hb hE hP 2 rfl (by omega) (by decide) dX10_at_32 ?_
    exact ck_iret hx hb hrt hlk (fd) (ckRd_ok (by simp [atF, cz_3, exi]) (by rw [exi])) (hP.sub [0, 1, 3, 2] rfl) (hD.sub [0, 1, 3, 2] (by decide) rfl) hS ⟨Nat.le_of_ble_eq_true rfl, Nat.le_of_ble_eq_true rfl⟩ dX10_at_33
  refine lv_aload_n hx hb dX10_at_14 rfl (lv_at hl 0 rfl) ?_
  refine lv_ldc (own := RX10) (v := (-100001)) hx hb hown (hg _ k2_14) dX10_at_15 ?_
  refine ck_Vi (As := [.int (-100001)]) (rest := []) (wr := [(sa, .inr (6, [.ref a, .ref ra])), (sd, .inl (N.2 0, 5, .inl sdf)), (ra, .inr (4, [.ref b, .ref sd, .ref tw, .ref sh, .ref wo, .int (nI n), .int wk]))]) C0 hP hD hS (c_X10_finding l N km sa hs shs ja uu tb ob fd (-100001) ) myX10_finding k2_15 ⟨Nat.le_of_ble_eq_true rfl, Nat.le_of_ble_eq_true rfl⟩ [0] [1, 2, 3] ⟨⟨rfl, rfl⟩, by decide, by decide, by decide⟩ 0 rfl rfl rfl rfl hl.1 rfl (Nat.le_of_ble_eq_true rfl) dX10_at_17 ⟨Nat.le_of_ble_eq_true rfl, Nat.le_of_ble_eq_true rfl⟩ (fun r_4 u0 H locs hw0 hP hD hS => ?_)
  have hw_5 : r_4 = (-100001) := hw0
  subst hw_5
  have hP : va_P N.1 vwCl [(sa, .inr (6, [.ref a, .ref ra])), (sd, .inl (N.2 0, 5, .inl sdf)), (ra, .inr (4, [.ref b, .ref sd, .ref tw, .ref sh, .ref wo, .int (nI n), .int wk])), (km, .inr (10, [.ref sa, .ref hs, .ref shs, .ref ja, .ref uu, .ref tb, .ref ob, .int (fd + nI 1)]))] H := hP
  have hD : va_D Ag [(sa, .inr (6, [.ref a, .ref ra])), (sd, .inl (N.2 0, 5, .inl sdf)), (ra, .inr (4, [.ref b, .ref sd, .ref tw, .ref sh, .ref wo, .int (nI n), .int wk])), (km, .inr (10, [.ref sa, .ref hs, .ref shs, .ref ja, .ref uu, .ref tb, .ref ob, .int (fd + nI 1)]))] := hD
  exact ck_iret hx hb hrt hlk ((fd + nI 1)) (ckRd_f (by simp [atF, cz_3]) (by decide)) (hP.sub [3, 0, 2, 1] rfl) (hD.sub [3, 0, 2, 1] (by decide) rfl) hS ⟨Nat.le_of_ble_eq_true rfl, Nat.le_of_ble_eq_true rfl⟩ dX10_at_20
set_option maxHeartbeats 4000000 in
set_option maxRecDepth 100000 in
/-- X10_wear -/
theorem c_X10_wear (l : Launch) (N : ckN) (km : Nat) (sa : Nat) (hs : Nat) (shs : Nat) (ja : Nat) (uu : Nat) (tb : Nat) (ob : Nat) (fd : Int32) (a : Nat) (ra : Nat) (b : Nat) (sd : Nat) (tw : Nat) (sh : Nat) (wo : Nat) (wof : Nat → Int32) (n : Nat) (wk : Int32) (x : Int32) (hn : n ≤ 5) : ckI l yX10_wear cX10_wear 2 (some FieldType.int) { frames := 3, cells := 0, slots := 0, locals := 81 } N [.ref km, .int x] [(km, .inr (10, [.ref sa, .ref hs, .ref shs, .ref ja, .ref uu, .ref tb, .ref ob, .int fd])), (sa, .inr (6, [.ref a, .ref ra])), (ra, .inr (4, [.ref b, .ref sd, .ref tw, .ref sh, .ref wo, .int (nI n), .int wk])), (wo, .inl (N.2 0, 5, .inl wof))] (fun (r : Int32) (u : Int32) => ckRd (atF n x) (wof (ix x)) fd r u) (fun (u : Int32) => [(km, .inr (10, [.ref sa, .ref hs, .ref shs, .ref ja, .ref uu, .ref tb, .ref ob, .int u])), (sa, .inr (6, [.ref a, .ref ra])), (ra, .inr (4, [.ref b, .ref sd, .ref tw, .ref sh, .ref wo, .int (nI n), .int wk])), (wo, .inl (N.2 0, 5, .inl wof))]) := by
  refine ckI.of (by decide) (Nat.le_of_ble_eq_true rfl) ?_
  intro pg eg sg mg blw mth cg Ag ls hx hb hrt hml hown hlk hin hg hE hA hP hD hS hl
  have hown : sg.vm.findClass RX10 = some mg.cls := hown
  have hl : lv_has ls 2 [(0, .ref km), (1, .int x)] := hl
  have C0 : ckC pg sg mg ([.ref km, .int x]).toArray cg cX10_wear 2 RX10 N Ag := ⟨⟨hx, hb, hml, hown, hg⟩, hE, hA⟩
  generalize hHe : sg.heap = H at hP
  have hS : va_S Ag sg.heap H [] := hHe ▸ hS
  refine lv_aload_n hx hb dX10_wear_0 rfl (lv_at hl 0 rfl) ?_
  refine va_get (ci := 10) (v := .ref sa) (C := RX10) (T := TX10) (N := 8) hx hb hg inX10 hown hE.1 hP 0 rfl rfl 0 (by decide) (hg _ k1_216) (fun _ h9 => h9) rfl dX10_wear_1 ?_
  refine va_getN (ci := 6) (v := .ref ra) (C := RX6) (T := TX6) (N := 2) (host := "KiteMeet") hx hb hg inX6 hown hE.1 hP 1 rfl rfl 1 (by decide) (hE.nf 16 rfl _) (fun _ h9 => h9) rfl dX10_wear_4 ?_
  refine lv_iload_n hx hb dX10_wear_7 rfl (lv_at hl 1 rfl) ?_
  refine ck_Vi (As := [.int x]) (rest := []) (wr := [(km, .inr (10, [.ref sa, .ref hs, .ref shs, .ref ja, .ref uu, .ref tb, .ref ob, .int fd])), (sa, .inr (6, [.ref a, .ref ra])), (wo, .inl (N.2 0, 5, .inl wof))]) C0 hP hD hS (c_X4_has l N ra b sd tw sh wo n wk x (by omega)) myX4_has k3_84 ⟨Nat.le_of_ble_eq_true rfl, Nat.le_of_ble_eq_true rfl⟩ [2] [0, 1, 3] ⟨⟨rfl, rfl⟩, by decide, by decide, by decide⟩ 2 rfl rfl rfl rfl hl.1 rfl (Nat.le_of_ble_eq_true rfl) dX10_wear_8 ⟨Nat.le_of_ble_eq_true rfl, Nat.le_of_ble_eq_true rfl⟩ (fun r_1 u0 H locs hw0 hP hD hS => ?_)
  have hw_2 : r_1 = (b2i (ckLt x n)) := hw0
  subst hw_2
  have hP : va_P N.1 vwCl [(km, .inr (10, [.ref sa, .ref hs, .ref shs, .ref ja, .ref uu, .ref tb, .ref ob, .int fd])), (sa, .inr (6, [.ref a, .ref ra])), (wo, .inl (N.2 0, 5, .inl wof)), (ra, .inr (4, [.ref b, .ref sd, .ref tw, .ref sh, .ref wo, .int (nI n), .int wk]))] H := hP
  have hD : va_D Ag [(km, .inr (10, [.ref sa, .ref hs, .ref shs, .ref ja, .ref uu, .ref tb, .ref ob, .int fd])), (sa, .inr (6, [.ref a, .ref ra])), (wo, .inl (N.2 0, 5, .inl wof)), (ra, .inr (4, [.ref b, .ref sd, .ref tw, .ref sh, .ref wo, .int (nI n), .int wk]))] := hD
  refine ck_ifne (b := ckLt x n) (tgt := 21) hx hb dX10_wear_11 (by decide) (fun cz_3 => ?_) (fun cz_3 => ?_)
  · obtain ⟨i, hi, rfl⟩ := (ckLt_t (by omega)).mp cz_3
    have exi : ix (nI i) = i := ix_nI (by omega)
    refine lv_aload_n hx hb dX10_wear_21 rfl (lv_at hl 0 rfl) ?_
    refine va_get (ci := 10) (v := .ref sa) (C := RX10) (T := TX10) (N := 8) hx hb hg inX10 hown hE.1 hP 0 rfl rfl 0 (by decide) (hg _ k1_216) (fun _ h9 => h9) rfl dX10_wear_22 ?_
    refine va_getN (ci := 6) (v := .ref ra) (C := RX6) (T := TX6) (N := 2) (host := "KiteMeet") hx hb hg inX6 hown hE.1 hP 1 rfl rfl 1 (by decide) (hE.nf 16 rfl _) (fun _ h9 => h9) rfl dX10_wear_25 ?_
    refine va_getN (ci := 4) (v := .ref wo) (C := RX4) (T := TX4) (N := 7) (host := "KiteMeet") hx hb hg inX4 hown hE.1 hP 3 rfl rfl 4 (by decide) (hE.nf 12 rfl _) (fun _ h9 => h9) rfl dX10_wear_28 ?_
    refine lv_iload_n hx hb dX10_wear_31 rfl (lv_at hl 1 rfl) ?_
    refine ck_iald hx hb hE hP 2 rfl (by omega) (by decide) dX10_wear_32 ?_
    exact ck_iret hx hb hrt hlk (fd) (ckRd_ok (by simp [atF, cz_3, exi]) (by rw [exi])) (hP.sub [0, 1, 3, 2] rfl) (hD.sub [0, 1, 3, 2] (by decide) rfl) hS ⟨Nat.le_of_ble_eq_true rfl, Nat.le_of_ble_eq_true rfl⟩ dX10_wear_33
  refine lv_aload_n hx hb dX10_wear_14 rfl (lv_at hl 0 rfl) ?_
  refine lv_ldc (own := RX10) (v := (-100001)) hx hb hown (hg _ k2_14) dX10_wear_15 ?_
  refine ck_Vi (As := [.int (-100001)]) (rest := []) (wr := [(sa, .inr (6, [.ref a, .ref ra])), (wo, .inl (N.2 0, 5, .inl wof)), (ra, .inr (4, [.ref b, .ref sd, .ref tw, .ref sh, .ref wo, .int (nI n), .int wk]))]) C0 hP hD hS (c_X10_finding l N km sa hs shs ja uu tb ob fd (-100001) ) myX10_finding k2_15 ⟨Nat.le_of_ble_eq_true rfl, Nat.le_of_ble_eq_true rfl⟩ [0] [1, 2, 3] ⟨⟨rfl, rfl⟩, by decide, by decide, by decide⟩ 0 rfl rfl rfl rfl hl.1 rfl (Nat.le_of_ble_eq_true rfl) dX10_wear_17 ⟨Nat.le_of_ble_eq_true rfl, Nat.le_of_ble_eq_true rfl⟩ (fun r_4 u0 H locs hw0 hP hD hS => ?_)
  have hw_5 : r_4 = (-100001) := hw0
  subst hw_5
  have hP : va_P N.1 vwCl [(sa, .inr (6, [.ref a, .ref ra])), (wo, .inl (N.2 0, 5, .inl wof)), (ra, .inr (4, [.ref b, .ref sd, .ref tw, .ref sh, .ref wo, .int (nI n), .int wk])), (km, .inr (10, [.ref sa, .ref hs, .ref shs, .ref ja, .ref uu, .ref tb, .ref ob, .int (fd + nI 1)]))] H := hP
  have hD : va_D Ag [(sa, .inr (6, [.ref a, .ref ra])), (wo, .inl (N.2 0, 5, .inl wof)), (ra, .inr (4, [.ref b, .ref sd, .ref tw, .ref sh, .ref wo, .int (nI n), .int wk])), (km, .inr (10, [.ref sa, .ref hs, .ref shs, .ref ja, .ref uu, .ref tb, .ref ob, .int (fd + nI 1)]))] := hD
  exact ck_iret hx hb hrt hlk ((fd + nI 1)) (ckRd_f (by simp [atF, cz_3]) (by decide)) (hP.sub [3, 0, 2, 1] rfl) (hD.sub [3, 0, 2, 1] (by decide) rfl) hS ⟨Nat.le_of_ble_eq_true rfl, Nat.le_of_ble_eq_true rfl⟩ dX10_wear_20
set_option maxHeartbeats 4000000 in
set_option maxRecDepth 100000 in
/-- X10_twist -/
theorem c_X10_twist (l : Launch) (N : ckN) (km : Nat) (sa : Nat) (hs : Nat) (shs : Nat) (ja : Nat) (uu : Nat) (tb : Nat) (ob : Nat) (fd : Int32) (a : Nat) (ra : Nat) (b : Nat) (sd : Nat) (tw : Nat) (sh : Nat) (wo : Nat) (twf : Nat → Int32) (n : Nat) (wk : Int32) (x : Int32) (y : Int32) (hn : n ≤ 5) : ckI l yX10_twist cX10_twist 3 (some FieldType.int) { frames := 4, cells := 0, slots := 0, locals := 103 } N [.ref km, .int x, .int y] [(km, .inr (10, [.ref sa, .ref hs, .ref shs, .ref ja, .ref uu, .ref tb, .ref ob, .int fd])), (sa, .inr (6, [.ref a, .ref ra])), (ra, .inr (4, [.ref b, .ref sd, .ref tw, .ref sh, .ref wo, .int (nI n), .int wk])), (tw, .inl (N.2 0, 25, .inl twf))] (fun (r : Int32) (u : Int32) => ckRd (twF n x y) (twf (5 * min (ix x) (ix y) + max (ix x) (ix y))) fd r u) (fun (u : Int32) => [(km, .inr (10, [.ref sa, .ref hs, .ref shs, .ref ja, .ref uu, .ref tb, .ref ob, .int u])), (sa, .inr (6, [.ref a, .ref ra])), (ra, .inr (4, [.ref b, .ref sd, .ref tw, .ref sh, .ref wo, .int (nI n), .int wk])), (tw, .inl (N.2 0, 25, .inl twf))]) := by
  refine ckI.of (by decide) (Nat.le_of_ble_eq_true rfl) ?_
  intro pg eg sg mg blw mth cg Ag ls hx hb hrt hml hown hlk hin hg hE hA hP hD hS hl
  have hown : sg.vm.findClass RX10 = some mg.cls := hown
  have hl : lv_has ls 3 [(0, .ref km), (1, .int x), (2, .int y)] := hl
  have C0 : ckC pg sg mg ([.ref km, .int x, .int y]).toArray cg cX10_twist 3 RX10 N Ag := ⟨⟨hx, hb, hml, hown, hg⟩, hE, hA⟩
  generalize hHe : sg.heap = H at hP
  have hS : va_S Ag sg.heap H [] := hHe ▸ hS
  refine lv_aload_n hx hb dX10_twist_0 rfl (lv_at hl 0 rfl) ?_
  refine va_get (ci := 10) (v := .ref sa) (C := RX10) (T := TX10) (N := 8) hx hb hg inX10 hown hE.1 hP 0 rfl rfl 0 (by decide) (hg _ k1_216) (fun _ h9 => h9) rfl dX10_twist_1 ?_
  refine va_getN (ci := 6) (v := .ref ra) (C := RX6) (T := TX6) (N := 2) (host := "KiteMeet") hx hb hg inX6 hown hE.1 hP 1 rfl rfl 1 (by decide) (hE.nf 16 rfl _) (fun _ h9 => h9) rfl dX10_twist_4 ?_
  refine lv_iload_n hx hb dX10_twist_7 rfl (lv_at hl 1 rfl) ?_
  refine ck_Vi (As := [.int x]) (rest := []) (wr := [(km, .inr (10, [.ref sa, .ref hs, .ref shs, .ref ja, .ref uu, .ref tb, .ref ob, .int fd])), (sa, .inr (6, [.ref a, .ref ra])), (tw, .inl (N.2 0, 25, .inl twf))]) C0 hP hD hS (c_X4_has l N ra b sd tw sh wo n wk x (by omega)) myX4_has k3_84 ⟨Nat.le_of_ble_eq_true rfl, Nat.le_of_ble_eq_true rfl⟩ [2] [0, 1, 3] ⟨⟨rfl, rfl⟩, by decide, by decide, by decide⟩ 2 rfl rfl rfl rfl hl.1 rfl (Nat.le_of_ble_eq_true rfl) dX10_twist_8 ⟨Nat.le_of_ble_eq_true rfl, Nat.le_of_ble_eq_true rfl⟩ (fun r_1 u0 H locs hw0 hP hD hS => ?_)
  have hw_2 : r_1 = (b2i (ckLt x n)) := hw0
  subst hw_2
  have hP : va_P N.1 vwCl [(km, .inr (10, [.ref sa, .ref hs, .ref shs, .ref ja, .ref uu, .ref tb, .ref ob, .int fd])), (sa, .inr (6, [.ref a, .ref ra])), (tw, .inl (N.2 0, 25, .inl twf)), (ra, .inr (4, [.ref b, .ref sd, .ref tw, .ref sh, .ref wo, .int (nI n), .int wk]))] H := hP
  have hD : va_D Ag [(km, .inr (10, [.ref sa, .ref hs, .ref shs, .ref ja, .ref uu, .ref tb, .ref ob, .int fd])), (sa, .inr (6, [.ref a, .ref ra])), (tw, .inl (N.2 0, 25, .inl twf)), (ra, .inr (4, [.ref b, .ref sd, .ref tw, .ref sh, .ref wo, .int (nI n), .int wk]))] := hD
  refine ck_ifeq (b := ckLt x n) (tgt := 28) hx hb dX10_twist_11 (by decide) (fun cz_3 => ?_) (fun cz_3 => ?_)
  · refine lv_aload_n hx hb dX10_twist_28 rfl (lv_at hl 0 rfl) ?_
    refine lv_ldc (own := RX10) (v := (-100001)) hx hb hown (hg _ k2_14) dX10_twist_29 ?_
    refine ck_Vi (As := [.int (-100001)]) (rest := []) (wr := [(sa, .inr (6, [.ref a, .ref ra])), (tw, .inl (N.2 0, 25, .inl twf)), (ra, .inr (4, [.ref b, .ref sd, .ref tw, .ref sh, .ref wo, .int (nI n), .int wk]))]) C0 hP hD hS (c_X10_finding l N km sa hs shs ja uu tb ob fd (-100001) ) myX10_finding k2_15 ⟨Nat.le_of_ble_eq_true rfl, Nat.le_of_ble_eq_true rfl⟩ [0] [1, 2, 3] ⟨⟨rfl, rfl⟩, by decide, by decide, by decide⟩ 0 rfl rfl rfl rfl hl.1 rfl (Nat.le_of_ble_eq_true rfl) dX10_twist_31 ⟨Nat.le_of_ble_eq_true rfl, Nat.le_of_ble_eq_true rfl⟩ (fun r_4 u0 H locs hw0 hP hD hS => ?_)
    have hw_5 : r_4 = (-100001) := hw0
    subst hw_5
    have hP : va_P N.1 vwCl [(sa, .inr (6, [.ref a, .ref ra])), (tw, .inl (N.2 0, 25, .inl twf)), (ra, .inr (4, [.ref b, .ref sd, .ref tw, .ref sh, .ref wo, .int (nI n), .int wk])), (km, .inr (10, [.ref sa, .ref hs, .ref shs, .ref ja, .ref uu, .ref tb, .ref ob, .int (fd + nI 1)]))] H := hP
    have hD : va_D Ag [(sa, .inr (6, [.ref a, .ref ra])), (tw, .inl (N.2 0, 25, .inl twf)), (ra, .inr (4, [.ref b, .ref sd, .ref tw, .ref sh, .ref wo, .int (nI n), .int wk])), (km, .inr (10, [.ref sa, .ref hs, .ref shs, .ref ja, .ref uu, .ref tb, .ref ob, .int (fd + nI 1)]))] := hD
    exact ck_iret hx hb hrt hlk ((fd + nI 1)) (ckRd_f (by simp [twF, cz_3]) (by decide)) (hP.sub [3, 0, 2, 1] rfl) (hD.sub [3, 0, 2, 1] (by decide) rfl) hS ⟨Nat.le_of_ble_eq_true rfl, Nat.le_of_ble_eq_true rfl⟩ dX10_twist_34
  refine lv_aload_n hx hb dX10_twist_14 rfl (lv_at hl 0 rfl) ?_
  refine va_get (ci := 10) (v := .ref sa) (C := RX10) (T := TX10) (N := 8) hx hb hg inX10 hown hE.1 hP 0 rfl rfl 0 (by decide) (hg _ k1_216) (fun _ h9 => h9) rfl dX10_twist_15 ?_
  refine va_getN (ci := 6) (v := .ref ra) (C := RX6) (T := TX6) (N := 2) (host := "KiteMeet") hx hb hg inX6 hown hE.1 hP 1 rfl rfl 1 (by decide) (hE.nf 16 rfl _) (fun _ h9 => h9) rfl dX10_twist_18 ?_
  refine lv_iload_n hx hb dX10_twist_21 rfl (lv_at hl 2 rfl) ?_
  refine ck_Vi (As := [.int y]) (rest := []) (wr := [(km, .inr (10, [.ref sa, .ref hs, .ref shs, .ref ja, .ref uu, .ref tb, .ref ob, .int fd])), (sa, .inr (6, [.ref a, .ref ra])), (tw, .inl (N.2 0, 25, .inl twf))]) C0 hP hD hS (c_X4_has l N ra b sd tw sh wo n wk y (by omega)) myX4_has k3_84 ⟨Nat.le_of_ble_eq_true rfl, Nat.le_of_ble_eq_true rfl⟩ [3] [0, 1, 2] ⟨⟨rfl, rfl⟩, by decide, by decide, by decide⟩ 3 rfl rfl rfl rfl hl.1 rfl (Nat.le_of_ble_eq_true rfl) dX10_twist_22 ⟨Nat.le_of_ble_eq_true rfl, Nat.le_of_ble_eq_true rfl⟩ (fun r_6 u0 H locs hw0 hP hD hS => ?_)
  have hw_7 : r_6 = (b2i (ckLt y n)) := hw0
  subst hw_7
  have hP : va_P N.1 vwCl [(km, .inr (10, [.ref sa, .ref hs, .ref shs, .ref ja, .ref uu, .ref tb, .ref ob, .int fd])), (sa, .inr (6, [.ref a, .ref ra])), (tw, .inl (N.2 0, 25, .inl twf)), (ra, .inr (4, [.ref b, .ref sd, .ref tw, .ref sh, .ref wo, .int (nI n), .int wk]))] H := hP
  have hD : va_D Ag [(km, .inr (10, [.ref sa, .ref hs, .ref shs, .ref ja, .ref uu, .ref tb, .ref ob, .int fd])), (sa, .inr (6, [.ref a, .ref ra])), (tw, .inl (N.2 0, 25, .inl twf)), (ra, .inr (4, [.ref b, .ref sd, .ref tw, .ref sh, .ref wo, .int (nI n), .int wk]))] := hD
  refine ck_ifne (b := ckLt y n) (tgt := 35) hx hb dX10_twist_25 (by decide) (fun cz_8 => ?_) (fun cz_8 => ?_)
  · refine lv_iload_n hx hb dX10_twist_35 rfl (lv_at hl 1 rfl) ?_
    refine lv_iload_n hx hb dX10_twist_36 rfl (lv_at hl 2 rfl) ?_
    refine lv_icmp_ne (tgt := 47) hx hb dX10_twist_37 (by decide) (fun cz_9 => ?_) (fun cz_9 => ?_)
    · obtain ⟨i, hi, rfl⟩ := (ckLt_t (by omega)).mp cz_3
      have exi : ix (nI i) = i := ix_nI (by omega)
      obtain ⟨j, hj, rfl⟩ := (ckLt_t (by omega)).mp cz_8
      have exj : ix (nI j) = j := ix_nI (by omega)
      refine lv_aload_n hx hb dX10_twist_47 rfl (lv_at hl 0 rfl) ?_
      refine va_get (ci := 10) (v := .ref sa) (C := RX10) (T := TX10) (N := 8) hx hb hg inX10 hown hE.1 hP 0 rfl rfl 0 (by decide) (hg _ k1_216) (fun _ h9 => h9) rfl dX10_twist_48 ?_
      refine va_getN (ci := 6) (v := .ref ra) (C := RX6) (T := TX6) (N := 2) (host := "KiteMeet") hx hb hg inX6 hown hE.1 hP 1 rfl rfl 1 (by decide) (hE.nf 16 rfl _) (fun _ h9 => h9) rfl dX10_twist_51 ?_
      refine lv_iload_n hx hb dX10_twist_54 rfl (lv_at hl 1 rfl) ?_
      refine lv_iload_n hx hb dX10_twist_55 rfl (lv_at hl 2 rfl) ?_
      refine ck_Vi (As := [.int (nI i), .int (nI j)]) (rest := []) (wr := [(km, .inr (10, [.ref sa, .ref hs, .ref shs, .ref ja, .ref uu, .ref tb, .ref ob, .int fd])), (sa, .inr (6, [.ref a, .ref ra]))]) C0 hP hD hS (c_X4_twistOf l N ra b sd tw sh wo n wk twf i j (by omega) (by omega)) myX4_twistOf k3_101 ⟨Nat.le_of_ble_eq_true rfl, Nat.le_of_ble_eq_true rfl⟩ [3, 2] [0, 1] ⟨⟨rfl, rfl⟩, by decide, by decide, by decide⟩ 3 rfl rfl rfl rfl hl.1 rfl (Nat.le_of_ble_eq_true rfl) dX10_twist_56 ⟨Nat.le_of_ble_eq_true rfl, Nat.le_of_ble_eq_true rfl⟩ (fun r_10 u0 H locs hw0 hP hD hS => ?_)
      have hw_11 : r_10 = (twf (5 * min i j + max i j)) := hw0
      subst hw_11
      have hP : va_P N.1 vwCl [(km, .inr (10, [.ref sa, .ref hs, .ref shs, .ref ja, .ref uu, .ref tb, .ref ob, .int fd])), (sa, .inr (6, [.ref a, .ref ra])), (ra, .inr (4, [.ref b, .ref sd, .ref tw, .ref sh, .ref wo, .int (nI n), .int wk])), (tw, .inl (N.2 0, 25, .inl twf))] H := hP
      have hD : va_D Ag [(km, .inr (10, [.ref sa, .ref hs, .ref shs, .ref ja, .ref uu, .ref tb, .ref ob, .int fd])), (sa, .inr (6, [.ref a, .ref ra])), (ra, .inr (4, [.ref b, .ref sd, .ref tw, .ref sh, .ref wo, .int (nI n), .int wk])), (tw, .inl (N.2 0, 25, .inl twf))] := hD
      exact ck_iret hx hb hrt hlk (fd) (ckRd_ok (by simp [twF, cz_3, cz_8, cz_9, exi, exj]) (by rw [exi, exj])) hP hD hS ⟨Nat.le_of_ble_eq_true rfl, Nat.le_of_ble_eq_true rfl⟩ dX10_twist_59
    refine lv_aload_n hx hb dX10_twist_40 rfl (lv_at hl 0 rfl) ?_
    refine lv_ldc (own := RX10) (v := (-100003)) hx hb hown (hg _ k2_31) dX10_twist_41 ?_
    refine ck_Vi (As := [.int (-100003)]) (rest := []) (wr := [(sa, .inr (6, [.ref a, .ref ra])), (tw, .inl (N.2 0, 25, .inl twf)), (ra, .inr (4, [.ref b, .ref sd, .ref tw, .ref sh, .ref wo, .int (nI n), .int wk]))]) C0 hP hD hS (c_X10_finding l N km sa hs shs ja uu tb ob fd (-100003) ) myX10_finding k2_15 ⟨Nat.le_of_ble_eq_true rfl, Nat.le_of_ble_eq_true rfl⟩ [0] [1, 2, 3] ⟨⟨rfl, rfl⟩, by decide, by decide, by decide⟩ 0 rfl rfl rfl rfl hl.1 rfl (Nat.le_of_ble_eq_true rfl) dX10_twist_43 ⟨Nat.le_of_ble_eq_true rfl, Nat.le_of_ble_eq_true rfl⟩ (fun r_12 u0 H locs hw0 hP hD hS => ?_)
    have hw_13 : r_12 = (-100003) := hw0
    subst hw_13
    have hP : va_P N.1 vwCl [(sa, .inr (6, [.ref a, .ref ra])), (tw, .inl (N.2 0, 25, .inl twf)), (ra, .inr (4, [.ref b, .ref sd, .ref tw, .ref sh, .ref wo, .int (nI n), .int wk])), (km, .inr (10, [.ref sa, .ref hs, .ref shs, .ref ja, .ref uu, .ref tb, .ref ob, .int (fd + nI 1)]))] H := hP
    have hD : va_D Ag [(sa, .inr (6, [.ref a, .ref ra])), (tw, .inl (N.2 0, 25, .inl twf)), (ra, .inr (4, [.ref b, .ref sd, .ref tw, .ref sh, .ref wo, .int (nI n), .int wk])), (km, .inr (10, [.ref sa, .ref hs, .ref shs, .ref ja, .ref uu, .ref tb, .ref ob, .int (fd + nI 1)]))] := hD
    exact ck_iret hx hb hrt hlk ((fd + nI 1)) (ckRd_f (by simp [twF, cz_3, cz_8, cz_9]) (by decide)) (hP.sub [3, 0, 2, 1] rfl) (hD.sub [3, 0, 2, 1] (by decide) rfl) hS ⟨Nat.le_of_ble_eq_true rfl, Nat.le_of_ble_eq_true rfl⟩ dX10_twist_46
  refine lv_aload_n hx hb dX10_twist_28 rfl (lv_at hl 0 rfl) ?_
  refine lv_ldc (own := RX10) (v := (-100001)) hx hb hown (hg _ k2_14) dX10_twist_29 ?_
  refine ck_Vi (As := [.int (-100001)]) (rest := []) (wr := [(sa, .inr (6, [.ref a, .ref ra])), (tw, .inl (N.2 0, 25, .inl twf)), (ra, .inr (4, [.ref b, .ref sd, .ref tw, .ref sh, .ref wo, .int (nI n), .int wk]))]) C0 hP hD hS (c_X10_finding l N km sa hs shs ja uu tb ob fd (-100001) ) myX10_finding k2_15 ⟨Nat.le_of_ble_eq_true rfl, Nat.le_of_ble_eq_true rfl⟩ [0] [1, 2, 3] ⟨⟨rfl, rfl⟩, by decide, by decide, by decide⟩ 0 rfl rfl rfl rfl hl.1 rfl (Nat.le_of_ble_eq_true rfl) dX10_twist_31 ⟨Nat.le_of_ble_eq_true rfl, Nat.le_of_ble_eq_true rfl⟩ (fun r_14 u0 H locs hw0 hP hD hS => ?_)
  have hw_15 : r_14 = (-100001) := hw0
  subst hw_15
  have hP : va_P N.1 vwCl [(sa, .inr (6, [.ref a, .ref ra])), (tw, .inl (N.2 0, 25, .inl twf)), (ra, .inr (4, [.ref b, .ref sd, .ref tw, .ref sh, .ref wo, .int (nI n), .int wk])), (km, .inr (10, [.ref sa, .ref hs, .ref shs, .ref ja, .ref uu, .ref tb, .ref ob, .int (fd + nI 1)]))] H := hP
  have hD : va_D Ag [(sa, .inr (6, [.ref a, .ref ra])), (tw, .inl (N.2 0, 25, .inl twf)), (ra, .inr (4, [.ref b, .ref sd, .ref tw, .ref sh, .ref wo, .int (nI n), .int wk])), (km, .inr (10, [.ref sa, .ref hs, .ref shs, .ref ja, .ref uu, .ref tb, .ref ob, .int (fd + nI 1)]))] := hD
  exact ck_iret hx hb hrt hlk ((fd + nI 1)) (ckRd_f (by simp [twF, cz_3, cz_8]) (by decide)) (hP.sub [3, 0, 2, 1] rfl) (hD.sub [3, 0, 2, 1] (by decide) rfl) hS ⟨Nat.le_of_ble_eq_true rfl, Nat.le_of_ble_eq_true rfl⟩ dX10_twist_34
set_option maxHeartbeats 4000000 in
set_option maxRecDepth 100000 in
/-- X10_tangle -/
theorem c_X10_tangle (l : Launch) (N : ckN) (km : Nat) (sa : Nat) (hs : Nat) (shs : Nat) (ja : Nat) (uu : Nat) (tb : Nat) (ob : Nat) (fd : Int32) (a : Nat) (ra : Nat) (b : Nat) (lw : Nat) (gw : Nat) (sd : Nat) (tw : Nat) (sh : Nat) (wo : Nat) (lf : Nat → Int32) (gf : Nat → Int32) (n : Nat) (wk : Int32) (w : Nat → List Nat) (hn : n ≤ 5) (hw : ckWd lf gf n w) : ckI l yX10_tangle cX10_tangle 1 (some FieldType.int) { frames := 3, cells := 0, slots := 0, locals := 82 } N [.ref km] [(km, .inr (10, [.ref sa, .ref hs, .ref shs, .ref ja, .ref uu, .ref tb, .ref ob, .int fd])), (sa, .inr (6, [.ref a, .ref ra])), (ra, .inr (4, [.ref b, .ref sd, .ref tw, .ref sh, .ref wo, .int (nI n), .int wk])), (b, .inr (9, [.ref lw, .ref gw, .int (nI n)])), (lw, .inl (N.2 0, 5, .inl lf)), (gw, .inl (N.2 0, 300, .inl gf))] (fun (r : Int32) (u : Int32) => ckRd (0) (taR n w) fd r u) (fun (u : Int32) => [(km, .inr (10, [.ref sa, .ref hs, .ref shs, .ref ja, .ref uu, .ref tb, .ref ob, .int u])), (sa, .inr (6, [.ref a, .ref ra])), (ra, .inr (4, [.ref b, .ref sd, .ref tw, .ref sh, .ref wo, .int (nI n), .int wk])), (b, .inr (9, [.ref lw, .ref gw, .int (nI n)])), (lw, .inl (N.2 0, 5, .inl lf)), (gw, .inl (N.2 0, 300, .inl gf))]) := by
  refine ckI.of (by decide) (Nat.le_of_ble_eq_true rfl) ?_
  intro pg eg sg mg blw mth cg Ag ls hx hb hrt hml hown hlk hin hg hE hA hP hD hS hl
  have hown : sg.vm.findClass RX10 = some mg.cls := hown
  have hl : lv_has ls 1 [(0, .ref km)] := hl
  have C0 : ckC pg sg mg ([.ref km]).toArray cg cX10_tangle 1 RX10 N Ag := ⟨⟨hx, hb, hml, hown, hg⟩, hE, hA⟩
  generalize hHe : sg.heap = H at hP
  have hS : va_S Ag sg.heap H [] := hHe ▸ hS
  refine lv_aload_n hx hb dX10_tangle_0 rfl (lv_at hl 0 rfl) ?_
  refine va_get (ci := 10) (v := .ref sa) (C := RX10) (T := TX10) (N := 8) hx hb hg inX10 hown hE.1 hP 0 rfl rfl 0 (by decide) (hg _ k1_216) (fun _ h9 => h9) rfl dX10_tangle_1 ?_
  refine va_getN (ci := 6) (v := .ref ra) (C := RX6) (T := TX6) (N := 2) (host := "KiteMeet") hx hb hg inX6 hown hE.1 hP 1 rfl rfl 1 (by decide) (hE.nf 16 rfl _) (fun _ h9 => h9) rfl dX10_tangle_4 ?_
  refine va_getN (ci := 4) (v := .ref b) (C := RX4) (T := TX4) (N := 7) (host := "KiteMeet") hx hb hg inX4 hown hE.1 hP 2 rfl rfl 0 (by decide) (hE.nf 9 rfl _) (fun _ h9 => h9) rfl dX10_tangle_7 ?_
  refine ck_Vi (As := []) (rest := []) (wr := [(km, .inr (10, [.ref sa, .ref hs, .ref shs, .ref ja, .ref uu, .ref tb, .ref ob, .int fd])), (sa, .inr (6, [.ref a, .ref ra])), (ra, .inr (4, [.ref b, .ref sd, .ref tw, .ref sh, .ref wo, .int (nI n), .int wk]))]) C0 hP hD hS (c_X9_tangled l N b lw gw lf gf n w hw (by omega)) myX9_tangled k3_76 ⟨Nat.le_of_ble_eq_true rfl, Nat.le_of_ble_eq_true rfl⟩ [3, 4, 5] [0, 1, 2] ⟨⟨rfl, rfl⟩, by decide, by decide, by decide⟩ 3 rfl rfl rfl rfl hl.1 rfl (Nat.le_of_ble_eq_true rfl) dX10_tangle_10 ⟨Nat.le_of_ble_eq_true rfl, Nat.le_of_ble_eq_true rfl⟩ (fun r_1 u0 H locs hw0 hP hD hS => ?_)
  have hw_2 : r_1 = (nI (psum (fun q => (w q).length) n) - nI n) := hw0
  subst hw_2
  have hP : va_P N.1 vwCl [(km, .inr (10, [.ref sa, .ref hs, .ref shs, .ref ja, .ref uu, .ref tb, .ref ob, .int fd])), (sa, .inr (6, [.ref a, .ref ra])), (ra, .inr (4, [.ref b, .ref sd, .ref tw, .ref sh, .ref wo, .int (nI n), .int wk])), (b, .inr (9, [.ref lw, .ref gw, .int (nI n)])), (lw, .inl (N.2 0, 5, .inl lf)), (gw, .inl (N.2 0, 300, .inl gf))] H := hP
  have hD : va_D Ag [(km, .inr (10, [.ref sa, .ref hs, .ref shs, .ref ja, .ref uu, .ref tb, .ref ob, .int fd])), (sa, .inr (6, [.ref a, .ref ra])), (ra, .inr (4, [.ref b, .ref sd, .ref tw, .ref sh, .ref wo, .int (nI n), .int wk])), (b, .inr (9, [.ref lw, .ref gw, .int (nI n)])), (lw, .inl (N.2 0, 5, .inl lf)), (gw, .inl (N.2 0, 300, .inl gf))] := hD
  exact ck_iret hx hb hrt hlk (fd) (ckRd_ok rfl rfl) hP hD hS ⟨Nat.le_of_ble_eq_true rfl, Nat.le_of_ble_eq_true rfl⟩ dX10_tangle_13
set_option maxHeartbeats 4000000 in
set_option maxRecDepth 100000 in
/-- X10_letter -/
theorem c_X10_letter (l : Launch) (N : ckN) (km : Nat) (sa : Nat) (hs : Nat) (shs : Nat) (ja : Nat) (uu : Nat) (tb : Nat) (ob : Nat) (fd : Int32) (a : Nat) (ra : Nat) (b : Nat) (lw : Nat) (gw : Nat) (sd : Nat) (tw : Nat) (sh : Nat) (wo : Nat) (lf : Nat → Int32) (gf : Nat → Int32) (n : Nat) (wk : Int32) (w : Nat → List Nat) (x : Int32) (y : Int32) (hn : n ≤ 5) (hw : ckWd lf gf n w) : ckI l yX10_letter cX10_letter 4 (some FieldType.int) { frames := 3, cells := 0, slots := 0, locals := 82 } N [.ref km, .int x, .int y] [(km, .inr (10, [.ref sa, .ref hs, .ref shs, .ref ja, .ref uu, .ref tb, .ref ob, .int fd])), (sa, .inr (6, [.ref a, .ref ra])), (ra, .inr (4, [.ref b, .ref sd, .ref tw, .ref sh, .ref wo, .int (nI n), .int wk])), (b, .inr (9, [.ref lw, .ref gw, .int (nI n)])), (lw, .inl (N.2 0, 5, .inl lf)), (gw, .inl (N.2 0, 300, .inl gf))] (fun (r : Int32) (u : Int32) => ckRd (leF n w x y) (leR w x y) fd r u) (fun (u : Int32) => [(km, .inr (10, [.ref sa, .ref hs, .ref shs, .ref ja, .ref uu, .ref tb, .ref ob, .int u])), (sa, .inr (6, [.ref a, .ref ra])), (ra, .inr (4, [.ref b, .ref sd, .ref tw, .ref sh, .ref wo, .int (nI n), .int wk])), (b, .inr (9, [.ref lw, .ref gw, .int (nI n)])), (lw, .inl (N.2 0, 5, .inl lf)), (gw, .inl (N.2 0, 300, .inl gf))]) := by
  refine ckI.of (by decide) (Nat.le_of_ble_eq_true rfl) ?_
  intro pg eg sg mg blw mth cg Ag ls hx hb hrt hml hown hlk hin hg hE hA hP hD hS hl
  have hown : sg.vm.findClass RX10 = some mg.cls := hown
  have hl : lv_has ls 4 [(0, .ref km), (1, .int x), (2, .int y)] := hl
  have C0 : ckC pg sg mg ([.ref km, .int x, .int y]).toArray cg cX10_letter 4 RX10 N Ag := ⟨⟨hx, hb, hml, hown, hg⟩, hE, hA⟩
  generalize hHe : sg.heap = H at hP
  have hS : va_S Ag sg.heap H [] := hHe ▸ hS
  refine lv_aload_n hx hb dX10_letter_0 rfl (lv_at hl 0 rfl) ?_
  refine va_get (ci := 10) (v := .ref sa) (C := RX10) (T := TX10) (N := 8) hx hb hg inX10 hown hE.1 hP 0 rfl rfl 0 (by decide) (hg _ k1_216) (fun _ h9 => h9) rfl dX10_letter_1 ?_
  refine va_getN (ci := 6) (v := .ref ra) (C := RX6) (T := TX6) (N := 2) (host := "KiteMeet") hx hb hg inX6 hown hE.1 hP 1 rfl rfl 1 (by decide) (hE.nf 16 rfl _) (fun _ h9 => h9) rfl dX10_letter_4 ?_
  refine lv_iload_n hx hb dX10_letter_7 rfl (lv_at hl 1 rfl) ?_
  refine ck_Vi (As := [.int x]) (rest := []) (wr := [(km, .inr (10, [.ref sa, .ref hs, .ref shs, .ref ja, .ref uu, .ref tb, .ref ob, .int fd])), (sa, .inr (6, [.ref a, .ref ra])), (b, .inr (9, [.ref lw, .ref gw, .int (nI n)])), (lw, .inl (N.2 0, 5, .inl lf)), (gw, .inl (N.2 0, 300, .inl gf))]) C0 hP hD hS (c_X4_has l N ra b sd tw sh wo n wk x (by omega)) myX4_has k3_84 ⟨Nat.le_of_ble_eq_true rfl, Nat.le_of_ble_eq_true rfl⟩ [2] [0, 1, 3, 4, 5] ⟨⟨rfl, rfl⟩, by decide, by decide, by decide⟩ 2 rfl rfl rfl rfl hl.1 rfl (Nat.le_of_ble_eq_true rfl) dX10_letter_8 ⟨Nat.le_of_ble_eq_true rfl, Nat.le_of_ble_eq_true rfl⟩ (fun r_1 u0 H locs hw0 hP hD hS => ?_)
  have hw_2 : r_1 = (b2i (ckLt x n)) := hw0
  subst hw_2
  have hP : va_P N.1 vwCl [(km, .inr (10, [.ref sa, .ref hs, .ref shs, .ref ja, .ref uu, .ref tb, .ref ob, .int fd])), (sa, .inr (6, [.ref a, .ref ra])), (b, .inr (9, [.ref lw, .ref gw, .int (nI n)])), (lw, .inl (N.2 0, 5, .inl lf)), (gw, .inl (N.2 0, 300, .inl gf)), (ra, .inr (4, [.ref b, .ref sd, .ref tw, .ref sh, .ref wo, .int (nI n), .int wk]))] H := hP
  have hD : va_D Ag [(km, .inr (10, [.ref sa, .ref hs, .ref shs, .ref ja, .ref uu, .ref tb, .ref ob, .int fd])), (sa, .inr (6, [.ref a, .ref ra])), (b, .inr (9, [.ref lw, .ref gw, .int (nI n)])), (lw, .inl (N.2 0, 5, .inl lf)), (gw, .inl (N.2 0, 300, .inl gf)), (ra, .inr (4, [.ref b, .ref sd, .ref tw, .ref sh, .ref wo, .int (nI n), .int wk]))] := hD
  refine ck_ifne (b := ckLt x n) (tgt := 21) hx hb dX10_letter_11 (by decide) (fun cz_3 => ?_) (fun cz_3 => ?_)
  · have hx1 := cz_3
    obtain ⟨i, hi, rfl⟩ := (ckLt_t (by omega)).mp hx1
    have exi : ix (nI i) = i := ix_nI (by omega)
    obtain ⟨hp1, hp2, hp3, hp4⟩ := hw i hi
    refine lv_aload_n hx hb dX10_letter_21 rfl (lv_at hl 0 rfl) ?_
    refine va_get (ci := 10) (v := .ref sa) (C := RX10) (T := TX10) (N := 8) hx hb hg inX10 hown hE.1 hP 0 rfl rfl 0 (by decide) (hg _ k1_216) (fun _ h9 => h9) rfl dX10_letter_22 ?_
    refine va_getN (ci := 6) (v := .ref ra) (C := RX6) (T := TX6) (N := 2) (host := "KiteMeet") hx hb hg inX6 hown hE.1 hP 1 rfl rfl 1 (by decide) (hE.nf 16 rfl _) (fun _ h9 => h9) rfl dX10_letter_25 ?_
    refine va_getN (ci := 4) (v := .ref b) (C := RX4) (T := TX4) (N := 7) (host := "KiteMeet") hx hb hg inX4 hown hE.1 hP 5 rfl rfl 0 (by decide) (hE.nf 9 rfl _) (fun _ h9 => h9) rfl dX10_letter_28 ?_
    refine va_getN (ci := 9) (v := .ref lw) (C := RX9) (T := TX9) (N := 3) (host := "KiteMeet") hx hb hg inX9 hown hE.1 hP 2 rfl rfl 0 (by decide) (hE.nf 7 rfl _) (fun _ h9 => h9) rfl dX10_letter_31 ?_
    refine lv_iload_n hx hb dX10_letter_34 rfl (lv_at hl 1 rfl) ?_
    refine ck_iald hx hb hE hP 3 rfl (by omega) (by decide) dX10_letter_35 ?_
    refine ck_top (y := (nI ((w i).length))) hp1 ?_
    refine lv_istore_n (lv' := [(3, .int (nI ((w i).length))), (0, .ref km), (1, .int (nI i)), (2, .int y)]) hx hb dX10_letter_36 rfl hl (by decide) rfl (fun ls hl => ?_)
    refine lv_iload_n hx hb dX10_letter_37 rfl (lv_at hl 3 rfl) ?_
    refine lv_iconst (v := (-1)) hx hb dX10_letter_38 (by decide) ?_
    refine lv_icmp_ne (tgt := 44) hx hb dX10_letter_39 (by decide) (fun cz_4 => ?_) (fun cz_4 => ?_)
    · have hy1 := cz_4
      refine lv_iload_n hx hb dX10_letter_44 rfl (lv_at hl 3 rfl) ?_
      refine lv_if_lt (tgt := 53) hx hb dX10_letter_45 (by decide) (fun cz_5 => ?_) (fun cz_5 => ?_)
      · have hq : ckLt y (w i).length = false := by rw [ckLt]; have e0 : (0 : Int32).toInt = 0 := (by decide); have e1 := nI_toInt (n := (w i).length) (by omega); have z0 := cz_5; simp only [i_lt, i_le] at z0; exact decide_eq_false (by omega)
        refine lv_aload_n hx hb dX10_letter_53 rfl (lv_at hl 1 rfl) ?_
        refine lv_ldc (own := RX10) (v := (-100001)) hx hb hown (hg _ k2_14) dX10_letter_54 ?_
        refine ck_Vi (As := [.int (-100001)]) (rest := []) (wr := [(sa, .inr (6, [.ref a, .ref ra])), (b, .inr (9, [.ref lw, .ref gw, .int (nI n)])), (lw, .inl (N.2 0, 5, .inl lf)), (gw, .inl (N.2 0, 300, .inl gf)), (ra, .inr (4, [.ref b, .ref sd, .ref tw, .ref sh, .ref wo, .int (nI n), .int wk]))]) C0 hP hD hS (c_X10_finding l N km sa hs shs ja uu tb ob fd (-100001) ) myX10_finding k2_15 ⟨Nat.le_of_ble_eq_true rfl, Nat.le_of_ble_eq_true rfl⟩ [0] [1, 2, 3, 4, 5] ⟨⟨rfl, rfl⟩, by decide, by decide, by decide⟩ 0 rfl rfl rfl rfl hl.1 rfl (Nat.le_of_ble_eq_true rfl) dX10_letter_56 ⟨Nat.le_of_ble_eq_true rfl, Nat.le_of_ble_eq_true rfl⟩ (fun r_6 u0 H locs hw0 hP hD hS => ?_)
        have hw_7 : r_6 = (-100001) := hw0
        subst hw_7
        have hP : va_P N.1 vwCl [(sa, .inr (6, [.ref a, .ref ra])), (b, .inr (9, [.ref lw, .ref gw, .int (nI n)])), (lw, .inl (N.2 0, 5, .inl lf)), (gw, .inl (N.2 0, 300, .inl gf)), (ra, .inr (4, [.ref b, .ref sd, .ref tw, .ref sh, .ref wo, .int (nI n), .int wk])), (km, .inr (10, [.ref sa, .ref hs, .ref shs, .ref ja, .ref uu, .ref tb, .ref ob, .int (fd + nI 1)]))] H := hP
        have hD : va_D Ag [(sa, .inr (6, [.ref a, .ref ra])), (b, .inr (9, [.ref lw, .ref gw, .int (nI n)])), (lw, .inl (N.2 0, 5, .inl lf)), (gw, .inl (N.2 0, 300, .inl gf)), (ra, .inr (4, [.ref b, .ref sd, .ref tw, .ref sh, .ref wo, .int (nI n), .int wk])), (km, .inr (10, [.ref sa, .ref hs, .ref shs, .ref ja, .ref uu, .ref tb, .ref ob, .int (fd + nI 1)]))] := hD
        exact ck_iret hx hb hrt hlk ((fd + nI 1)) (ckRd_f (by simp [leF, hx1, exi, hq, hy1]) (by decide)) (hP.sub [5, 0, 4, 1, 2, 3] rfl) (hD.sub [5, 0, 4, 1, 2, 3] (by decide) rfl) hS ⟨Nat.le_of_ble_eq_true rfl, Nat.le_of_ble_eq_true rfl⟩ dX10_letter_59
      refine lv_iload_n hx hb dX10_letter_48 rfl (lv_at hl 3 rfl) ?_
      refine lv_iload_n hx hb dX10_letter_49 rfl (lv_at hl 0 rfl) ?_
      refine lv_icmp_lt (tgt := 60) hx hb dX10_letter_50 (by decide) (fun cz_8 => ?_) (fun cz_8 => ?_)
      · have hq : ckLt y (w i).length = true := by rw [ckLt]; have e0 : (0 : Int32).toInt = 0 := (by decide); have e1 := nI_toInt (n := (w i).length) (by omega); have z0 := cz_5; have z1 := cz_8; simp only [i_lt, i_le] at z0 z1; exact decide_eq_true (by omega)
        obtain ⟨k, hk, rfl⟩ := (ckLt_t (by omega)).mp hq
        have exk : ix (nI k) = k := ix_nI (by omega)
        refine lv_aload_n hx hb dX10_letter_60 rfl (lv_at hl 1 rfl) ?_
        refine va_get (ci := 10) (v := .ref sa) (C := RX10) (T := TX10) (N := 8) hx hb hg inX10 hown hE.1 hP 0 rfl rfl 0 (by decide) (hg _ k1_216) (fun _ h9 => h9) rfl dX10_letter_61 ?_
        refine va_getN (ci := 6) (v := .ref ra) (C := RX6) (T := TX6) (N := 2) (host := "KiteMeet") hx hb hg inX6 hown hE.1 hP 1 rfl rfl 1 (by decide) (hE.nf 16 rfl _) (fun _ h9 => h9) rfl dX10_letter_64 ?_
        refine va_getN (ci := 4) (v := .ref b) (C := RX4) (T := TX4) (N := 7) (host := "KiteMeet") hx hb hg inX4 hown hE.1 hP 5 rfl rfl 0 (by decide) (hE.nf 9 rfl _) (fun _ h9 => h9) rfl dX10_letter_67 ?_
        refine lv_iload_n hx hb dX10_letter_70 rfl (lv_at hl 2 rfl) ?_
        refine lv_iload_n hx hb dX10_letter_71 rfl (lv_at hl 3 rfl) ?_
        refine ck_Vi (As := [.int (nI i), .int (nI k)]) (rest := []) (wr := [(km, .inr (10, [.ref sa, .ref hs, .ref shs, .ref ja, .ref uu, .ref tb, .ref ob, .int fd])), (sa, .inr (6, [.ref a, .ref ra])), (ra, .inr (4, [.ref b, .ref sd, .ref tw, .ref sh, .ref wo, .int (nI n), .int wk]))]) C0 hP hD hS (c_X9_told l N b lw gw lf gf n i k (by omega)) myX9_told k3_92 ⟨Nat.le_of_ble_eq_true rfl, Nat.le_of_ble_eq_true rfl⟩ [2, 3, 4] [0, 1, 5] ⟨⟨rfl, rfl⟩, by decide, by decide, by decide⟩ 2 rfl rfl rfl rfl hl.1 rfl (Nat.le_of_ble_eq_true rfl) dX10_letter_72 ⟨Nat.le_of_ble_eq_true rfl, Nat.le_of_ble_eq_true rfl⟩ (fun r_9 u0 H locs hw0 hP hD hS => ?_)
        have hw_10 : r_9 = (gf (i * 60 + k)) := hw0
        subst hw_10
        have hP : va_P N.1 vwCl [(km, .inr (10, [.ref sa, .ref hs, .ref shs, .ref ja, .ref uu, .ref tb, .ref ob, .int fd])), (sa, .inr (6, [.ref a, .ref ra])), (ra, .inr (4, [.ref b, .ref sd, .ref tw, .ref sh, .ref wo, .int (nI n), .int wk])), (b, .inr (9, [.ref lw, .ref gw, .int (nI n)])), (lw, .inl (N.2 0, 5, .inl lf)), (gw, .inl (N.2 0, 300, .inl gf))] H := hP
        have hD : va_D Ag [(km, .inr (10, [.ref sa, .ref hs, .ref shs, .ref ja, .ref uu, .ref tb, .ref ob, .int fd])), (sa, .inr (6, [.ref a, .ref ra])), (ra, .inr (4, [.ref b, .ref sd, .ref tw, .ref sh, .ref wo, .int (nI n), .int wk])), (b, .inr (9, [.ref lw, .ref gw, .int (nI n)])), (lw, .inl (N.2 0, 5, .inl lf)), (gw, .inl (N.2 0, 300, .inl gf))] := hD
        refine ck_top (y := (nI ((w i).getD k 0))) (hp4 k (by omega)) ?_
        exact ck_iret hx hb hrt hlk (fd) (ckRd_ok (by simp [leF, hx1, exi, exk, hq]) (by rw [leR, if_neg hy1, exi, exk])) hP hD hS ⟨Nat.le_of_ble_eq_true rfl, Nat.le_of_ble_eq_true rfl⟩ dX10_letter_75
      have hq : ckLt y (w i).length = false := by rw [ckLt]; have e0 : (0 : Int32).toInt = 0 := (by decide); have e1 := nI_toInt (n := (w i).length) (by omega); have z0 := cz_5; have z1 := cz_8; simp only [i_lt, i_le] at z0 z1; exact decide_eq_false (by omega)
      refine lv_aload_n hx hb dX10_letter_53 rfl (lv_at hl 1 rfl) ?_
      refine lv_ldc (own := RX10) (v := (-100001)) hx hb hown (hg _ k2_14) dX10_letter_54 ?_
      refine ck_Vi (As := [.int (-100001)]) (rest := []) (wr := [(sa, .inr (6, [.ref a, .ref ra])), (b, .inr (9, [.ref lw, .ref gw, .int (nI n)])), (lw, .inl (N.2 0, 5, .inl lf)), (gw, .inl (N.2 0, 300, .inl gf)), (ra, .inr (4, [.ref b, .ref sd, .ref tw, .ref sh, .ref wo, .int (nI n), .int wk]))]) C0 hP hD hS (c_X10_finding l N km sa hs shs ja uu tb ob fd (-100001) ) myX10_finding k2_15 ⟨Nat.le_of_ble_eq_true rfl, Nat.le_of_ble_eq_true rfl⟩ [0] [1, 2, 3, 4, 5] ⟨⟨rfl, rfl⟩, by decide, by decide, by decide⟩ 0 rfl rfl rfl rfl hl.1 rfl (Nat.le_of_ble_eq_true rfl) dX10_letter_56 ⟨Nat.le_of_ble_eq_true rfl, Nat.le_of_ble_eq_true rfl⟩ (fun r_11 u0 H locs hw0 hP hD hS => ?_)
      have hw_12 : r_11 = (-100001) := hw0
      subst hw_12
      have hP : va_P N.1 vwCl [(sa, .inr (6, [.ref a, .ref ra])), (b, .inr (9, [.ref lw, .ref gw, .int (nI n)])), (lw, .inl (N.2 0, 5, .inl lf)), (gw, .inl (N.2 0, 300, .inl gf)), (ra, .inr (4, [.ref b, .ref sd, .ref tw, .ref sh, .ref wo, .int (nI n), .int wk])), (km, .inr (10, [.ref sa, .ref hs, .ref shs, .ref ja, .ref uu, .ref tb, .ref ob, .int (fd + nI 1)]))] H := hP
      have hD : va_D Ag [(sa, .inr (6, [.ref a, .ref ra])), (b, .inr (9, [.ref lw, .ref gw, .int (nI n)])), (lw, .inl (N.2 0, 5, .inl lf)), (gw, .inl (N.2 0, 300, .inl gf)), (ra, .inr (4, [.ref b, .ref sd, .ref tw, .ref sh, .ref wo, .int (nI n), .int wk])), (km, .inr (10, [.ref sa, .ref hs, .ref shs, .ref ja, .ref uu, .ref tb, .ref ob, .int (fd + nI 1)]))] := hD
      exact ck_iret hx hb hrt hlk ((fd + nI 1)) (ckRd_f (by simp [leF, hx1, exi, hq, hy1]) (by decide)) (hP.sub [5, 0, 4, 1, 2, 3] rfl) (hD.sub [5, 0, 4, 1, 2, 3] (by decide) rfl) hS ⟨Nat.le_of_ble_eq_true rfl, Nat.le_of_ble_eq_true rfl⟩ dX10_letter_59
    have hy1 := cz_4
    refine lv_iload_n hx hb dX10_letter_42 rfl (lv_at hl 0 rfl) ?_
    exact ck_iret hx hb hrt hlk (fd) (ckRd_ok (by simp [leF, hx1, exi, hy1]) (by simp [leR, hy1, exi])) (hP.sub [0, 1, 5, 2, 3, 4] rfl) (hD.sub [0, 1, 5, 2, 3, 4] (by decide) rfl) hS ⟨Nat.le_of_ble_eq_true rfl, Nat.le_of_ble_eq_true rfl⟩ dX10_letter_43
  refine lv_aload_n hx hb dX10_letter_14 rfl (lv_at hl 0 rfl) ?_
  refine lv_ldc (own := RX10) (v := (-100001)) hx hb hown (hg _ k2_14) dX10_letter_15 ?_
  refine ck_Vi (As := [.int (-100001)]) (rest := []) (wr := [(sa, .inr (6, [.ref a, .ref ra])), (b, .inr (9, [.ref lw, .ref gw, .int (nI n)])), (lw, .inl (N.2 0, 5, .inl lf)), (gw, .inl (N.2 0, 300, .inl gf)), (ra, .inr (4, [.ref b, .ref sd, .ref tw, .ref sh, .ref wo, .int (nI n), .int wk]))]) C0 hP hD hS (c_X10_finding l N km sa hs shs ja uu tb ob fd (-100001) ) myX10_finding k2_15 ⟨Nat.le_of_ble_eq_true rfl, Nat.le_of_ble_eq_true rfl⟩ [0] [1, 2, 3, 4, 5] ⟨⟨rfl, rfl⟩, by decide, by decide, by decide⟩ 0 rfl rfl rfl rfl hl.1 rfl (Nat.le_of_ble_eq_true rfl) dX10_letter_17 ⟨Nat.le_of_ble_eq_true rfl, Nat.le_of_ble_eq_true rfl⟩ (fun r_13 u0 H locs hw0 hP hD hS => ?_)
  have hw_14 : r_13 = (-100001) := hw0
  subst hw_14
  have hP : va_P N.1 vwCl [(sa, .inr (6, [.ref a, .ref ra])), (b, .inr (9, [.ref lw, .ref gw, .int (nI n)])), (lw, .inl (N.2 0, 5, .inl lf)), (gw, .inl (N.2 0, 300, .inl gf)), (ra, .inr (4, [.ref b, .ref sd, .ref tw, .ref sh, .ref wo, .int (nI n), .int wk])), (km, .inr (10, [.ref sa, .ref hs, .ref shs, .ref ja, .ref uu, .ref tb, .ref ob, .int (fd + nI 1)]))] H := hP
  have hD : va_D Ag [(sa, .inr (6, [.ref a, .ref ra])), (b, .inr (9, [.ref lw, .ref gw, .int (nI n)])), (lw, .inl (N.2 0, 5, .inl lf)), (gw, .inl (N.2 0, 300, .inl gf)), (ra, .inr (4, [.ref b, .ref sd, .ref tw, .ref sh, .ref wo, .int (nI n), .int wk])), (km, .inr (10, [.ref sa, .ref hs, .ref shs, .ref ja, .ref uu, .ref tb, .ref ob, .int (fd + nI 1)]))] := hD
  exact ck_iret hx hb hrt hlk ((fd + nI 1)) (ckRd_f (by simp [leF, cz_3]) (by decide)) (hP.sub [5, 0, 4, 1, 2, 3] rfl) (hD.sub [5, 0, 4, 1, 2, 3] (by decide) rfl) hS ⟨Nat.le_of_ble_eq_true rfl, Nat.le_of_ble_eq_true rfl⟩ dX10_letter_20
set_option maxHeartbeats 4000000 in
set_option maxRecDepth 100000 in
/-- X10_lost -/
theorem c_X10_lost (l : Launch) (N : ckN) (km : Nat) (sa : Nat) (hs : Nat) (shs : Nat) (ja : Nat) (uu : Nat) (tb : Nat) (ob : Nat) (fd : Int32) (a : Nat) (ra : Nat) (b : Nat) (sd : Nat) (tw : Nat) (sh : Nat) (wo : Nat) (wof : Nat → Int32) (n : Nat) (wk : Int32) (hn : n ≤ 5) : ckI l yX10_lost cX10_lost 3 (some FieldType.int) { frames := 3, cells := 0, slots := 0, locals := 81 } N [.ref km] [(km, .inr (10, [.ref sa, .ref hs, .ref shs, .ref ja, .ref uu, .ref tb, .ref ob, .int fd])), (sa, .inr (6, [.ref a, .ref ra])), (ra, .inr (4, [.ref b, .ref sd, .ref tw, .ref sh, .ref wo, .int (nI n), .int wk])), (wo, .inl (N.2 0, 5, .inl wof))] (fun (r : Int32) (u : Int32) => ckRd (0) (nI (bitsOf (fun f => decide (nI 20 ≤ wof f)) n)) fd r u) (fun (u : Int32) => [(km, .inr (10, [.ref sa, .ref hs, .ref shs, .ref ja, .ref uu, .ref tb, .ref ob, .int u])), (sa, .inr (6, [.ref a, .ref ra])), (ra, .inr (4, [.ref b, .ref sd, .ref tw, .ref sh, .ref wo, .int (nI n), .int wk])), (wo, .inl (N.2 0, 5, .inl wof))]) := by
  refine ckI.of (by decide) (Nat.le_of_ble_eq_true rfl) ?_
  intro pg eg sg mg blw mth cg Ag ls hx hb hrt hml hown hlk hin hg hE hA hP hD hS hl
  have hown : sg.vm.findClass RX10 = some mg.cls := hown
  have hl : lv_has ls 3 [(0, .ref km)] := hl
  have C0 : ckC pg sg mg ([.ref km]).toArray cg cX10_lost 3 RX10 N Ag := ⟨⟨hx, hb, hml, hown, hg⟩, hE, hA⟩
  generalize hHe : sg.heap = H at hP
  have hS : va_S Ag sg.heap H [] := hHe ▸ hS
  refine lv_iconst (v := (nI 0)) hx hb dX10_lost_0 (by decide) ?_
  refine lv_istore_n (lv' := [(1, .int (nI 0)), (0, .ref km)]) hx hb dX10_lost_1 rfl hl (by decide) rfl (fun ls hl => ?_)
  refine lv_iconst (v := (nI 0)) hx hb dX10_lost_2 (by decide) ?_
  refine lv_istore_n (lv' := [(2, .int (nI 0)), (1, .int (nI 0)), (0, .ref km)]) hx hb dX10_lost_3 rfl hl (by decide) rfl (fun ls hl => ?_)
  have lp_4 : ∀ (dz : Nat) (k : Nat) (b1 : Nat) (hdz : n - k = dz) (hk : k ≤ n) (hb1 : b1 = bitsOf (fun f => decide (nI 20 ≤ wof f)) k) (H : Heap) (locs : List Loc) (ls : Array Slot), va_P N.1 vwCl [(km, .inr (10, [.ref sa, .ref hs, .ref shs, .ref ja, .ref uu, .ref tb, .ref ob, .int fd])), (sa, .inr (6, [.ref a, .ref ra])), (ra, .inr (4, [.ref b, .ref sd, .ref tw, .ref sh, .ref wo, .int (nI n), .int wk])), (wo, .inl (N.2 0, 5, .inl wof))] H → va_D Ag [(km, .inr (10, [.ref sa, .ref hs, .ref shs, .ref ja, .ref uu, .ref tb, .ref ob, .int fd])), (sa, .inr (6, [.ref a, .ref ra])), (ra, .inr (4, [.ref b, .ref sd, .ref tw, .ref sh, .ref wo, .int (nI n), .int wk])), (wo, .inl (N.2 0, 5, .inl wof))] → va_S Ag sg.heap H locs → lv_has ls 3 [(2, .int (nI k)), (1, .int (nI b1)), (0, .ref km)] → W pg l eg { frames := 3, cells := 0, slots := 0, locals := 81 } sg mg ([.ref km]).toArray blw mth cg H locs 0 0 (ckQi N Ag blw sg ([.ref km]).toArray { frames := 3, cells := 0, slots := 0, locals := 81 } (fun (r : Int32) (u : Int32) => ckRd (0) (nI (bitsOf (fun f => decide (nI 20 ≤ wof f)) n)) fd r u) (fun (u : Int32) => [(km, .inr (10, [.ref sa, .ref hs, .ref shs, .ref ja, .ref uu, .ref tb, .ref ob, .int u])), (sa, .inr (6, [.ref a, .ref ra])), (ra, .inr (4, [.ref b, .ref sd, .ref tw, .ref sh, .ref wo, .int (nI n), .int wk])), (wo, .inl (N.2 0, 5, .inl wof))])) (F0 mg 4 ls []) := by
    intro dz
    induction dz using Nat.strongRecOn with
    | _ dz ih_4 =>
      intro k b1 hdz hk hb1 H locs ls hP hD hS hl
      subst hdz
      refine lv_iload_n hx hb dX10_lost_4 rfl (lv_at hl 0 rfl) ?_
      refine lv_aload_n hx hb dX10_lost_5 rfl (lv_at hl 2 rfl) ?_
      refine va_get (ci := 10) (v := .ref sa) (C := RX10) (T := TX10) (N := 8) hx hb hg inX10 hown hE.1 hP 0 rfl rfl 0 (by decide) (hg _ k1_216) (fun _ h9 => h9) rfl dX10_lost_6 ?_
      refine va_getN (ci := 6) (v := .ref ra) (C := RX6) (T := TX6) (N := 2) (host := "KiteMeet") hx hb hg inX6 hown hE.1 hP 1 rfl rfl 1 (by decide) (hE.nf 16 rfl _) (fun _ h9 => h9) rfl dX10_lost_9 ?_
      refine va_getN (ci := 4) (v := .int (nI n)) (C := RX4) (T := TX4) (N := 7) (host := "KiteMeet") hx hb hg inX4 hown hE.1 hP 2 rfl rfl 5 (by decide) (hE.nf 13 rfl _) (fun _ h9 => h9) rfl dX10_lost_12 ?_
      refine ck_ic_ge (tgt := 44) hx hb dX10_lost_15 (by decide) (by omega) (by omega) (fun cz_1 => ?_) (fun cz_1 => ?_)
      · refine lv_iload_n hx hb dX10_lost_44 rfl (lv_at hl 1 rfl) ?_
        exact ck_iret hx hb hrt hlk (fd) (ckRd_ok rfl (by rw [hb1, (show k = n by omega)])) hP hD hS ⟨Nat.le_of_ble_eq_true rfl, Nat.le_of_ble_eq_true rfl⟩ dX10_lost_45
      refine lv_aload_n hx hb dX10_lost_18 rfl (lv_at hl 2 rfl) ?_
      refine va_get (ci := 10) (v := .ref sa) (C := RX10) (T := TX10) (N := 8) hx hb hg inX10 hown hE.1 hP 0 rfl rfl 0 (by decide) (hg _ k1_216) (fun _ h9 => h9) rfl dX10_lost_19 ?_
      refine va_getN (ci := 6) (v := .ref ra) (C := RX6) (T := TX6) (N := 2) (host := "KiteMeet") hx hb hg inX6 hown hE.1 hP 1 rfl rfl 1 (by decide) (hE.nf 16 rfl _) (fun _ h9 => h9) rfl dX10_lost_22 ?_
      refine lv_iload_n hx hb dX10_lost_25 rfl (lv_at hl 0 rfl) ?_
      refine ck_Vi (As := [.int (nI k)]) (rest := []) (wr := [(km, .inr (10, [.ref sa, .ref hs, .ref shs, .ref ja, .ref uu, .ref tb, .ref ob, .int fd])), (sa, .inr (6, [.ref a, .ref ra]))]) C0 hP hD hS (c_X4_isCut l N ra b sd tw sh wo n wk wof k (by omega)) myX4_isCut k3_20 ⟨Nat.le_of_ble_eq_true rfl, Nat.le_of_ble_eq_true rfl⟩ [2, 3] [0, 1] ⟨⟨rfl, rfl⟩, by decide, by decide, by decide⟩ 2 rfl rfl rfl rfl hl.1 rfl (Nat.le_of_ble_eq_true rfl) dX10_lost_26 ⟨Nat.le_of_ble_eq_true rfl, Nat.le_of_ble_eq_true rfl⟩ (fun r_2 u0 H locs hw0 hP hD hS => ?_)
      have hw_3 : r_2 = (b2i (decide (nI 20 ≤ wof k))) := hw0
      subst hw_3
      have hP : va_P N.1 vwCl [(km, .inr (10, [.ref sa, .ref hs, .ref shs, .ref ja, .ref uu, .ref tb, .ref ob, .int fd])), (sa, .inr (6, [.ref a, .ref ra])), (ra, .inr (4, [.ref b, .ref sd, .ref tw, .ref sh, .ref wo, .int (nI n), .int wk])), (wo, .inl (N.2 0, 5, .inl wof))] H := hP
      have hD : va_D Ag [(km, .inr (10, [.ref sa, .ref hs, .ref shs, .ref ja, .ref uu, .ref tb, .ref ob, .int fd])), (sa, .inr (6, [.ref a, .ref ra])), (ra, .inr (4, [.ref b, .ref sd, .ref tw, .ref sh, .ref wo, .int (nI n), .int wk])), (wo, .inl (N.2 0, 5, .inl wof))] := hD
      refine ck_ifeq (b := decide (nI 20 ≤ wof k)) (tgt := 38) hx hb dX10_lost_29 (by decide) (fun cz_4 => ?_) (fun cz_4 => ?_)
      · refine lv_iinc (v := (nI (k + 1))) (lv' := [(2, .int (nI (k + 1))), (1, .int (nI b1)), (0, .ref km)]) hx hb dX10_lost_38 hl (k := 0) rfl (nI_1 _) (by decide) rfl (fun ls hl => ?_)
        refine lv_goto (tgt := 4) hx hb dX10_lost_41 (by decide) ?_
        exact ih_4 _ (by omega) (k + 1) b1 rfl (by omega) (by rw [bitsOf, cz_4, hb1]; rfl) _ _ ls hP hD hS hl
      refine lv_iload_n hx hb dX10_lost_32 rfl (lv_at hl 1 rfl) ?_
      refine lv_iconst (v := (nI 1)) hx hb dX10_lost_33 (by decide) ?_
      refine lv_iload_n hx hb dX10_lost_34 rfl (lv_at hl 0 rfl) ?_
      refine lv_ishl hx hb dX10_lost_35 ?_
      refine ck_top (y := (nI (2 ^ k))) (ck_shl1 (by omega)) ?_
      refine lv_ior hx hb dX10_lost_36 ?_
      refine ck_top (y := (nI (b1 ||| (2 ^ k)))) (ck_or _ _) ?_
      refine lv_istore_n (lv' := [(1, .int (nI (b1 ||| (2 ^ k)))), (2, .int (nI k)), (0, .ref km)]) hx hb dX10_lost_37 rfl hl (by decide) rfl (fun ls hl => ?_)
      refine lv_iinc (v := (nI (k + 1))) (lv' := [(2, .int (nI (k + 1))), (1, .int (nI (b1 ||| (2 ^ k)))), (0, .ref km)]) hx hb dX10_lost_38 hl (k := 1) rfl (nI_1 _) (by decide) rfl (fun ls hl => ?_)
      refine lv_goto (tgt := 4) hx hb dX10_lost_41 (by decide) ?_
      exact ih_4 _ (by omega) (k + 1) (b1 ||| (2 ^ k)) rfl (by omega) (by rw [bitsOf, cz_4, hb1]; rfl) _ _ ls hP hD hS hl
  exact lp_4 _ 0 0 rfl (by omega) rfl _ _ ls hP hD hS hl
set_option maxHeartbeats 4000000 in
set_option maxRecDepth 100000 in
/-- X10_all -/
theorem c_X10_all (l : Launch) (N : ckN) (km : Nat) (sa : Nat) (hs : Nat) (shs : Nat) (ja : Nat) (uu : Nat) (tb : Nat) (ob : Nat) (fd : Int32) (a : Nat) (fl : Nat) (t : Nat) (wi : Nat) (nr : Nat) (cf : Nat) (ra : Nat) (b : Nat) (lw : Nat) (gw : Nat) (sd : Nat) (tw : Nat) (sh : Nat) (wo : Nat) (lf : Nat → Int32) (gf : Nat → Int32) (n : Nat) (wk : Int32) (w : Nat → List Nat) (x : Int32) (hn : n ≤ 5) (hw : ckWd lf gf n w) : ckI l yX10_all cX10_all 2 (some FieldType.int) { frames := 4, cells := 0, slots := 0, locals := 103 } N [.ref km, .int x] [(km, .inr (10, [.ref sa, .ref hs, .ref shs, .ref ja, .ref uu, .ref tb, .ref ob, .int fd])), (sa, .inr (6, [.ref a, .ref ra])), (a, .inr (0, [.ref fl, .ref wi, .ref nr])), (fl, .inr (1, [.ref t, .int (nI cf)])), (ra, .inr (4, [.ref b, .ref sd, .ref tw, .ref sh, .ref wo, .int (nI n), .int wk])), (b, .inr (9, [.ref lw, .ref gw, .int (nI n)])), (lw, .inl (N.2 0, 5, .inl lf)), (gw, .inl (N.2 0, 300, .inl gf))] (fun (r : Int32) (u : Int32) => ckRd (alF x) (alR cf n wk w fd x) fd r u) (fun (u : Int32) => [(km, .inr (10, [.ref sa, .ref hs, .ref shs, .ref ja, .ref uu, .ref tb, .ref ob, .int u])), (sa, .inr (6, [.ref a, .ref ra])), (a, .inr (0, [.ref fl, .ref wi, .ref nr])), (fl, .inr (1, [.ref t, .int (nI cf)])), (ra, .inr (4, [.ref b, .ref sd, .ref tw, .ref sh, .ref wo, .int (nI n), .int wk])), (b, .inr (9, [.ref lw, .ref gw, .int (nI n)])), (lw, .inl (N.2 0, 5, .inl lf)), (gw, .inl (N.2 0, 300, .inl gf))]) := by
  refine ckI.of (by decide) (Nat.le_of_ble_eq_true rfl) ?_
  intro pg eg sg mg blw mth cg Ag ls hx hb hrt hml hown hlk hin hg hE hA hP hD hS hl
  have hown : sg.vm.findClass RX10 = some mg.cls := hown
  have hl : lv_has ls 2 [(0, .ref km), (1, .int x)] := hl
  have C0 : ckC pg sg mg ([.ref km, .int x]).toArray cg cX10_all 2 RX10 N Ag := ⟨⟨hx, hb, hml, hown, hg⟩, hE, hA⟩
  generalize hHe : sg.heap = H at hP
  have hS : va_S Ag sg.heap H [] := hHe ▸ hS
  refine lv_iload_n hx hb dX10_all_0 rfl (lv_at hl 1 rfl) ?_
  by_cases hsw : ckIn x (nI 0) (nI 4) = true
  · obtain ⟨j, -, hj, rfl⟩ := (ckIn_n (by decide) (by decide)).mp hsw
    rcases (show j = 0 ∨ j = 1 ∨ j = 2 ∨ j = 3 ∨ j = 4 by omega) with rfl | rfl | rfl | rfl | rfl
    · refine lv_tableIn (tgt := 36) (off := 35) hx hb dX10_all_1 (by decide) (by decide) rfl (by decide) ?_
      refine lv_aload_n hx hb dX10_all_36 rfl (lv_at hl 0 rfl) ?_
      refine va_get (ci := 10) (v := .ref sa) (C := RX10) (T := TX10) (N := 8) hx hb hg inX10 hown hE.1 hP 0 rfl rfl 0 (by decide) (hg _ k1_216) (fun _ h9 => h9) rfl dX10_all_37 ?_
      refine va_getN (ci := 6) (v := .ref a) (C := RX6) (T := TX6) (N := 2) (host := "KiteMeet") hx hb hg inX6 hown hE.1 hP 1 rfl rfl 0 (by decide) (hE.nf 15 rfl _) (fun _ h9 => h9) rfl dX10_all_40 ?_
      refine va_getN (ci := 0) (v := .ref fl) (C := RX0) (T := TX0) (N := 3) (host := "KiteMeet") hx hb hg inX0 hown hE.1 hP 2 rfl rfl 0 (by decide) (hE.nf 3 rfl _) (fun _ h9 => h9) rfl dX10_all_43 ?_
      refine va_getN (ci := 1) (v := .int (nI cf)) (C := RX1) (T := TX1) (N := 2) (host := "KiteMeet") hx hb hg inX1 hown hE.1 hP 3 rfl rfl 1 (by decide) (hE.nf 1 rfl _) (fun _ h9 => h9) rfl dX10_all_46 ?_
      exact ck_iret hx hb hrt hlk (fd) (ckRd_ok (by simp [alF, hsw]) (by simp [alR])) hP hD hS ⟨Nat.le_of_ble_eq_true rfl, Nat.le_of_ble_eq_true rfl⟩ dX10_all_49
    · refine lv_tableIn (tgt := 50) (off := 49) hx hb dX10_all_1 (by decide) (by decide) rfl (by decide) ?_
      refine lv_aload_n hx hb dX10_all_50 rfl (lv_at hl 0 rfl) ?_
      refine va_get (ci := 10) (v := .ref sa) (C := RX10) (T := TX10) (N := 8) hx hb hg inX10 hown hE.1 hP 0 rfl rfl 0 (by decide) (hg _ k1_216) (fun _ h9 => h9) rfl dX10_all_51 ?_
      refine va_getN (ci := 6) (v := .ref ra) (C := RX6) (T := TX6) (N := 2) (host := "KiteMeet") hx hb hg inX6 hown hE.1 hP 1 rfl rfl 1 (by decide) (hE.nf 16 rfl _) (fun _ h9 => h9) rfl dX10_all_54 ?_
      refine va_getN (ci := 4) (v := .int (nI n)) (C := RX4) (T := TX4) (N := 7) (host := "KiteMeet") hx hb hg inX4 hown hE.1 hP 4 rfl rfl 5 (by decide) (hE.nf 13 rfl _) (fun _ h9 => h9) rfl dX10_all_57 ?_
      exact ck_iret hx hb hrt hlk (fd) (ckRd_ok (by simp [alF, hsw]) (by simp [alR, (by decide : ¬ nI 1 = nI 0)])) hP hD hS ⟨Nat.le_of_ble_eq_true rfl, Nat.le_of_ble_eq_true rfl⟩ dX10_all_60
    · refine lv_tableIn (tgt := 61) (off := 60) hx hb dX10_all_1 (by decide) (by decide) rfl (by decide) ?_
      refine lv_aload_n hx hb dX10_all_61 rfl (lv_at hl 0 rfl) ?_
      refine va_get (ci := 10) (v := .ref sa) (C := RX10) (T := TX10) (N := 8) hx hb hg inX10 hown hE.1 hP 0 rfl rfl 0 (by decide) (hg _ k1_216) (fun _ h9 => h9) rfl dX10_all_62 ?_
      refine va_getN (ci := 6) (v := .ref ra) (C := RX6) (T := TX6) (N := 2) (host := "KiteMeet") hx hb hg inX6 hown hE.1 hP 1 rfl rfl 1 (by decide) (hE.nf 16 rfl _) (fun _ h9 => h9) rfl dX10_all_65 ?_
      refine va_getN (ci := 4) (v := .int wk) (C := RX4) (T := TX4) (N := 7) (host := "KiteMeet") hx hb hg inX4 hown hE.1 hP 4 rfl rfl 6 (by decide) (hE.nf 14 rfl _) (fun _ h9 => h9) rfl dX10_all_68 ?_
      exact ck_iret hx hb hrt hlk (fd) (ckRd_ok (by simp [alF, hsw]) (by simp [alR, (by decide : ¬ nI 2 = nI 0), (by decide : ¬ nI 2 = nI 1)])) hP hD hS ⟨Nat.le_of_ble_eq_true rfl, Nat.le_of_ble_eq_true rfl⟩ dX10_all_71
    · refine lv_tableIn (tgt := 72) (off := 71) hx hb dX10_all_1 (by decide) (by decide) rfl (by decide) ?_
      refine lv_aload_n hx hb dX10_all_72 rfl (lv_at hl 0 rfl) ?_
      refine va_get (ci := 10) (v := .ref sa) (C := RX10) (T := TX10) (N := 8) hx hb hg inX10 hown hE.1 hP 0 rfl rfl 0 (by decide) (hg _ k1_216) (fun _ h9 => h9) rfl dX10_all_73 ?_
      refine va_getN (ci := 6) (v := .ref ra) (C := RX6) (T := TX6) (N := 2) (host := "KiteMeet") hx hb hg inX6 hown hE.1 hP 1 rfl rfl 1 (by decide) (hE.nf 16 rfl _) (fun _ h9 => h9) rfl dX10_all_76 ?_
      refine va_getN (ci := 4) (v := .ref b) (C := RX4) (T := TX4) (N := 7) (host := "KiteMeet") hx hb hg inX4 hown hE.1 hP 4 rfl rfl 0 (by decide) (hE.nf 9 rfl _) (fun _ h9 => h9) rfl dX10_all_79 ?_
      refine ck_Vi (As := []) (rest := []) (wr := [(km, .inr (10, [.ref sa, .ref hs, .ref shs, .ref ja, .ref uu, .ref tb, .ref ob, .int fd])), (sa, .inr (6, [.ref a, .ref ra])), (a, .inr (0, [.ref fl, .ref wi, .ref nr])), (fl, .inr (1, [.ref t, .int (nI cf)])), (ra, .inr (4, [.ref b, .ref sd, .ref tw, .ref sh, .ref wo, .int (nI n), .int wk]))]) C0 hP hD hS (c_X9_areAsAtFirst l N b lw gw lf gf n w hw (by omega)) myX9_areAsAtFirst k3_231 ⟨Nat.le_of_ble_eq_true rfl, Nat.le_of_ble_eq_true rfl⟩ [5, 6, 7] [0, 1, 2, 3, 4] ⟨⟨rfl, rfl⟩, by decide, by decide, by decide⟩ 5 rfl rfl rfl rfl hl.1 rfl (Nat.le_of_ble_eq_true rfl) dX10_all_82 ⟨Nat.le_of_ble_eq_true rfl, Nat.le_of_ble_eq_true rfl⟩ (fun r_1 u0 H locs hw0 hP hD hS => ?_)
      have hw_2 : r_1 = (b2i (ckFirst w n)) := hw0
      subst hw_2
      have hP : va_P N.1 vwCl [(km, .inr (10, [.ref sa, .ref hs, .ref shs, .ref ja, .ref uu, .ref tb, .ref ob, .int fd])), (sa, .inr (6, [.ref a, .ref ra])), (a, .inr (0, [.ref fl, .ref wi, .ref nr])), (fl, .inr (1, [.ref t, .int (nI cf)])), (ra, .inr (4, [.ref b, .ref sd, .ref tw, .ref sh, .ref wo, .int (nI n), .int wk])), (b, .inr (9, [.ref lw, .ref gw, .int (nI n)])), (lw, .inl (N.2 0, 5, .inl lf)), (gw, .inl (N.2 0, 300, .inl gf))] H := hP
      have hD : va_D Ag [(km, .inr (10, [.ref sa, .ref hs, .ref shs, .ref ja, .ref uu, .ref tb, .ref ob, .int fd])), (sa, .inr (6, [.ref a, .ref ra])), (a, .inr (0, [.ref fl, .ref wi, .ref nr])), (fl, .inr (1, [.ref t, .int (nI cf)])), (ra, .inr (4, [.ref b, .ref sd, .ref tw, .ref sh, .ref wo, .int (nI n), .int wk])), (b, .inr (9, [.ref lw, .ref gw, .int (nI n)])), (lw, .inl (N.2 0, 5, .inl lf)), (gw, .inl (N.2 0, 300, .inl gf))] := hD
      refine ck_Si (As := [.int (b2i (ckFirst w n))]) (rest := []) (wr := [(km, .inr (10, [.ref sa, .ref hs, .ref shs, .ref ja, .ref uu, .ref tb, .ref ob, .int fd])), (sa, .inr (6, [.ref a, .ref ra])), (a, .inr (0, [.ref fl, .ref wi, .ref nr])), (fl, .inr (1, [.ref t, .int (nI cf)])), (ra, .inr (4, [.ref b, .ref sd, .ref tw, .ref sh, .ref wo, .int (nI n), .int wk])), (b, .inr (9, [.ref lw, .ref gw, .int (nI n)])), (lw, .inl (N.2 0, 5, .inl lf)), (gw, .inl (N.2 0, 300, .inl gf))]) C0 hP hD hS (c_X10_oneIf l N (ckFirst w n) ) myX10_oneIf k2_175 ⟨Nat.le_of_ble_eq_true rfl, Nat.le_of_ble_eq_true rfl⟩ [] [0, 1, 2, 3, 4, 5, 6, 7] ⟨⟨rfl, rfl⟩, by decide, by decide, by decide⟩ rfl hl.1 rfl (Nat.le_of_ble_eq_true rfl) dX10_all_85 ⟨Nat.le_of_ble_eq_true rfl, Nat.le_of_ble_eq_true rfl⟩ (fun r_3 u0 H locs hw0 hP hD hS => ?_)
      have hw_4 : r_3 = (b2i (ckFirst w n)) := hw0
      subst hw_4
      have hP : va_P N.1 vwCl [(km, .inr (10, [.ref sa, .ref hs, .ref shs, .ref ja, .ref uu, .ref tb, .ref ob, .int fd])), (sa, .inr (6, [.ref a, .ref ra])), (a, .inr (0, [.ref fl, .ref wi, .ref nr])), (fl, .inr (1, [.ref t, .int (nI cf)])), (ra, .inr (4, [.ref b, .ref sd, .ref tw, .ref sh, .ref wo, .int (nI n), .int wk])), (b, .inr (9, [.ref lw, .ref gw, .int (nI n)])), (lw, .inl (N.2 0, 5, .inl lf)), (gw, .inl (N.2 0, 300, .inl gf))] H := hP
      have hD : va_D Ag [(km, .inr (10, [.ref sa, .ref hs, .ref shs, .ref ja, .ref uu, .ref tb, .ref ob, .int fd])), (sa, .inr (6, [.ref a, .ref ra])), (a, .inr (0, [.ref fl, .ref wi, .ref nr])), (fl, .inr (1, [.ref t, .int (nI cf)])), (ra, .inr (4, [.ref b, .ref sd, .ref tw, .ref sh, .ref wo, .int (nI n), .int wk])), (b, .inr (9, [.ref lw, .ref gw, .int (nI n)])), (lw, .inl (N.2 0, 5, .inl lf)), (gw, .inl (N.2 0, 300, .inl gf))] := hD
      exact ck_iret hx hb hrt hlk (fd) (ckRd_ok (by simp [alF, hsw]) (by simp [alR, (by decide : ¬ nI 3 = nI 0), (by decide : ¬ nI 3 = nI 1), (by decide : ¬ nI 3 = nI 2)])) hP hD hS ⟨Nat.le_of_ble_eq_true rfl, Nat.le_of_ble_eq_true rfl⟩ dX10_all_88
    · refine lv_tableIn (tgt := 89) (off := 88) hx hb dX10_all_1 (by decide) (by decide) rfl (by decide) ?_
      refine lv_aload_n hx hb dX10_all_89 rfl (lv_at hl 0 rfl) ?_
      refine va_get (ci := 10) (v := .int fd) (C := RX10) (T := TX10) (N := 8) hx hb hg inX10 hown hE.1 hP 0 rfl rfl 7 (by decide) (hg _ k1_223) (fun _ h9 => h9) rfl dX10_all_90 ?_
      exact ck_iret hx hb hrt hlk (fd) (ckRd_ok (by simp [alF, hsw]) (by simp [alR, (by decide : ¬ nI 4 = nI 0), (by decide : ¬ nI 4 = nI 1), (by decide : ¬ nI 4 = nI 2), (by decide : ¬ nI 4 = nI 3)])) hP hD hS ⟨Nat.le_of_ble_eq_true rfl, Nat.le_of_ble_eq_true rfl⟩ dX10_all_93
  · refine lv_tableOut (tgt := 94) hx hb dX10_all_1 (by have hz := mt ckIn_iff.mpr hsw; rw [nI_toInt (by decide), nI_toInt (by decide)] at hz; omega) (by decide) ?_
    refine lv_aload_n hx hb dX10_all_94 rfl (lv_at hl 0 rfl) ?_
    refine lv_ldc (own := RX10) (v := (-100001)) hx hb hown (hg _ k2_14) dX10_all_95 ?_
    refine ck_Vi (As := [.int (-100001)]) (rest := []) (wr := [(sa, .inr (6, [.ref a, .ref ra])), (a, .inr (0, [.ref fl, .ref wi, .ref nr])), (fl, .inr (1, [.ref t, .int (nI cf)])), (ra, .inr (4, [.ref b, .ref sd, .ref tw, .ref sh, .ref wo, .int (nI n), .int wk])), (b, .inr (9, [.ref lw, .ref gw, .int (nI n)])), (lw, .inl (N.2 0, 5, .inl lf)), (gw, .inl (N.2 0, 300, .inl gf))]) C0 hP hD hS (c_X10_finding l N km sa hs shs ja uu tb ob fd (-100001) ) myX10_finding k2_15 ⟨Nat.le_of_ble_eq_true rfl, Nat.le_of_ble_eq_true rfl⟩ [0] [1, 2, 3, 4, 5, 6, 7] ⟨⟨rfl, rfl⟩, by decide, by decide, by decide⟩ 0 rfl rfl rfl rfl hl.1 rfl (Nat.le_of_ble_eq_true rfl) dX10_all_97 ⟨Nat.le_of_ble_eq_true rfl, Nat.le_of_ble_eq_true rfl⟩ (fun r_5 u0 H locs hw0 hP hD hS => ?_)
    have hw_6 : r_5 = (-100001) := hw0
    subst hw_6
    have hP : va_P N.1 vwCl [(sa, .inr (6, [.ref a, .ref ra])), (a, .inr (0, [.ref fl, .ref wi, .ref nr])), (fl, .inr (1, [.ref t, .int (nI cf)])), (ra, .inr (4, [.ref b, .ref sd, .ref tw, .ref sh, .ref wo, .int (nI n), .int wk])), (b, .inr (9, [.ref lw, .ref gw, .int (nI n)])), (lw, .inl (N.2 0, 5, .inl lf)), (gw, .inl (N.2 0, 300, .inl gf)), (km, .inr (10, [.ref sa, .ref hs, .ref shs, .ref ja, .ref uu, .ref tb, .ref ob, .int (fd + nI 1)]))] H := hP
    have hD : va_D Ag [(sa, .inr (6, [.ref a, .ref ra])), (a, .inr (0, [.ref fl, .ref wi, .ref nr])), (fl, .inr (1, [.ref t, .int (nI cf)])), (ra, .inr (4, [.ref b, .ref sd, .ref tw, .ref sh, .ref wo, .int (nI n), .int wk])), (b, .inr (9, [.ref lw, .ref gw, .int (nI n)])), (lw, .inl (N.2 0, 5, .inl lf)), (gw, .inl (N.2 0, 300, .inl gf)), (km, .inr (10, [.ref sa, .ref hs, .ref shs, .ref ja, .ref uu, .ref tb, .ref ob, .int (fd + nI 1)]))] := hD
    exact ck_iret hx hb hrt hlk ((fd + nI 1)) (ckRd_f (by simp [alF, hsw]) (by decide)) (hP.sub [7, 0, 1, 2, 3, 4, 5, 6] rfl) (hD.sub [7, 0, 1, 2, 3, 4, 5, 6] (by decide) rfl) hS ⟨Nat.le_of_ble_eq_true rfl, Nat.le_of_ble_eq_true rfl⟩ dX10_all_100
