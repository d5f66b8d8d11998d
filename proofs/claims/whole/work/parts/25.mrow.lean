/-! the model's row: what it tells -/
theorem ckIn_mm {y : Int32} {n : Nat} (hn : n < 2 ^ 30) : ckIn y (-1) (nI n - nI 1) = (decide (y = -1) || ckLt y n) := by
  have e1 : (-1 : Int32).toInt = -1 := (by decide)
  have es : (nI n - nI 1).toInt = (n : Int) - 1 := i_sub_toInt hn (by decide)
  have ey : y = -1 ↔ y.toInt = -1 := ⟨fun h => by rw [h, e1], fun h => Int32.toInt_inj.mp (h.trans e1.symm)⟩
  rw [Bool.eq_iff_iff, ckIn_iff, Bool.or_eq_true, ckLt, decide_eq_true_eq, decide_eq_true_eq, es, e1, ey]
  omega
theorem ta_s (a b c d : Int32) : (a - c) + (b - d) = (a + b) - (c + d) := by
  simp only [Int32.sub_eq_add_neg, Int32.neg_add]
  ac_rfl
set_option maxHeartbeats 4000000 in
set_option maxRecDepth 100000 in
/-- X11_at -/
theorem c_X11_at (l : Launch) (N : ckN) (mm : Nat) (an : Nat) (ak : Nat) (ab : Nat) (az : Nat) (as_ : Nat) (ae : Nat) (ao : Nat) (ar : Nat) (aw : Nat) (al : Nat) (am : Nat) (af : Nat) (ac : Nat) (ke : Nat) (kn : Nat) (fd : Int32) (mn : Nat) (nw : Nat → Int32) (cf : Nat) (n : Nat) (wk : Int32) (tr : Nat → Int32) (di : Nat → Int32) (fo : Nat → Int32) (w : Nat → List Nat) (sdf : Nat → Int32) (wof : Nat → Int32) (shf : Nat → Int32) (twf : Nat → Int32) (x : Int32) (hV : mV nw cf n wk tr di fo w sdf wof shf twf) (hn : n ≤ 5) : ckI l yX11_at cX11_at 2 (some FieldType.int) { frames := 4, cells := 0, slots := 0, locals := 103 } N [.ref mm, .int x] [(mm, .inr (11, [.ref an, .ref ak, .int (nI ke), .int (nI kn), .int fd, .ref ab, .ref az, .ref as_, .ref ae, .ref ao, .ref ar, .ref aw, .ref al, .ref am, .int (nI mn), .ref af, .ref ac])), (an, .inl (N.2 0, 572, .inl nw))] (fun (r : Int32) (u : Int32) => ckRd (atF n x) (sdf (ix x)) fd r u) (fun (u : Int32) => [(mm, .inr (11, [.ref an, .ref ak, .int (nI ke), .int (nI kn), .int u, .ref ab, .ref az, .ref as_, .ref ae, .ref ao, .ref ar, .ref aw, .ref al, .ref am, .int (nI mn), .ref af, .ref ac])), (an, .inl (N.2 0, 572, .inl nw))]) := by
  refine ckI.of (by decide) (Nat.le_of_ble_eq_true rfl) ?_
  intro pg eg sg mg blw mth cg Ag ls hx hb hrt hml hown hlk hin hg hE hA hP hD hS hl
  have hown : sg.vm.findClass RX11 = some mg.cls := hown
  have hl : lv_has ls 2 [(0, .ref mm), (1, .int x)] := hl
  have C0 : ckC pg sg mg ([.ref mm, .int x]).toArray cg cX11_at 2 RX11 N Ag := ⟨⟨hx, hb, hml, hown, hg⟩, hE, hA⟩
  generalize hHe : sg.heap = H at hP
  have hS : va_S Ag sg.heap H [] := hHe ▸ hS
  refine lv_aload_n hx hb dX11_at_0 rfl (lv_at hl 0 rfl) ?_
  refine lv_iload_n hx hb dX11_at_1 rfl (lv_at hl 1 rfl) ?_
  refine ck_Vi (As := [.int x]) (rest := []) (wr := []) C0 hP hD hS (c_X11_isPlace l N mm an ak ab az as_ ae ao ar aw al am af ac ke kn fd mn nw cf n wk tr di fo w sdf wof shf twf x hV (by omega)) myX11_isPlace k4_222 ⟨Nat.le_of_ble_eq_true rfl, Nat.le_of_ble_eq_true rfl⟩ [0, 1] [] ⟨⟨rfl, rfl⟩, by decide, by decide, by decide⟩ 0 rfl rfl rfl rfl hl.1 rfl (Nat.le_of_ble_eq_true rfl) dX11_at_2 ⟨Nat.le_of_ble_eq_true rfl, Nat.le_of_ble_eq_true rfl⟩ (fun r_1 u0 H locs hw0 hP hD hS => ?_)
  have hw_2 : r_1 = (b2i (ckLt x n)) := hw0
  subst hw_2
  have hP : va_P N.1 vwCl [(mm, .inr (11, [.ref an, .ref ak, .int (nI ke), .int (nI kn), .int fd, .ref ab, .ref az, .ref as_, .ref ae, .ref ao, .ref ar, .ref aw, .ref al, .ref am, .int (nI mn), .ref af, .ref ac])), (an, .inl (N.2 0, 572, .inl nw))] H := hP
  have hD : va_D Ag [(mm, .inr (11, [.ref an, .ref ak, .int (nI ke), .int (nI kn), .int fd, .ref ab, .ref az, .ref as_, .ref ae, .ref ao, .ref ar, .ref aw, .ref al, .ref am, .int (nI mn), .ref af, .ref ac])), (an, .inl (N.2 0, 572, .inl nw))] := hD
  refine ck_ifeq (b := ckLt x n) (tgt := 21) hx hb dX11_at_5 (by decide) (fun cz_3 => ?_) (fun cz_3 => ?_)
  · refine lv_aload_n hx hb dX11_at_21 rfl (lv_at hl 0 rfl) ?_
    refine lv_ldc (own := RX11) (v := (-100001)) hx hb hown (hg _ k4_81) dX11_at_22 ?_
    refine ck_Vi (As := [.int (-100001)]) (rest := []) (wr := [(an, .inl (N.2 0, 572, .inl nw))]) C0 hP hD hS (c_X11_finds l N mm an ak ab az as_ ae ao ar aw al am af ac ke kn fd mn (-100001) ) myX11_finds k4_67 ⟨Nat.le_of_ble_eq_true rfl, Nat.le_of_ble_eq_true rfl⟩ [0] [1] ⟨⟨rfl, rfl⟩, by decide, by decide, by decide⟩ 0 rfl rfl rfl rfl hl.1 rfl (Nat.le_of_ble_eq_true rfl) dX11_at_24 ⟨Nat.le_of_ble_eq_true rfl, Nat.le_of_ble_eq_true rfl⟩ (fun r_4 u0 H locs hw0 hP hD hS => ?_)
    have hw_5 : r_4 = (-100001) := hw0
    subst hw_5
    have hP : va_P N.1 vwCl [(an, .inl (N.2 0, 572, .inl nw)), (mm, .inr (11, [.ref an, .ref ak, .int (nI ke), .int (nI kn), .int (fd + nI 1), .ref ab, .ref az, .ref as_, .ref ae, .ref ao, .ref ar, .ref aw, .ref al, .ref am, .int (nI mn), .ref af, .ref ac]))] H := hP
    have hD : va_D Ag [(an, .inl (N.2 0, 572, .inl nw)), (mm, .inr (11, [.ref an, .ref ak, .int (nI ke), .int (nI kn), .int (fd + nI 1), .ref ab, .ref az, .ref as_, .ref ae, .ref ao, .ref ar, .ref aw, .ref al, .ref am, .int (nI mn), .ref af, .ref ac]))] := hD
    exact ck_iret hx hb hrt hlk ((fd + nI 1)) (ckRd_f (by simp [atF, cz_3]) (by decide)) (hP.sub [1, 0] rfl) (hD.sub [1, 0] (by decide) rfl) hS ⟨Nat.le_of_ble_eq_true rfl, Nat.le_of_ble_eq_true rfl⟩ dX11_at_27
  obtain ⟨i, hi, rfl⟩ := (ckLt_t (by omega)).mp cz_3
  have exi : ix (nI i) = i := ix_nI (by omega)
  refine lv_aload_n hx hb dX11_at_8 rfl (lv_at hl 0 rfl) ?_
  refine va_get (ci := 11) (v := .ref an) (C := RX11) (T := TX11) (N := 17) hx hb hg inX11 hown hE.1 hP 0 rfl rfl 0 (by decide) (hg _ k4_10) (fun _ h9 => h9) rfl dX11_at_9 ?_
  refine lv_sipush (v := (nI 227)) hx hb dX11_at_12 (by decide) ?_
  refine lv_iload_n hx hb dX11_at_15 rfl (lv_at hl 1 rfl) ?_
  refine lv_iadd hx hb dX11_at_16 ?_
  refine ck_top (y := (nI (227 + i))) (nI_add _ _) ?_
  refine ck_iald hx hb hE hP 1 rfl (by omega) (by decide) dX11_at_17 ?_
  refine lv_goto (tgt := 27) hx hb dX11_at_18 (by decide) ?_
  exact ck_iret hx hb hrt hlk (fd) (ckRd_ok (by simp [atF, cz_3, exi]) (by rw [exi]; exact hV.2.2.2.2.2.2.1 i (by omega))) hP hD hS ⟨Nat.le_of_ble_eq_true rfl, Nat.le_of_ble_eq_true rfl⟩ dX11_at_27
set_option maxHeartbeats 4000000 in
set_option maxRecDepth 100000 in
/-- X11_wear -/
theorem c_X11_wear (l : Launch) (N : ckN) (mm : Nat) (an : Nat) (ak : Nat) (ab : Nat) (az : Nat) (as_ : Nat) (ae : Nat) (ao : Nat) (ar : Nat) (aw : Nat) (al : Nat) (am : Nat) (af : Nat) (ac : Nat) (ke : Nat) (kn : Nat) (fd : Int32) (mn : Nat) (nw : Nat → Int32) (cf : Nat) (n : Nat) (wk : Int32) (tr : Nat → Int32) (di : Nat → Int32) (fo : Nat → Int32) (w : Nat → List Nat) (sdf : Nat → Int32) (wof : Nat → Int32) (shf : Nat → Int32) (twf : Nat → Int32) (x : Int32) (hV : mV nw cf n wk tr di fo w sdf wof shf twf) (hn : n ≤ 5) : ckI l yX11_wear cX11_wear 2 (some FieldType.int) { frames := 4, cells := 0, slots := 0, locals := 103 } N [.ref mm, .int x] [(mm, .inr (11, [.ref an, .ref ak, .int (nI ke), .int (nI kn), .int fd, .ref ab, .ref az, .ref as_, .ref ae, .ref ao, .ref ar, .ref aw, .ref al, .ref am, .int (nI mn), .ref af, .ref ac])), (an, .inl (N.2 0, 572, .inl nw))] (fun (r : Int32) (u : Int32) => ckRd (atF n x) (wof (ix x)) fd r u) (fun (u : Int32) => [(mm, .inr (11, [.ref an, .ref ak, .int (nI ke), .int (nI kn), .int u, .ref ab, .ref az, .ref as_, .ref ae, .ref ao, .ref ar, .ref aw, .ref al, .ref am, .int (nI mn), .ref af, .ref ac])), (an, .inl (N.2 0, 572, .inl nw))]) := by
  refine ckI.of (by decide) (Nat.le_of_ble_eq_true rfl) ?_
  intro pg eg sg mg blw mth cg Ag ls hx hb hrt hml hown hlk hin hg hE hA hP hD hS hl
  have hown : sg.vm.findClass RX11 = some mg.cls := hown
  have hl : lv_has ls 2 [(0, .ref mm), (1, .int x)] := hl
  have C0 : ckC pg sg mg ([.ref mm, .int x]).toArray cg cX11_wear 2 RX11 N Ag := ⟨⟨hx, hb, hml, hown, hg⟩, hE, hA⟩
  generalize hHe : sg.heap = H at hP
  have hS : va_S Ag sg.heap H [] := hHe ▸ hS
  refine lv_aload_n hx hb dX11_wear_0 rfl (lv_at hl 0 rfl) ?_
  refine lv_iload_n hx hb dX11_wear_1 rfl (lv_at hl 1 rfl) ?_
  refine ck_Vi (As := [.int x]) (rest := []) (wr := []) C0 hP hD hS (c_X11_isPlace l N mm an ak ab az as_ ae ao ar aw al am af ac ke kn fd mn nw cf n wk tr di fo w sdf wof shf twf x hV (by omega)) myX11_isPlace k4_222 ⟨Nat.le_of_ble_eq_true rfl, Nat.le_of_ble_eq_true rfl⟩ [0, 1] [] ⟨⟨rfl, rfl⟩, by decide, by decide, by decide⟩ 0 rfl rfl rfl rfl hl.1 rfl (Nat.le_of_ble_eq_true rfl) dX11_wear_2 ⟨Nat.le_of_ble_eq_true rfl, Nat.le_of_ble_eq_true rfl⟩ (fun r_1 u0 H locs hw0 hP hD hS => ?_)
  have hw_2 : r_1 = (b2i (ckLt x n)) := hw0
  subst hw_2
  have hP : va_P N.1 vwCl [(mm, .inr (11, [.ref an, .ref ak, .int (nI ke), .int (nI kn), .int fd, .ref ab, .ref az, .ref as_, .ref ae, .ref ao, .ref ar, .ref aw, .ref al, .ref am, .int (nI mn), .ref af, .ref ac])), (an, .inl (N.2 0, 572, .inl nw))] H := hP
  have hD : va_D Ag [(mm, .inr (11, [.ref an, .ref ak, .int (nI ke), .int (nI kn), .int fd, .ref ab, .ref az, .ref as_, .ref ae, .ref ao, .ref ar, .ref aw, .ref al, .ref am, .int (nI mn), .ref af, .ref ac])), (an, .inl (N.2 0, 572, .inl nw))] := hD
  refine ck_ifeq (b := ckLt x n) (tgt := 21) hx hb dX11_wear_5 (by decide) (fun cz_3 => ?_) (fun cz_3 => ?_)
  · refine lv_aload_n hx hb dX11_wear_21 rfl (lv_at hl 0 rfl) ?_
    refine lv_ldc (own := RX11) (v := (-100001)) hx hb hown (hg _ k4_81) dX11_wear_22 ?_
    refine ck_Vi (As := [.int (-100001)]) (rest := []) (wr := [(an, .inl (N.2 0, 572, .inl nw))]) C0 hP hD hS (c_X11_finds l N mm an ak ab az as_ ae ao ar aw al am af ac ke kn fd mn (-100001) ) myX11_finds k4_67 ⟨Nat.le_of_ble_eq_true rfl, Nat.le_of_ble_eq_true rfl⟩ [0] [1] ⟨⟨rfl, rfl⟩, by decide, by decide, by decide⟩ 0 rfl rfl rfl rfl hl.1 rfl (Nat.le_of_ble_eq_true rfl) dX11_wear_24 ⟨Nat.le_of_ble_eq_true rfl, Nat.le_of_ble_eq_true rfl⟩ (fun r_4 u0 H locs hw0 hP hD hS => ?_)
    have hw_5 : r_4 = (-100001) := hw0
    subst hw_5
    have hP : va_P N.1 vwCl [(an, .inl (N.2 0, 572, .inl nw)), (mm, .inr (11, [.ref an, .ref ak, .int (nI ke), .int (nI kn), .int (fd + nI 1), .ref ab, .ref az, .ref as_, .ref ae, .ref ao, .ref ar, .ref aw, .ref al, .ref am, .int (nI mn), .ref af, .ref ac]))] H := hP
    have hD : va_D Ag [(an, .inl (N.2 0, 572, .inl nw)), (mm, .inr (11, [.ref an, .ref ak, .int (nI ke), .int (nI kn), .int (fd + nI 1), .ref ab, .ref az, .ref as_, .ref ae, .ref ao, .ref ar, .ref aw, .ref al, .ref am, .int (nI mn), .ref af, .ref ac]))] := hD
    exact ck_iret hx hb hrt hlk ((fd + nI 1)) (ckRd_f (by simp [atF, cz_3]) (by decide)) (hP.sub [1, 0] rfl) (hD.sub [1, 0] (by decide) rfl) hS ⟨Nat.le_of_ble_eq_true rfl, Nat.le_of_ble_eq_true rfl⟩ dX11_wear_27
  obtain ⟨i, hi, rfl⟩ := (ckLt_t (by omega)).mp cz_3
  have exi : ix (nI i) = i := ix_nI (by omega)
  refine lv_aload_n hx hb dX11_wear_8 rfl (lv_at hl 0 rfl) ?_
  refine va_get (ci := 11) (v := .ref an) (C := RX11) (T := TX11) (N := 17) hx hb hg inX11 hown hE.1 hP 0 rfl rfl 0 (by decide) (hg _ k4_10) (fun _ h9 => h9) rfl dX11_wear_9 ?_
  refine lv_sipush (v := (nI 237)) hx hb dX11_wear_12 (by decide) ?_
  refine lv_iload_n hx hb dX11_wear_15 rfl (lv_at hl 1 rfl) ?_
  refine lv_iadd hx hb dX11_wear_16 ?_
  refine ck_top (y := (nI (237 + i))) (nI_add _ _) ?_
  refine ck_iald hx hb hE hP 1 rfl (by omega) (by decide) dX11_wear_17 ?_
  refine lv_goto (tgt := 27) hx hb dX11_wear_18 (by decide) ?_
  exact ck_iret hx hb hrt hlk (fd) (ckRd_ok (by simp [atF, cz_3, exi]) (by rw [exi]; exact hV.2.2.2.2.2.2.2.1 i (by omega))) hP hD hS ⟨Nat.le_of_ble_eq_true rfl, Nat.le_of_ble_eq_true rfl⟩ dX11_wear_27
set_option maxHeartbeats 4000000 in
set_option maxRecDepth 100000 in
/-- X11_twist -/
theorem c_X11_twist (l : Launch) (N : ckN) (mm : Nat) (an : Nat) (ak : Nat) (ab : Nat) (az : Nat) (as_ : Nat) (ae : Nat) (ao : Nat) (ar : Nat) (aw : Nat) (al : Nat) (am : Nat) (af : Nat) (ac : Nat) (ke : Nat) (kn : Nat) (fd : Int32) (mn : Nat) (nw : Nat → Int32) (cf : Nat) (n : Nat) (wk : Int32) (tr : Nat → Int32) (di : Nat → Int32) (fo : Nat → Int32) (w : Nat → List Nat) (sdf : Nat → Int32) (wof : Nat → Int32) (shf : Nat → Int32) (twf : Nat → Int32) (x : Int32) (y : Int32) (hV : mV nw cf n wk tr di fo w sdf wof shf twf) (hn : n ≤ 5) : ckI l yX11_twist cX11_twist 3 (some FieldType.int) { frames := 4, cells := 0, slots := 0, locals := 103 } N [.ref mm, .int x, .int y] [(mm, .inr (11, [.ref an, .ref ak, .int (nI ke), .int (nI kn), .int fd, .ref ab, .ref az, .ref as_, .ref ae, .ref ao, .ref ar, .ref aw, .ref al, .ref am, .int (nI mn), .ref af, .ref ac])), (an, .inl (N.2 0, 572, .inl nw))] (fun (r : Int32) (u : Int32) => ckRd (twF n x y) (twf (5 * min (ix x) (ix y) + max (ix x) (ix y))) fd r u) (fun (u : Int32) => [(mm, .inr (11, [.ref an, .ref ak, .int (nI ke), .int (nI kn), .int u, .ref ab, .ref az, .ref as_, .ref ae, .ref ao, .ref ar, .ref aw, .ref al, .ref am, .int (nI mn), .ref af, .ref ac])), (an, .inl (N.2 0, 572, .inl nw))]) := by
  refine ckI.of (by decide) (Nat.le_of_ble_eq_true rfl) ?_
  intro pg eg sg mg blw mth cg Ag ls hx hb hrt hml hown hlk hin hg hE hA hP hD hS hl
  have hown : sg.vm.findClass RX11 = some mg.cls := hown
  have hl : lv_has ls 3 [(0, .ref mm), (1, .int x), (2, .int y)] := hl
  have C0 : ckC pg sg mg ([.ref mm, .int x, .int y]).toArray cg cX11_twist 3 RX11 N Ag := ⟨⟨hx, hb, hml, hown, hg⟩, hE, hA⟩
  generalize hHe : sg.heap = H at hP
  have hS : va_S Ag sg.heap H [] := hHe ▸ hS
  refine lv_aload_n hx hb dX11_twist_0 rfl (lv_at hl 0 rfl) ?_
  refine lv_iload_n hx hb dX11_twist_1 rfl (lv_at hl 1 rfl) ?_
  refine ck_Vi (As := [.int x]) (rest := []) (wr := []) C0 hP hD hS (c_X11_isPlace l N mm an ak ab az as_ ae ao ar aw al am af ac ke kn fd mn nw cf n wk tr di fo w sdf wof shf twf x hV (by omega)) myX11_isPlace k4_222 ⟨Nat.le_of_ble_eq_true rfl, Nat.le_of_ble_eq_true rfl⟩ [0, 1] [] ⟨⟨rfl, rfl⟩, by decide, by decide, by decide⟩ 0 rfl rfl rfl rfl hl.1 rfl (Nat.le_of_ble_eq_true rfl) dX11_twist_2 ⟨Nat.le_of_ble_eq_true rfl, Nat.le_of_ble_eq_true rfl⟩ (fun r_1 u0 H locs hw0 hP hD hS => ?_)
  have hw_2 : r_1 = (b2i (ckLt x n)) := hw0
  subst hw_2
  have hP : va_P N.1 vwCl [(mm, .inr (11, [.ref an, .ref ak, .int (nI ke), .int (nI kn), .int fd, .ref ab, .ref az, .ref as_, .ref ae, .ref ao, .ref ar, .ref aw, .ref al, .ref am, .int (nI mn), .ref af, .ref ac])), (an, .inl (N.2 0, 572, .inl nw))] H := hP
  have hD : va_D Ag [(mm, .inr (11, [.ref an, .ref ak, .int (nI ke), .int (nI kn), .int fd, .ref ab, .ref az, .ref as_, .ref ae, .ref ao, .ref ar, .ref aw, .ref al, .ref am, .int (nI mn), .ref af, .ref ac])), (an, .inl (N.2 0, 572, .inl nw))] := hD
  refine ck_ifeq (b := ckLt x n) (tgt := 16) hx hb dX11_twist_5 (by decide) (fun cz_3 => ?_) (fun cz_3 => ?_)
  · refine lv_aload_n hx hb dX11_twist_16 rfl (lv_at hl 0 rfl) ?_
    refine lv_ldc (own := RX11) (v := (-100001)) hx hb hown (hg _ k4_81) dX11_twist_17 ?_
    refine ck_Vi (As := [.int (-100001)]) (rest := []) (wr := [(an, .inl (N.2 0, 572, .inl nw))]) C0 hP hD hS (c_X11_finds l N mm an ak ab az as_ ae ao ar aw al am af ac ke kn fd mn (-100001) ) myX11_finds k4_67 ⟨Nat.le_of_ble_eq_true rfl, Nat.le_of_ble_eq_true rfl⟩ [0] [1] ⟨⟨rfl, rfl⟩, by decide, by decide, by decide⟩ 0 rfl rfl rfl rfl hl.1 rfl (Nat.le_of_ble_eq_true rfl) dX11_twist_19 ⟨Nat.le_of_ble_eq_true rfl, Nat.le_of_ble_eq_true rfl⟩ (fun r_4 u0 H locs hw0 hP hD hS => ?_)
    have hw_5 : r_4 = (-100001) := hw0
    subst hw_5
    have hP : va_P N.1 vwCl [(an, .inl (N.2 0, 572, .inl nw)), (mm, .inr (11, [.ref an, .ref ak, .int (nI ke), .int (nI kn), .int (fd + nI 1), .ref ab, .ref az, .ref as_, .ref ae, .ref ao, .ref ar, .ref aw, .ref al, .ref am, .int (nI mn), .ref af, .ref ac]))] H := hP
    have hD : va_D Ag [(an, .inl (N.2 0, 572, .inl nw)), (mm, .inr (11, [.ref an, .ref ak, .int (nI ke), .int (nI kn), .int (fd + nI 1), .ref ab, .ref az, .ref as_, .ref ae, .ref ao, .ref ar, .ref aw, .ref al, .ref am, .int (nI mn), .ref af, .ref ac]))] := hD
    exact ck_iret hx hb hrt hlk ((fd + nI 1)) (ckRd_f (by simp [twF, cz_3]) (by decide)) (hP.sub [1, 0] rfl) (hD.sub [1, 0] (by decide) rfl) hS ⟨Nat.le_of_ble_eq_true rfl, Nat.le_of_ble_eq_true rfl⟩ dX11_twist_22
  refine lv_aload_n hx hb dX11_twist_8 rfl (lv_at hl 0 rfl) ?_
  refine lv_iload_n hx hb dX11_twist_9 rfl (lv_at hl 2 rfl) ?_
  refine ck_Vi (As := [.int y]) (rest := []) (wr := []) C0 hP hD hS (c_X11_isPlace l N mm an ak ab az as_ ae ao ar aw al am af ac ke kn fd mn nw cf n wk tr di fo w sdf wof shf twf y hV (by omega)) myX11_isPlace k4_222 ⟨Nat.le_of_ble_eq_true rfl, Nat.le_of_ble_eq_true rfl⟩ [0, 1] [] ⟨⟨rfl, rfl⟩, by decide, by decide, by decide⟩ 0 rfl rfl rfl rfl hl.1 rfl (Nat.le_of_ble_eq_true rfl) dX11_twist_10 ⟨Nat.le_of_ble_eq_true rfl, Nat.le_of_ble_eq_true rfl⟩ (fun r_6 u0 H locs hw0 hP hD hS => ?_)
  have hw_7 : r_6 = (b2i (ckLt y n)) := hw0
  subst hw_7
  have hP : va_P N.1 vwCl [(mm, .inr (11, [.ref an, .ref ak, .int (nI ke), .int (nI kn), .int fd, .ref ab, .ref az, .ref as_, .ref ae, .ref ao, .ref ar, .ref aw, .ref al, .ref am, .int (nI mn), .ref af, .ref ac])), (an, .inl (N.2 0, 572, .inl nw))] H := hP
  have hD : va_D Ag [(mm, .inr (11, [.ref an, .ref ak, .int (nI ke), .int (nI kn), .int fd, .ref ab, .ref az, .ref as_, .ref ae, .ref ao, .ref ar, .ref aw, .ref al, .ref am, .int (nI mn), .ref af, .ref ac])), (an, .inl (N.2 0, 572, .inl nw))] := hD
  refine ck_ifne (b := ckLt y n) (tgt := 23) hx hb dX11_twist_13 (by decide) (fun cz_8 => ?_) (fun cz_8 => ?_)
  · refine lv_iload_n hx hb dX11_twist_23 rfl (lv_at hl 1 rfl) ?_
    refine lv_iload_n hx hb dX11_twist_24 rfl (lv_at hl 2 rfl) ?_
    refine lv_icmp_ne (tgt := 37) hx hb dX11_twist_25 (by decide) (fun cz_9 => ?_) (fun cz_9 => ?_)
    · obtain ⟨i, hi, rfl⟩ := (ckLt_t (by omega)).mp cz_3
      have exi : ix (nI i) = i := ix_nI (by omega)
      obtain ⟨j, hj, rfl⟩ := (ckLt_t (by omega)).mp cz_8
      have exj : ix (nI j) = j := ix_nI (by omega)
      refine lv_aload_n hx hb dX11_twist_37 rfl (lv_at hl 0 rfl) ?_
      refine va_get (ci := 11) (v := .ref an) (C := RX11) (T := TX11) (N := 17) hx hb hg inX11 hown hE.1 hP 0 rfl rfl 0 (by decide) (hg _ k4_10) (fun _ h9 => h9) rfl dX11_twist_38 ?_
      refine lv_sipush (v := (nI 247)) hx hb dX11_twist_41 (by decide) ?_
      refine lv_iconst (v := (nI 5)) hx hb dX11_twist_44 (by decide) ?_
      refine lv_iload_n hx hb dX11_twist_45 rfl (lv_at hl 1 rfl) ?_
      refine lv_imul hx hb dX11_twist_46 ?_
      refine ck_top (y := (nI (5 * i))) (pk_mul _ _) ?_
      refine lv_iadd hx hb dX11_twist_47 ?_
      refine ck_top (y := (nI (247 + (5 * i)))) (nI_add _ _) ?_
      refine lv_iload_n hx hb dX11_twist_48 rfl (lv_at hl 2 rfl) ?_
      refine lv_iadd hx hb dX11_twist_49 ?_
      refine ck_top (y := (nI (247 + (5 * i) + j))) (nI_add _ _) ?_
      refine ck_iald hx hb hE hP 1 rfl (by omega) (by decide) dX11_twist_50 ?_
      exact ck_iret hx hb hrt hlk (fd) (ckRd_ok (by simp [twF, cz_3, cz_8, cz_9, exi, exj]) (by rw [exi, exj]; exact hV.2.2.2.2.2.2.2.2.2.1 i j (by omega) (by omega) (fun e => cz_9 (congrArg nI e)))) hP hD hS ⟨Nat.le_of_ble_eq_true rfl, Nat.le_of_ble_eq_true rfl⟩ dX11_twist_51
    refine lv_aload_n hx hb dX11_twist_28 rfl (lv_at hl 0 rfl) ?_
    refine lv_ldc (own := RX11) (v := (-100003)) hx hb hown (hg _ k4_82) dX11_twist_29 ?_
    refine ck_Vi (As := [.int (-100003)]) (rest := []) (wr := [(an, .inl (N.2 0, 572, .inl nw))]) C0 hP hD hS (c_X11_finds l N mm an ak ab az as_ ae ao ar aw al am af ac ke kn fd mn (-100003) ) myX11_finds k4_67 ⟨Nat.le_of_ble_eq_true rfl, Nat.le_of_ble_eq_true rfl⟩ [0] [1] ⟨⟨rfl, rfl⟩, by decide, by decide, by decide⟩ 0 rfl rfl rfl rfl hl.1 rfl (Nat.le_of_ble_eq_true rfl) dX11_twist_31 ⟨Nat.le_of_ble_eq_true rfl, Nat.le_of_ble_eq_true rfl⟩ (fun r_10 u0 H locs hw0 hP hD hS => ?_)
    have hw_11 : r_10 = (-100003) := hw0
    subst hw_11
    have hP : va_P N.1 vwCl [(an, .inl (N.2 0, 572, .inl nw)), (mm, .inr (11, [.ref an, .ref ak, .int (nI ke), .int (nI kn), .int (fd + nI 1), .ref ab, .ref az, .ref as_, .ref ae, .ref ao, .ref ar, .ref aw, .ref al, .ref am, .int (nI mn), .ref af, .ref ac]))] H := hP
    have hD : va_D Ag [(an, .inl (N.2 0, 572, .inl nw)), (mm, .inr (11, [.ref an, .ref ak, .int (nI ke), .int (nI kn), .int (fd + nI 1), .ref ab, .ref az, .ref as_, .ref ae, .ref ao, .ref ar, .ref aw, .ref al, .ref am, .int (nI mn), .ref af, .ref ac]))] := hD
    refine lv_goto (tgt := 51) hx hb dX11_twist_34 (by decide) ?_
    exact ck_iret hx hb hrt hlk ((fd + nI 1)) (ckRd_f (by simp [twF, cz_3, cz_8, cz_9]) (by decide)) (hP.sub [1, 0] rfl) (hD.sub [1, 0] (by decide) rfl) hS ⟨Nat.le_of_ble_eq_true rfl, Nat.le_of_ble_eq_true rfl⟩ dX11_twist_51
  refine lv_aload_n hx hb dX11_twist_16 rfl (lv_at hl 0 rfl) ?_
  refine lv_ldc (own := RX11) (v := (-100001)) hx hb hown (hg _ k4_81) dX11_twist_17 ?_
  refine ck_Vi (As := [.int (-100001)]) (rest := []) (wr := [(an, .inl (N.2 0, 572, .inl nw))]) C0 hP hD hS (c_X11_finds l N mm an ak ab az as_ ae ao ar aw al am af ac ke kn fd mn (-100001) ) myX11_finds k4_67 ⟨Nat.le_of_ble_eq_true rfl, Nat.le_of_ble_eq_true rfl⟩ [0] [1] ⟨⟨rfl, rfl⟩, by decide, by decide, by decide⟩ 0 rfl rfl rfl rfl hl.1 rfl (Nat.le_of_ble_eq_true rfl) dX11_twist_19 ⟨Nat.le_of_ble_eq_true rfl, Nat.le_of_ble_eq_true rfl⟩ (fun r_12 u0 H locs hw0 hP hD hS => ?_)
  have hw_13 : r_12 = (-100001) := hw0
  subst hw_13
  have hP : va_P N.1 vwCl [(an, .inl (N.2 0, 572, .inl nw)), (mm, .inr (11, [.ref an, .ref ak, .int (nI ke), .int (nI kn), .int (fd + nI 1), .ref ab, .ref az, .ref as_, .ref ae, .ref ao, .ref ar, .ref aw, .ref al, .ref am, .int (nI mn), .ref af, .ref ac]))] H := hP
  have hD : va_D Ag [(an, .inl (N.2 0, 572, .inl nw)), (mm, .inr (11, [.ref an, .ref ak, .int (nI ke), .int (nI kn), .int (fd + nI 1), .ref ab, .ref az, .ref as_, .ref ae, .ref ao, .ref ar, .ref aw, .ref al, .ref am, .int (nI mn), .ref af, .ref ac]))] := hD
  exact ck_iret hx hb hrt hlk ((fd + nI 1)) (ckRd_f (by simp [twF, cz_3, cz_8]) (by decide)) (hP.sub [1, 0] rfl) (hD.sub [1, 0] (by decide) rfl) hS ⟨Nat.le_of_ble_eq_true rfl, Nat.le_of_ble_eq_true rfl⟩ dX11_twist_22
set_option maxHeartbeats 4000000 in
set_option maxRecDepth 100000 in
/-- X11_tangleOf -/
theorem c_X11_tangleOf (l : Launch) (N : ckN) (mm : Nat) (an : Nat) (ak : Nat) (ab : Nat) (az : Nat) (as_ : Nat) (ae : Nat) (ao : Nat) (ar : Nat) (aw : Nat) (al : Nat) (am : Nat) (af : Nat) (ac : Nat) (ke : Nat) (kn : Nat) (fd : Int32) (mn : Nat) (nw : Nat → Int32) (cf : Nat) (n : Nat) (wk : Int32) (tr : Nat → Int32) (di : Nat → Int32) (fo : Nat → Int32) (w : Nat → List Nat) (sdf : Nat → Int32) (wof : Nat → Int32) (shf : Nat → Int32) (twf : Nat → Int32) (hV : mV nw cf n wk tr di fo w sdf wof shf twf) (hn : n ≤ 5) : ckI l yX11_tangleOf cX11_tangleOf 3 (some FieldType.int) { frames := 2, cells := 0, slots := 0, locals := 60 } N [.ref mm] [(mm, .inr (11, [.ref an, .ref ak, .int (nI ke), .int (nI kn), .int fd, .ref ab, .ref az, .ref as_, .ref ae, .ref ao, .ref ar, .ref aw, .ref al, .ref am, .int (nI mn), .ref af, .ref ac])), (an, .inl (N.2 0, 572, .inl nw))] (fun (r : Int32) (u : Unit) => r = (taR n w)) (fun (u : Unit) => [(mm, .inr (11, [.ref an, .ref ak, .int (nI ke), .int (nI kn), .int fd, .ref ab, .ref az, .ref as_, .ref ae, .ref ao, .ref ar, .ref aw, .ref al, .ref am, .int (nI mn), .ref af, .ref ac])), (an, .inl (N.2 0, 572, .inl nw))]) := by
  refine ckI.of (by decide) (Nat.le_of_ble_eq_true rfl) ?_
  intro pg eg sg mg blw mth cg Ag ls hx hb hrt hml hown hlk hin hg hE hA hP hD hS hl
  have hown : sg.vm.findClass RX11 = some mg.cls := hown
  have hl : lv_has ls 3 [(0, .ref mm)] := hl
  have C0 : ckC pg sg mg ([.ref mm]).toArray cg cX11_tangleOf 3 RX11 N Ag := ⟨⟨hx, hb, hml, hown, hg⟩, hE, hA⟩
  generalize hHe : sg.heap = H at hP
  have hS : va_S Ag sg.heap H [] := hHe ▸ hS
  have hwd := hV.2.2.2.2.2.2.2.2.2.2
  refine lv_iconst (v := (nI 0)) hx hb dX11_tangleOf_0 (by decide) ?_
  refine lv_istore_n (lv' := [(1, .int (nI 0)), (0, .ref mm)]) hx hb dX11_tangleOf_1 rfl hl (by decide) rfl (fun ls hl => ?_)
  refine lv_iconst (v := (nI 0)) hx hb dX11_tangleOf_2 (by decide) ?_
  refine lv_istore_n (lv' := [(2, .int (nI 0)), (1, .int (nI 0)), (0, .ref mm)]) hx hb dX11_tangleOf_3 rfl hl (by decide) rfl (fun ls hl => ?_)
  have lp_4 : ∀ (dz : Nat) (k : Nat) (acc : Int32) (hdz : n - k = dz) (hk : k ≤ n) (hac : acc = nI (psum (fun q => (w q).length) k) - nI k) (H : Heap) (locs : List Loc) (ls : Array Slot), va_P N.1 vwCl [(mm, .inr (11, [.ref an, .ref ak, .int (nI ke), .int (nI kn), .int fd, .ref ab, .ref az, .ref as_, .ref ae, .ref ao, .ref ar, .ref aw, .ref al, .ref am, .int (nI mn), .ref af, .ref ac])), (an, .inl (N.2 0, 572, .inl nw))] H → va_D Ag [(mm, .inr (11, [.ref an, .ref ak, .int (nI ke), .int (nI kn), .int fd, .ref ab, .ref az, .ref as_, .ref ae, .ref ao, .ref ar, .ref aw, .ref al, .ref am, .int (nI mn), .ref af, .ref ac])), (an, .inl (N.2 0, 572, .inl nw))] → va_S Ag sg.heap H locs → lv_has ls 3 [(2, .int (nI k)), (1, .int acc), (0, .ref mm)] → W pg l eg { frames := 2, cells := 0, slots := 0, locals := 60 } sg mg ([.ref mm]).toArray blw mth cg H locs 0 0 (ckQi N Ag blw sg ([.ref mm]).toArray { frames := 2, cells := 0, slots := 0, locals := 60 } (fun (r : Int32) (u : Unit) => r = (taR n w)) (fun (u : Unit) => [(mm, .inr (11, [.ref an, .ref ak, .int (nI ke), .int (nI kn), .int fd, .ref ab, .ref az, .ref as_, .ref ae, .ref ao, .ref ar, .ref aw, .ref al, .ref am, .int (nI mn), .ref af, .ref ac])), (an, .inl (N.2 0, 572, .inl nw))])) (F0 mg 4 ls []) := by
    intro dz
    induction dz using Nat.strongRecOn with
    | _ dz ih_4 =>
      intro k acc hdz hk hac H locs ls hP hD hS hl
      subst hdz
      refine lv_iload_n hx hb dX11_tangleOf_4 rfl (lv_at hl 0 rfl) ?_
      refine lv_aload_n hx hb dX11_tangleOf_5 rfl (lv_at hl 2 rfl) ?_
      refine va_get (ci := 11) (v := .ref an) (C := RX11) (T := TX11) (N := 17) hx hb hg inX11 hown hE.1 hP 0 rfl rfl 0 (by decide) (hg _ k4_10) (fun _ h9 => h9) rfl dX11_tangleOf_6 ?_
      refine lv_iconst (v := (nI 1)) hx hb dX11_tangleOf_9 (by decide) ?_
      refine ck_iald hx hb hE hP 1 rfl (by omega) (by decide) dX11_tangleOf_10 ?_
      refine ck_top (y := (nI n)) hV.2.1 ?_
      refine ck_ic_ge (tgt := 35) hx hb dX11_tangleOf_11 (by decide) (by omega) (by omega) (fun cz_1 => ?_) (fun cz_1 => ?_)
      · refine lv_iload_n hx hb dX11_tangleOf_35 rfl (lv_at hl 1 rfl) ?_
        exact ck_iret hx hb hrt hlk () (by rw [taR, hac, (show k = n by omega)]) hP hD hS ⟨Nat.le_of_ble_eq_true rfl, Nat.le_of_ble_eq_true rfl⟩ dX11_tangleOf_36
      refine lv_iload_n hx hb dX11_tangleOf_14 rfl (lv_at hl 1 rfl) ?_
      refine lv_aload_n hx hb dX11_tangleOf_15 rfl (lv_at hl 2 rfl) ?_
      refine va_get (ci := 11) (v := .ref an) (C := RX11) (T := TX11) (N := 17) hx hb hg inX11 hown hE.1 hP 0 rfl rfl 0 (by decide) (hg _ k4_10) (fun _ h9 => h9) rfl dX11_tangleOf_16 ?_
      refine lv_sipush (v := (nI 232)) hx hb dX11_tangleOf_19 (by decide) ?_
      refine lv_iload_n hx hb dX11_tangleOf_22 rfl (lv_at hl 0 rfl) ?_
      refine lv_iadd hx hb dX11_tangleOf_23 ?_
      refine ck_top (y := (nI (232 + k))) (nI_add _ _) ?_
      refine ck_iald hx hb hE hP 1 rfl (by omega) (by decide) dX11_tangleOf_24 ?_
      refine ck_top (y := (nI ((w k).length))) (hwd k (by omega)).1 ?_
      refine lv_iconst (v := (nI 1)) hx hb dX11_tangleOf_25 (by decide) ?_
      refine lv_isub hx hb dX11_tangleOf_26 ?_
      refine lv_iadd hx hb dX11_tangleOf_27 ?_
      refine lv_istore_n (lv' := [(1, .int (acc + ((nI ((w k).length)) - (nI 1)))), (2, .int (nI k)), (0, .ref mm)]) hx hb dX11_tangleOf_28 rfl hl (by decide) rfl (fun ls hl => ?_)
      refine lv_iinc (v := (nI (k + 1))) (lv' := [(2, .int (nI (k + 1))), (1, .int (acc + ((nI ((w k).length)) - (nI 1)))), (0, .ref mm)]) hx hb dX11_tangleOf_29 hl (k := 1) rfl (nI_1 _) (by decide) rfl (fun ls hl => ?_)
      refine lv_goto (tgt := 4) hx hb dX11_tangleOf_32 (by decide) ?_
      exact ih_4 _ (by omega) (k + 1) (acc + ((nI ((w k).length)) - (nI 1))) rfl (by omega) (by rw [hac, psum, ta_s, nI_add, nI_add]) _ _ ls hP hD hS hl
  exact lp_4 _ 0 (nI 0) rfl (by omega) (by rw [psum]; decide) _ _ ls hP hD hS hl
set_option maxHeartbeats 4000000 in
set_option maxRecDepth 100000 in
/-- X11_tangle -/
theorem c_X11_tangle (l : Launch) (N : ckN) (mm : Nat) (an : Nat) (ak : Nat) (ab : Nat) (az : Nat) (as_ : Nat) (ae : Nat) (ao : Nat) (ar : Nat) (aw : Nat) (al : Nat) (am : Nat) (af : Nat) (ac : Nat) (ke : Nat) (kn : Nat) (fd : Int32) (mn : Nat) (nw : Nat → Int32) (cf : Nat) (n : Nat) (wk : Int32) (tr : Nat → Int32) (di : Nat → Int32) (fo : Nat → Int32) (w : Nat → List Nat) (sdf : Nat → Int32) (wof : Nat → Int32) (shf : Nat → Int32) (twf : Nat → Int32) (hV : mV nw cf n wk tr di fo w sdf wof shf twf) (hn : n ≤ 5) : ckI l yX11_tangle cX11_tangle 1 (some FieldType.int) { frames := 3, cells := 0, slots := 0, locals := 82 } N [.ref mm] [(mm, .inr (11, [.ref an, .ref ak, .int (nI ke), .int (nI kn), .int fd, .ref ab, .ref az, .ref as_, .ref ae, .ref ao, .ref ar, .ref aw, .ref al, .ref am, .int (nI mn), .ref af, .ref ac])), (an, .inl (N.2 0, 572, .inl nw))] (fun (r : Int32) (u : Int32) => ckRd (0) (taR n w) fd r u) (fun (u : Int32) => [(mm, .inr (11, [.ref an, .ref ak, .int (nI ke), .int (nI kn), .int u, .ref ab, .ref az, .ref as_, .ref ae, .ref ao, .ref ar, .ref aw, .ref al, .ref am, .int (nI mn), .ref af, .ref ac])), (an, .inl (N.2 0, 572, .inl nw))]) := by
  refine ckI.of (by decide) (Nat.le_of_ble_eq_true rfl) ?_
  intro pg eg sg mg blw mth cg Ag ls hx hb hrt hml hown hlk hin hg hE hA hP hD hS hl
  have hown : sg.vm.findClass RX11 = some mg.cls := hown
  have hl : lv_has ls 1 [(0, .ref mm)] := hl
  have C0 : ckC pg sg mg ([.ref mm]).toArray cg cX11_tangle 1 RX11 N Ag := ⟨⟨hx, hb, hml, hown, hg⟩, hE, hA⟩
  generalize hHe : sg.heap = H at hP
  have hS : va_S Ag sg.heap H [] := hHe ▸ hS
  refine lv_aload_n hx hb dX11_tangle_0 rfl (lv_at hl 0 rfl) ?_
  refine ck_Vi (As := []) (rest := []) (wr := []) C0 hP hD hS (c_X11_tangleOf l N mm an ak ab az as_ ae ao ar aw al am af ac ke kn fd mn nw cf n wk tr di fo w sdf wof shf twf hV (by omega)) myX11_tangleOf k4_214 ⟨Nat.le_of_ble_eq_true rfl, Nat.le_of_ble_eq_true rfl⟩ [0, 1] [] ⟨⟨rfl, rfl⟩, by decide, by decide, by decide⟩ 0 rfl rfl rfl rfl hl.1 rfl (Nat.le_of_ble_eq_true rfl) dX11_tangle_1 ⟨Nat.le_of_ble_eq_true rfl, Nat.le_of_ble_eq_true rfl⟩ (fun r_1 u0 H locs hw0 hP hD hS => ?_)
  have hw_2 : r_1 = (taR n w) := hw0
  subst hw_2
  have hP : va_P N.1 vwCl [(mm, .inr (11, [.ref an, .ref ak, .int (nI ke), .int (nI kn), .int fd, .ref ab, .ref az, .ref as_, .ref ae, .ref ao, .ref ar, .ref aw, .ref al, .ref am, .int (nI mn), .ref af, .ref ac])), (an, .inl (N.2 0, 572, .inl nw))] H := hP
  have hD : va_D Ag [(mm, .inr (11, [.ref an, .ref ak, .int (nI ke), .int (nI kn), .int fd, .ref ab, .ref az, .ref as_, .ref ae, .ref ao, .ref ar, .ref aw, .ref al, .ref am, .int (nI mn), .ref af, .ref ac])), (an, .inl (N.2 0, 572, .inl nw))] := hD
  exact ck_iret hx hb hrt hlk (fd) (ckRd_ok rfl rfl) hP hD hS ⟨Nat.le_of_ble_eq_true rfl, Nat.le_of_ble_eq_true rfl⟩ dX11_tangle_4
set_option maxHeartbeats 4000000 in
set_option maxRecDepth 100000 in
/-- X11_letter -/
theorem c_X11_letter (l : Launch) (N : ckN) (mm : Nat) (an : Nat) (ak : Nat) (ab : Nat) (az : Nat) (as_ : Nat) (ae : Nat) (ao : Nat) (ar : Nat) (aw : Nat) (al : Nat) (am : Nat) (af : Nat) (ac : Nat) (ke : Nat) (kn : Nat) (fd : Int32) (mn : Nat) (nw : Nat → Int32) (cf : Nat) (n : Nat) (wk : Int32) (tr : Nat → Int32) (di : Nat → Int32) (fo : Nat → Int32) (w : Nat → List Nat) (sdf : Nat → Int32) (wof : Nat → Int32) (shf : Nat → Int32) (twf : Nat → Int32) (x : Int32) (y : Int32) (hV : mV nw cf n wk tr di fo w sdf wof shf twf) (hn : n ≤ 5) : ckI l yX11_letter cX11_letter 3 (some FieldType.int) { frames := 4, cells := 0, slots := 0, locals := 103 } N [.ref mm, .int x, .int y] [(mm, .inr (11, [.ref an, .ref ak, .int (nI ke), .int (nI kn), .int fd, .ref ab, .ref az, .ref as_, .ref ae, .ref ao, .ref ar, .ref aw, .ref al, .ref am, .int (nI mn), .ref af, .ref ac])), (an, .inl (N.2 0, 572, .inl nw))] (fun (r : Int32) (u : Int32) => ckRd (leF n w x y) (leR w x y) fd r u) (fun (u : Int32) => [(mm, .inr (11, [.ref an, .ref ak, .int (nI ke), .int (nI kn), .int u, .ref ab, .ref az, .ref as_, .ref ae, .ref ao, .ref ar, .ref aw, .ref al, .ref am, .int (nI mn), .ref af, .ref ac])), (an, .inl (N.2 0, 572, .inl nw))]) := by
  refine ckI.of (by decide) (Nat.le_of_ble_eq_true rfl) ?_
  intro pg eg sg mg blw mth cg Ag ls hx hb hrt hml hown hlk hin hg hE hA hP hD hS hl
  have hown : sg.vm.findClass RX11 = some mg.cls := hown
  have hl : lv_has ls 3 [(0, .ref mm), (1, .int x), (2, .int y)] := hl
  have C0 : ckC pg sg mg ([.ref mm, .int x, .int y]).toArray cg cX11_letter 3 RX11 N Ag := ⟨⟨hx, hb, hml, hown, hg⟩, hE, hA⟩
  generalize hHe : sg.heap = H at hP
  have hS : va_S Ag sg.heap H [] := hHe ▸ hS
  refine lv_aload_n hx hb dX11_letter_0 rfl (lv_at hl 0 rfl) ?_
  refine lv_iload_n hx hb dX11_letter_1 rfl (lv_at hl 1 rfl) ?_
  refine ck_Vi (As := [.int x]) (rest := []) (wr := []) C0 hP hD hS (c_X11_isPlace l N mm an ak ab az as_ ae ao ar aw al am af ac ke kn fd mn nw cf n wk tr di fo w sdf wof shf twf x hV (by omega)) myX11_isPlace k4_222 ⟨Nat.le_of_ble_eq_true rfl, Nat.le_of_ble_eq_true rfl⟩ [0, 1] [] ⟨⟨rfl, rfl⟩, by decide, by decide, by decide⟩ 0 rfl rfl rfl rfl hl.1 rfl (Nat.le_of_ble_eq_true rfl) dX11_letter_2 ⟨Nat.le_of_ble_eq_true rfl, Nat.le_of_ble_eq_true rfl⟩ (fun r_1 u0 H locs hw0 hP hD hS => ?_)
  have hw_2 : r_1 = (b2i (ckLt x n)) := hw0
  subst hw_2
  have hP : va_P N.1 vwCl [(mm, .inr (11, [.ref an, .ref ak, .int (nI ke), .int (nI kn), .int fd, .ref ab, .ref az, .ref as_, .ref ae, .ref ao, .ref ar, .ref aw, .ref al, .ref am, .int (nI mn), .ref af, .ref ac])), (an, .inl (N.2 0, 572, .inl nw))] H := hP
  have hD : va_D Ag [(mm, .inr (11, [.ref an, .ref ak, .int (nI ke), .int (nI kn), .int fd, .ref ab, .ref az, .ref as_, .ref ae, .ref ao, .ref ar, .ref aw, .ref al, .ref am, .int (nI mn), .ref af, .ref ac])), (an, .inl (N.2 0, 572, .inl nw))] := hD
  refine ck_ifeq (b := ckLt x n) (tgt := 28) hx hb dX11_letter_5 (by decide) (fun cz_3 => ?_) (fun cz_3 => ?_)
  · refine lv_aload_n hx hb dX11_letter_28 rfl (lv_at hl 0 rfl) ?_
    refine lv_ldc (own := RX11) (v := (-100001)) hx hb hown (hg _ k4_81) dX11_letter_29 ?_
    refine ck_Vi (As := [.int (-100001)]) (rest := []) (wr := [(an, .inl (N.2 0, 572, .inl nw))]) C0 hP hD hS (c_X11_finds l N mm an ak ab az as_ ae ao ar aw al am af ac ke kn fd mn (-100001) ) myX11_finds k4_67 ⟨Nat.le_of_ble_eq_true rfl, Nat.le_of_ble_eq_true rfl⟩ [0] [1] ⟨⟨rfl, rfl⟩, by decide, by decide, by decide⟩ 0 rfl rfl rfl rfl hl.1 rfl (Nat.le_of_ble_eq_true rfl) dX11_letter_31 ⟨Nat.le_of_ble_eq_true rfl, Nat.le_of_ble_eq_true rfl⟩ (fun r_4 u0 H locs hw0 hP hD hS => ?_)
    have hw_5 : r_4 = (-100001) := hw0
    subst hw_5
    have hP : va_P N.1 vwCl [(an, .inl (N.2 0, 572, .inl nw)), (mm, .inr (11, [.ref an, .ref ak, .int (nI ke), .int (nI kn), .int (fd + nI 1), .ref ab, .ref az, .ref as_, .ref ae, .ref ao, .ref ar, .ref aw, .ref al, .ref am, .int (nI mn), .ref af, .ref ac]))] H := hP
    have hD : va_D Ag [(an, .inl (N.2 0, 572, .inl nw)), (mm, .inr (11, [.ref an, .ref ak, .int (nI ke), .int (nI kn), .int (fd + nI 1), .ref ab, .ref az, .ref as_, .ref ae, .ref ao, .ref ar, .ref aw, .ref al, .ref am, .int (nI mn), .ref af, .ref ac]))] := hD
    exact ck_iret hx hb hrt hlk ((fd + nI 1)) (ckRd_f (by simp [leF, cz_3]) (by decide)) (hP.sub [1, 0] rfl) (hD.sub [1, 0] (by decide) rfl) hS ⟨Nat.le_of_ble_eq_true rfl, Nat.le_of_ble_eq_true rfl⟩ dX11_letter_34
  have hx1 := cz_3
  obtain ⟨i, hi, rfl⟩ := (ckLt_t (by omega)).mp hx1
  have exi : ix (nI i) = i := ix_nI (by omega)
  obtain ⟨hp1, hp2, hp3, hp4⟩ := hV.2.2.2.2.2.2.2.2.2.2 i hi
  refine lv_iload_n hx hb dX11_letter_8 rfl (lv_at hl 2 rfl) ?_
  refine lv_iconst (v := (-1)) hx hb dX11_letter_9 (by decide) ?_
  refine lv_aload_n hx hb dX11_letter_10 rfl (lv_at hl 0 rfl) ?_
  refine va_get (ci := 11) (v := .ref an) (C := RX11) (T := TX11) (N := 17) hx hb hg inX11 hown hE.1 hP 0 rfl rfl 0 (by decide) (hg _ k4_10) (fun _ h9 => h9) rfl dX11_letter_11 ?_
  refine lv_sipush (v := (nI 232)) hx hb dX11_letter_14 (by decide) ?_
  refine lv_iload_n hx hb dX11_letter_17 rfl (lv_at hl 1 rfl) ?_
  refine lv_iadd hx hb dX11_letter_18 ?_
  refine ck_top (y := (nI (232 + i))) (nI_add _ _) ?_
  refine ck_iald hx hb hE hP 1 rfl (by omega) (by decide) dX11_letter_19 ?_
  refine ck_top (y := (nI ((w i).length))) hp1 ?_
  refine lv_iconst (v := (nI 1)) hx hb dX11_letter_20 (by decide) ?_
  refine lv_isub hx hb dX11_letter_21 ?_
  refine ck_Si (As := [.int y, .int (-1), .int ((nI ((w i).length)) - (nI 1))]) (rest := []) (wr := [(mm, .inr (11, [.ref an, .ref ak, .int (nI ke), .int (nI kn), .int fd, .ref ab, .ref az, .ref as_, .ref ae, .ref ao, .ref ar, .ref aw, .ref al, .ref am, .int (nI mn), .ref af, .ref ac])), (an, .inl (N.2 0, 572, .inl nw))]) C0 hP hD hS (c_X11_in l N y (-1) ((nI ((w i).length)) - (nI 1)) ) myX11_in k4_75 ⟨Nat.le_of_ble_eq_true rfl, Nat.le_of_ble_eq_true rfl⟩ [] [0, 1] ⟨⟨rfl, rfl⟩, by decide, by decide, by decide⟩ rfl hl.1 rfl (Nat.le_of_ble_eq_true rfl) dX11_letter_22 ⟨Nat.le_of_ble_eq_true rfl, Nat.le_of_ble_eq_true rfl⟩ (fun r_6 u0 H locs hw0 hP hD hS => ?_)
  have hw_7 : r_6 = (b2i (ckIn y (-1) ((nI ((w i).length)) - (nI 1)))) := hw0
  subst hw_7
  have hP : va_P N.1 vwCl [(mm, .inr (11, [.ref an, .ref ak, .int (nI ke), .int (nI kn), .int fd, .ref ab, .ref az, .ref as_, .ref ae, .ref ao, .ref ar, .ref aw, .ref al, .ref am, .int (nI mn), .ref af, .ref ac])), (an, .inl (N.2 0, 572, .inl nw))] H := hP
  have hD : va_D Ag [(mm, .inr (11, [.ref an, .ref ak, .int (nI ke), .int (nI kn), .int fd, .ref ab, .ref az, .ref as_, .ref ae, .ref ao, .ref ar, .ref aw, .ref al, .ref am, .int (nI mn), .ref af, .ref ac])), (an, .inl (N.2 0, 572, .inl nw))] := hD
  refine ck_ifne (b := ckIn y (-1) ((nI ((w i).length)) - (nI 1))) (tgt := 35) hx hb dX11_letter_25 (by decide) (fun cz_8 => ?_) (fun cz_8 => ?_)
  · have hF2 := cz_8
    refine lv_iload_n hx hb dX11_letter_35 rfl (lv_at hl 2 rfl) ?_
    refine lv_if_ge (tgt := 52) hx hb dX11_letter_36 (by decide) (fun cz_9 => ?_) (fun cz_9 => ?_)
    · have hq : ckLt y (w i).length = true := by rw [ckLt]; have e0 : (0 : Int32).toInt = 0 := (by decide); have e1 : (-1 : Int32).toInt = -1 := (by decide); have e2 : (nI (w i).length - nI 1).toInt = ((w i).length : Int) - 1 := i_sub_toInt (by omega) (by decide); have z0 := cz_9; have z1 := ckIn_iff.mp hF2; simp only [i_lt, i_le] at z0; exact decide_eq_true (by omega)
      obtain ⟨k, hk, rfl⟩ := (ckLt_t (by omega)).mp hq
      have exk : ix (nI k) = k := ix_nI (by omega)
      have hy1 : ¬ nI k = -1 := by intro z; have z2 := congrArg Int32.toInt z; rw [nI_toInt (by omega), show (-1 : Int32).toInt = -1 by decide] at z2; omega
      refine lv_aload_n hx hb dX11_letter_52 rfl (lv_at hl 0 rfl) ?_
      refine va_get (ci := 11) (v := .ref an) (C := RX11) (T := TX11) (N := 17) hx hb hg inX11 hown hE.1 hP 0 rfl rfl 0 (by decide) (hg _ k4_10) (fun _ h9 => h9) rfl dX11_letter_53 ?_
      refine lv_sipush (v := (nI 272)) hx hb dX11_letter_56 (by decide) ?_
      refine lv_bipush (v := (nI 60)) hx hb dX11_letter_59 (by decide) ?_
      refine lv_iload_n hx hb dX11_letter_61 rfl (lv_at hl 1 rfl) ?_
      refine lv_imul hx hb dX11_letter_62 ?_
      refine ck_top (y := (nI (60 * i))) (pk_mul _ _) ?_
      refine lv_iadd hx hb dX11_letter_63 ?_
      refine ck_top (y := (nI (272 + (60 * i)))) (nI_add _ _) ?_
      refine lv_iload_n hx hb dX11_letter_64 rfl (lv_at hl 2 rfl) ?_
      refine lv_iadd hx hb dX11_letter_65 ?_
      refine ck_top (y := (nI (272 + (60 * i) + k))) (nI_add _ _) ?_
      refine ck_iald hx hb hE hP 1 rfl (by omega) (by decide) dX11_letter_66 ?_
      refine ck_top (y := (nI ((w i).getD k 0))) ((congrArg nw (by omega)).trans (hp4 k (by omega))) ?_
      exact ck_iret hx hb hrt hlk (fd) (ckRd_ok (by simp [leF, hx1, exi, exk, hq]) (by rw [leR, if_neg hy1, exi, exk])) hP hD hS ⟨Nat.le_of_ble_eq_true rfl, Nat.le_of_ble_eq_true rfl⟩ dX11_letter_67
    have hy1 : y = -1 := by have e0 : (0 : Int32).toInt = 0 := (by decide); have e1 : (-1 : Int32).toInt = -1 := (by decide); have e2 : (nI (w i).length - nI 1).toInt = ((w i).length : Int) - 1 := i_sub_toInt (by omega) (by decide); have z0 := cz_9; have z1 := ckIn_iff.mp hF2; simp only [i_lt, i_le] at z0; exact Int32.toInt_inj.mp (by omega)
    refine lv_aload_n hx hb dX11_letter_39 rfl (lv_at hl 0 rfl) ?_
    refine va_get (ci := 11) (v := .ref an) (C := RX11) (T := TX11) (N := 17) hx hb hg inX11 hown hE.1 hP 0 rfl rfl 0 (by decide) (hg _ k4_10) (fun _ h9 => h9) rfl dX11_letter_40 ?_
    refine lv_sipush (v := (nI 232)) hx hb dX11_letter_43 (by decide) ?_
    refine lv_iload_n hx hb dX11_letter_46 rfl (lv_at hl 1 rfl) ?_
    refine lv_iadd hx hb dX11_letter_47 ?_
    refine ck_top (y := (nI (232 + i))) (nI_add _ _) ?_
    refine ck_iald hx hb hE hP 1 rfl (by omega) (by decide) dX11_letter_48 ?_
    refine ck_top (y := (nI ((w i).length))) hp1 ?_
    refine lv_goto (tgt := 67) hx hb dX11_letter_49 (by decide) ?_
    exact ck_iret hx hb hrt hlk (fd) (ckRd_ok (by simp [leF, hx1, exi, hy1]) (by simp [leR, hy1, exi])) hP hD hS ⟨Nat.le_of_ble_eq_true rfl, Nat.le_of_ble_eq_true rfl⟩ dX11_letter_67
  refine lv_aload_n hx hb dX11_letter_28 rfl (lv_at hl 0 rfl) ?_
  refine lv_ldc (own := RX11) (v := (-100001)) hx hb hown (hg _ k4_81) dX11_letter_29 ?_
  refine ck_Vi (As := [.int (-100001)]) (rest := []) (wr := [(an, .inl (N.2 0, 572, .inl nw))]) C0 hP hD hS (c_X11_finds l N mm an ak ab az as_ ae ao ar aw al am af ac ke kn fd mn (-100001) ) myX11_finds k4_67 ⟨Nat.le_of_ble_eq_true rfl, Nat.le_of_ble_eq_true rfl⟩ [0] [1] ⟨⟨rfl, rfl⟩, by decide, by decide, by decide⟩ 0 rfl rfl rfl rfl hl.1 rfl (Nat.le_of_ble_eq_true rfl) dX11_letter_31 ⟨Nat.le_of_ble_eq_true rfl, Nat.le_of_ble_eq_true rfl⟩ (fun r_10 u0 H locs hw0 hP hD hS => ?_)
  have hw_11 : r_10 = (-100001) := hw0
  subst hw_11
  have hP : va_P N.1 vwCl [(an, .inl (N.2 0, 572, .inl nw)), (mm, .inr (11, [.ref an, .ref ak, .int (nI ke), .int (nI kn), .int (fd + nI 1), .ref ab, .ref az, .ref as_, .ref ae, .ref ao, .ref ar, .ref aw, .ref al, .ref am, .int (nI mn), .ref af, .ref ac]))] H := hP
  have hD : va_D Ag [(an, .inl (N.2 0, 572, .inl nw)), (mm, .inr (11, [.ref an, .ref ak, .int (nI ke), .int (nI kn), .int (fd + nI 1), .ref ab, .ref az, .ref as_, .ref ae, .ref ao, .ref ar, .ref aw, .ref al, .ref am, .int (nI mn), .ref af, .ref ac]))] := hD
  exact ck_iret hx hb hrt hlk ((fd + nI 1)) (ckRd_f (by have z := cz_8; rw [ckIn_mm (by omega)] at z; simp only [leF, hx1, exi, z]; rfl) (by decide)) (hP.sub [1, 0] rfl) (hD.sub [1, 0] (by decide) rfl) hS ⟨Nat.le_of_ble_eq_true rfl, Nat.le_of_ble_eq_true rfl⟩ dX11_letter_34
set_option maxHeartbeats 4000000 in
set_option maxRecDepth 100000 in
/-- X11_lost -/
theorem c_X11_lost (l : Launch) (N : ckN) (mm : Nat) (an : Nat) (ak : Nat) (ab : Nat) (az : Nat) (as_ : Nat) (ae : Nat) (ao : Nat) (ar : Nat) (aw : Nat) (al : Nat) (am : Nat) (af : Nat) (ac : Nat) (ke : Nat) (kn : Nat) (fd : Int32) (mn : Nat) (nw : Nat → Int32) (cf : Nat) (n : Nat) (wk : Int32) (tr : Nat → Int32) (di : Nat → Int32) (fo : Nat → Int32) (w : Nat → List Nat) (sdf : Nat → Int32) (wof : Nat → Int32) (shf : Nat → Int32) (twf : Nat → Int32) (hV : mV nw cf n wk tr di fo w sdf wof shf twf) (hn : n ≤ 5) : ckI l yX11_lost cX11_lost 3 (some FieldType.int) { frames := 3, cells := 0, slots := 0, locals := 81 } N [.ref mm] [(mm, .inr (11, [.ref an, .ref ak, .int (nI ke), .int (nI kn), .int fd, .ref ab, .ref az, .ref as_, .ref ae, .ref ao, .ref ar, .ref aw, .ref al, .ref am, .int (nI mn), .ref af, .ref ac])), (an, .inl (N.2 0, 572, .inl nw))] (fun (r : Int32) (u : Int32) => ckRd (0) (nI (bitsOf (fun f => decide (nI 20 ≤ wof f)) n)) fd r u) (fun (u : Int32) => [(mm, .inr (11, [.ref an, .ref ak, .int (nI ke), .int (nI kn), .int u, .ref ab, .ref az, .ref as_, .ref ae, .ref ao, .ref ar, .ref aw, .ref al, .ref am, .int (nI mn), .ref af, .ref ac])), (an, .inl (N.2 0, 572, .inl nw))]) := by
  refine ckI.of (by decide) (Nat.le_of_ble_eq_true rfl) ?_
  intro pg eg sg mg blw mth cg Ag ls hx hb hrt hml hown hlk hin hg hE hA hP hD hS hl
  have hown : sg.vm.findClass RX11 = some mg.cls := hown
  have hl : lv_has ls 3 [(0, .ref mm)] := hl
  have C0 : ckC pg sg mg ([.ref mm]).toArray cg cX11_lost 3 RX11 N Ag := ⟨⟨hx, hb, hml, hown, hg⟩, hE, hA⟩
  generalize hHe : sg.heap = H at hP
  have hS : va_S Ag sg.heap H [] := hHe ▸ hS
  refine lv_iconst (v := (nI 0)) hx hb dX11_lost_0 (by decide) ?_
  refine lv_istore_n (lv' := [(1, .int (nI 0)), (0, .ref mm)]) hx hb dX11_lost_1 rfl hl (by decide) rfl (fun ls hl => ?_)
  refine lv_iconst (v := (nI 0)) hx hb dX11_lost_2 (by decide) ?_
  refine lv_istore_n (lv' := [(2, .int (nI 0)), (1, .int (nI 0)), (0, .ref mm)]) hx hb dX11_lost_3 rfl hl (by decide) rfl (fun ls hl => ?_)
  have lp_4 : ∀ (dz : Nat) (k : Nat) (b1 : Nat) (hdz : n - k = dz) (hk : k ≤ n) (hb1 : b1 = bitsOf (fun f => decide (nI 20 ≤ wof f)) k) (H : Heap) (locs : List Loc) (ls : Array Slot), va_P N.1 vwCl [(mm, .inr (11, [.ref an, .ref ak, .int (nI ke), .int (nI kn), .int fd, .ref ab, .ref az, .ref as_, .ref ae, .ref ao, .ref ar, .ref aw, .ref al, .ref am, .int (nI mn), .ref af, .ref ac])), (an, .inl (N.2 0, 572, .inl nw))] H → va_D Ag [(mm, .inr (11, [.ref an, .ref ak, .int (nI ke), .int (nI kn), .int fd, .ref ab, .ref az, .ref as_, .ref ae, .ref ao, .ref ar, .ref aw, .ref al, .ref am, .int (nI mn), .ref af, .ref ac])), (an, .inl (N.2 0, 572, .inl nw))] → va_S Ag sg.heap H locs → lv_has ls 3 [(2, .int (nI k)), (1, .int (nI b1)), (0, .ref mm)] → W pg l eg { frames := 3, cells := 0, slots := 0, locals := 81 } sg mg ([.ref mm]).toArray blw mth cg H locs 0 0 (ckQi N Ag blw sg ([.ref mm]).toArray { frames := 3, cells := 0, slots := 0, locals := 81 } (fun (r : Int32) (u : Int32) => ckRd (0) (nI (bitsOf (fun f => decide (nI 20 ≤ wof f)) n)) fd r u) (fun (u : Int32) => [(mm, .inr (11, [.ref an, .ref ak, .int (nI ke), .int (nI kn), .int u, .ref ab, .ref az, .ref as_, .ref ae, .ref ao, .ref ar, .ref aw, .ref al, .ref am, .int (nI mn), .ref af, .ref ac])), (an, .inl (N.2 0, 572, .inl nw))])) (F0 mg 4 ls []) := by
    intro dz
    induction dz using Nat.strongRecOn with
    | _ dz ih_4 =>
      intro k b1 hdz hk hb1 H locs ls hP hD hS hl
      subst hdz
      refine lv_iload_n hx hb dX11_lost_4 rfl (lv_at hl 0 rfl) ?_
      refine lv_aload_n hx hb dX11_lost_5 rfl (lv_at hl 2 rfl) ?_
      refine va_get (ci := 11) (v := .ref an) (C := RX11) (T := TX11) (N := 17) hx hb hg inX11 hown hE.1 hP 0 rfl rfl 0 (by decide) (hg _ k4_10) (fun _ h9 => h9) rfl dX11_lost_6 ?_
      refine lv_iconst (v := (nI 1)) hx hb dX11_lost_9 (by decide) ?_
      refine ck_iald hx hb hE hP 1 rfl (by omega) (by decide) dX11_lost_10 ?_
      refine ck_top (y := (nI n)) hV.2.1 ?_
      refine ck_ic_ge (tgt := 38) hx hb dX11_lost_11 (by decide) (by omega) (by omega) (fun cz_1 => ?_) (fun cz_1 => ?_)
      · refine lv_iload_n hx hb dX11_lost_38 rfl (lv_at hl 1 rfl) ?_
        exact ck_iret hx hb hrt hlk (fd) (ckRd_ok rfl (by rw [hb1, (show k = n by omega)])) hP hD hS ⟨Nat.le_of_ble_eq_true rfl, Nat.le_of_ble_eq_true rfl⟩ dX11_lost_39
      refine lv_iload_n hx hb dX11_lost_14 rfl (lv_at hl 1 rfl) ?_
      refine lv_aload_n hx hb dX11_lost_15 rfl (lv_at hl 2 rfl) ?_
      refine lv_iload_n hx hb dX11_lost_16 rfl (lv_at hl 0 rfl) ?_
      refine ck_Vi (As := [.int (nI k)]) (rest := [.int (nI b1)]) (wr := []) C0 hP hD hS (c_X11_isLost l N mm an ak ab az as_ ae ao ar aw al am af ac ke kn fd mn nw cf n wk tr di fo w sdf wof shf twf k hV (by omega)) myX11_isLost k4_182 ⟨Nat.le_of_ble_eq_true rfl, Nat.le_of_ble_eq_true rfl⟩ [0, 1] [] ⟨⟨rfl, rfl⟩, by decide, by decide, by decide⟩ 0 rfl rfl rfl rfl hl.1 rfl (Nat.le_of_ble_eq_true rfl) dX11_lost_17 ⟨Nat.le_of_ble_eq_true rfl, Nat.le_of_ble_eq_true rfl⟩ (fun r_2 u0 H locs hw0 hP hD hS => ?_)
      have hw_3 : r_2 = (b2i (decide (nI 20 ≤ wof k))) := hw0
      subst hw_3
      have hP : va_P N.1 vwCl [(mm, .inr (11, [.ref an, .ref ak, .int (nI ke), .int (nI kn), .int fd, .ref ab, .ref az, .ref as_, .ref ae, .ref ao, .ref ar, .ref aw, .ref al, .ref am, .int (nI mn), .ref af, .ref ac])), (an, .inl (N.2 0, 572, .inl nw))] H := hP
      have hD : va_D Ag [(mm, .inr (11, [.ref an, .ref ak, .int (nI ke), .int (nI kn), .int fd, .ref ab, .ref az, .ref as_, .ref ae, .ref ao, .ref ar, .ref aw, .ref al, .ref am, .int (nI mn), .ref af, .ref ac])), (an, .inl (N.2 0, 572, .inl nw))] := hD
      refine ck_ifeq (b := decide (nI 20 ≤ wof k)) (tgt := 29) hx hb dX11_lost_20 (by decide) (fun cz_4 => ?_) (fun cz_4 => ?_)
      · refine lv_iconst (v := (nI 0)) hx hb dX11_lost_29 (by decide) ?_
        refine lv_ior hx hb dX11_lost_30 ?_
        refine ck_top (y := (nI b1)) (ck_or0 _) ?_
        refine lv_istore_n (lv' := [(1, .int (nI b1)), (2, .int (nI k)), (0, .ref mm)]) hx hb dX11_lost_31 rfl hl (by decide) rfl (fun ls hl => ?_)
        refine lv_iinc (v := (nI (k + 1))) (lv' := [(2, .int (nI (k + 1))), (1, .int (nI b1)), (0, .ref mm)]) hx hb dX11_lost_32 hl (k := 1) rfl (nI_1 _) (by decide) rfl (fun ls hl => ?_)
        refine lv_goto (tgt := 4) hx hb dX11_lost_35 (by decide) ?_
        exact ih_4 _ (by omega) (k + 1) b1 rfl (by omega) (by rw [bitsOf, cz_4, hb1]; rfl) _ _ ls hP hD hS hl
      refine lv_iconst (v := (nI 1)) hx hb dX11_lost_23 (by decide) ?_
      refine lv_iload_n hx hb dX11_lost_24 rfl (lv_at hl 0 rfl) ?_
      refine lv_ishl hx hb dX11_lost_25 ?_
      refine ck_top (y := (nI (2 ^ k))) (ck_shl1 (by omega)) ?_
      refine lv_goto (tgt := 30) hx hb dX11_lost_26 (by decide) ?_
      refine lv_ior hx hb dX11_lost_30 ?_
      refine ck_top (y := (nI (b1 ||| (2 ^ k)))) (ck_or _ _) ?_
      refine lv_istore_n (lv' := [(1, .int (nI (b1 ||| (2 ^ k)))), (2, .int (nI k)), (0, .ref mm)]) hx hb dX11_lost_31 rfl hl (by decide) rfl (fun ls hl => ?_)
      refine lv_iinc (v := (nI (k + 1))) (lv' := [(2, .int (nI (k + 1))), (1, .int (nI (b1 ||| (2 ^ k)))), (0, .ref mm)]) hx hb dX11_lost_32 hl (k := 1) rfl (nI_1 _) (by decide) rfl (fun ls hl => ?_)
      refine lv_goto (tgt := 4) hx hb dX11_lost_35 (by decide) ?_
      exact ih_4 _ (by omega) (k + 1) (b1 ||| (2 ^ k)) rfl (by omega) (by rw [bitsOf, cz_4, hb1]; rfl) _ _ ls hP hD hS hl
  exact lp_4 _ 0 0 rfl (by omega) rfl _ _ ls hP hD hS hl
set_option maxHeartbeats 4000000 in
set_option maxRecDepth 100000 in
/-- X11_all -/
theorem c_X11_all (l : Launch) (N : ckN) (mm : Nat) (an : Nat) (ak : Nat) (ab : Nat) (az : Nat) (as_ : Nat) (ae : Nat) (ao : Nat) (ar : Nat) (aw : Nat) (al : Nat) (am : Nat) (af : Nat) (ac : Nat) (ke : Nat) (kn : Nat) (fd : Int32) (mn : Nat) (nw : Nat → Int32) (lo : Nat → Int32) (bk : Nat → Int32) (cf : Nat) (n : Nat) (wk : Int32) (tr : Nat → Int32) (di : Nat → Int32) (fo : Nat → Int32) (w : Nat → List Nat) (sdf : Nat → Int32) (wof : Nat → Int32) (shf : Nat → Int32) (twf : Nat → Int32) (x : Int32) (hV : mV nw cf n wk tr di fo w sdf wof shf twf) (hn : n ≤ 5) : ckI l yX11_all cX11_all 2 (some FieldType.int) { frames := 3, cells := 0, slots := 0, locals := 83 } N [.ref mm, .int x] [(mm, .inr (11, [.ref an, .ref ak, .int (nI ke), .int (nI kn), .int fd, .ref ab, .ref az, .ref as_, .ref ae, .ref ao, .ref ar, .ref aw, .ref al, .ref am, .int (nI mn), .ref af, .ref ac])), (an, .inl (N.2 0, 572, .inl nw)), (al, .inl (N.2 0, 25, .inl lo)), (aw, .inl (N.2 0, 1500, .inl bk))] (fun (r : Int32) (u : Int32 × (Nat → Int32) × (Nat → Int32)) => ckRd (alF x) (alR cf n wk w fd x) fd r u.1) (fun (u : Int32 × (Nat → Int32) × (Nat → Int32)) => [(mm, .inr (11, [.ref an, .ref ak, .int (nI ke), .int (nI kn), .int u.1, .ref ab, .ref az, .ref as_, .ref ae, .ref ao, .ref ar, .ref aw, .ref al, .ref am, .int (nI mn), .ref af, .ref ac])), (an, .inl (N.2 0, 572, .inl nw)), (al, .inl (N.2 0, 25, .inl u.2.1)), (aw, .inl (N.2 0, 1500, .inl u.2.2))]) := by
  refine ckI.of (by decide) (Nat.le_of_ble_eq_true rfl) ?_
  intro pg eg sg mg blw mth cg Ag ls hx hb hrt hml hown hlk hin hg hE hA hP hD hS hl
  have hown : sg.vm.findClass RX11 = some mg.cls := hown
  have hl : lv_has ls 2 [(0, .ref mm), (1, .int x)] := hl
  have C0 : ckC pg sg mg ([.ref mm, .int x]).toArray cg cX11_all 2 RX11 N Ag := ⟨⟨hx, hb, hml, hown, hg⟩, hE, hA⟩
  generalize hHe : sg.heap = H at hP
  have hS : va_S Ag sg.heap H [] := hHe ▸ hS
  refine lv_iload_n hx hb dX11_all_0 rfl (lv_at hl 1 rfl) ?_
  by_cases hsw : ckIn x (nI 0) (nI 4) = true
  · obtain ⟨j, -, hj, rfl⟩ := (ckIn_n (by decide) (by decide)).mp hsw
    rcases (show j = 0 ∨ j = 1 ∨ j = 2 ∨ j = 3 ∨ j = 4 by omega) with rfl | rfl | rfl | rfl | rfl
    · refine lv_tableIn (tgt := 36) (off := 35) hx hb dX11_all_1 (by decide) (by decide) rfl (by decide) ?_
      refine lv_aload_n hx hb dX11_all_36 rfl (lv_at hl 0 rfl) ?_
      refine va_get (ci := 11) (v := .ref an) (C := RX11) (T := TX11) (N := 17) hx hb hg inX11 hown hE.1 hP 0 rfl rfl 0 (by decide) (hg _ k4_10) (fun _ h9 => h9) rfl dX11_all_37 ?_
      refine lv_iconst (v := (nI 0)) hx hb dX11_all_40 (by decide) ?_
      refine ck_iald hx hb hE hP 1 rfl (by omega) (by decide) dX11_all_41 ?_
      refine ck_top (y := (nI cf)) hV.1 ?_
      exact ck_iret hx hb hrt hlk ⟨fd, lo, bk⟩ (ckRd_ok (by simp [alF, hsw]) (by rw [alR, if_pos rfl])) hP hD hS ⟨Nat.le_of_ble_eq_true rfl, Nat.le_of_ble_eq_true rfl⟩ dX11_all_42
    · refine lv_tableIn (tgt := 43) (off := 42) hx hb dX11_all_1 (by decide) (by decide) rfl (by decide) ?_
      refine lv_aload_n hx hb dX11_all_43 rfl (lv_at hl 0 rfl) ?_
      refine va_get (ci := 11) (v := .ref an) (C := RX11) (T := TX11) (N := 17) hx hb hg inX11 hown hE.1 hP 0 rfl rfl 0 (by decide) (hg _ k4_10) (fun _ h9 => h9) rfl dX11_all_44 ?_
      refine lv_iconst (v := (nI 1)) hx hb dX11_all_47 (by decide) ?_
      refine ck_iald hx hb hE hP 1 rfl (by omega) (by decide) dX11_all_48 ?_
      refine ck_top (y := (nI n)) hV.2.1 ?_
      exact ck_iret hx hb hrt hlk ⟨fd, lo, bk⟩ (ckRd_ok (by simp [alF, hsw]) (by rw [alR, if_neg (by decide), if_pos rfl])) hP hD hS ⟨Nat.le_of_ble_eq_true rfl, Nat.le_of_ble_eq_true rfl⟩ dX11_all_49
    · refine lv_tableIn (tgt := 50) (off := 49) hx hb dX11_all_1 (by decide) (by decide) rfl (by decide) ?_
      refine lv_aload_n hx hb dX11_all_50 rfl (lv_at hl 0 rfl) ?_
      refine va_get (ci := 11) (v := .ref an) (C := RX11) (T := TX11) (N := 17) hx hb hg inX11 hown hE.1 hP 0 rfl rfl 0 (by decide) (hg _ k4_10) (fun _ h9 => h9) rfl dX11_all_51 ?_
      refine lv_iconst (v := (nI 2)) hx hb dX11_all_54 (by decide) ?_
      refine ck_iald hx hb hE hP 1 rfl (by omega) (by decide) dX11_all_55 ?_
      refine ck_top (y := wk) hV.2.2.1 ?_
      exact ck_iret hx hb hrt hlk ⟨fd, lo, bk⟩ (ckRd_ok (by simp [alF, hsw]) (by rw [alR, if_neg (by decide), if_neg (by decide), if_pos rfl])) hP hD hS ⟨Nat.le_of_ble_eq_true rfl, Nat.le_of_ble_eq_true rfl⟩ dX11_all_56
    · refine lv_tableIn (tgt := 57) (off := 56) hx hb dX11_all_1 (by decide) (by decide) rfl (by decide) ?_
      refine lv_aload_n hx hb dX11_all_57 rfl (lv_at hl 0 rfl) ?_
      refine ck_Vv (As := []) (rest := []) (wr := []) C0 hP hD hS (c_X11_fromNow l N mm an ak ab az as_ ae ao ar aw al am af ac ke kn fd mn nw lo bk cf n wk tr di fo w sdf wof shf twf hV (by omega)) myX11_fromNow k4_187 ⟨Nat.le_of_ble_eq_true rfl, Nat.le_of_ble_eq_true rfl⟩ [0, 1, 2, 3] [] ⟨⟨rfl, rfl⟩, by decide, by decide, by decide⟩ 0 rfl rfl rfl rfl hl.1 rfl (Nat.le_of_ble_eq_true rfl) dX11_all_58 ⟨Nat.le_of_ble_eq_true rfl, Nat.le_of_ble_eq_true rfl⟩ (fun u0 H locs hw0 hP hD hS => ?_)
      obtain ⟨lo2_2, bk2_3⟩ := u0
      have hw_4 : mB lo2_2 bk2_3 0 n w ∧ (∀ j, 5 ≤ j → lo2_2 j = lo j) ∧ (∀ j, 300 ≤ j → bk2_3 j = bk j) := hw0
      have hP : va_P N.1 vwCl [(mm, .inr (11, [.ref an, .ref ak, .int (nI ke), .int (nI kn), .int fd, .ref ab, .ref az, .ref as_, .ref ae, .ref ao, .ref ar, .ref aw, .ref al, .ref am, .int (nI mn), .ref af, .ref ac])), (an, .inl (N.2 0, 572, .inl nw)), (al, .inl (N.2 0, 25, .inl lo2_2)), (aw, .inl (N.2 0, 1500, .inl bk2_3))] H := hP
      have hD : va_D Ag [(mm, .inr (11, [.ref an, .ref ak, .int (nI ke), .int (nI kn), .int fd, .ref ab, .ref az, .ref as_, .ref ae, .ref ao, .ref ar, .ref aw, .ref al, .ref am, .int (nI mn), .ref af, .ref ac])), (an, .inl (N.2 0, 572, .inl nw)), (al, .inl (N.2 0, 25, .inl lo2_2)), (aw, .inl (N.2 0, 1500, .inl bk2_3))] := hD
      have hB0 := hw_4.1
      refine lv_aload_n hx hb dX11_all_61 rfl (lv_at hl 0 rfl) ?_
      refine lv_iconst (v := (nI 0)) hx hb dX11_all_62 (by decide) ?_
      refine lv_aload_n hx hb dX11_all_63 rfl (lv_at hl 0 rfl) ?_
      refine va_get (ci := 11) (v := .ref an) (C := RX11) (T := TX11) (N := 17) hx hb hg inX11 hown hE.1 hP 0 rfl rfl 0 (by decide) (hg _ k4_10) (fun _ h9 => h9) rfl dX11_all_64 ?_
      refine lv_iconst (v := (nI 1)) hx hb dX11_all_67 (by decide) ?_
      refine ck_iald hx hb hE hP 1 rfl (by omega) (by decide) dX11_all_68 ?_
      refine ck_top (y := (nI n)) hV.2.1 ?_
      refine ck_Vi (As := [.int (nI 0), .int (nI n)]) (rest := []) (wr := [(an, .inl (N.2 0, 572, .inl nw))]) C0 hP hD hS (c_X11_isFirst l N mm an ak ab az as_ ae ao ar aw al am af ac ke kn fd mn lo2_2 bk2_3 w 0 n hB0 (by omega) (by omega)) myX11_isFirst k5_6 ⟨Nat.le_of_ble_eq_true rfl, Nat.le_of_ble_eq_true rfl⟩ [0, 2, 3] [1] ⟨⟨rfl, rfl⟩, by decide, by decide, by decide⟩ 0 rfl rfl rfl rfl hl.1 rfl (Nat.le_of_ble_eq_true rfl) dX11_all_69 ⟨Nat.le_of_ble_eq_true rfl, Nat.le_of_ble_eq_true rfl⟩ (fun r_5 u0 H locs hw0 hP hD hS => ?_)
      have hw_6 : r_5 = (b2i (ckFirst w n)) := hw0
      subst hw_6
      have hP : va_P N.1 vwCl [(an, .inl (N.2 0, 572, .inl nw)), (mm, .inr (11, [.ref an, .ref ak, .int (nI ke), .int (nI kn), .int fd, .ref ab, .ref az, .ref as_, .ref ae, .ref ao, .ref ar, .ref aw, .ref al, .ref am, .int (nI mn), .ref af, .ref ac])), (al, .inl (N.2 0, 25, .inl lo2_2)), (aw, .inl (N.2 0, 1500, .inl bk2_3))] H := hP
      have hD : va_D Ag [(an, .inl (N.2 0, 572, .inl nw)), (mm, .inr (11, [.ref an, .ref ak, .int (nI ke), .int (nI kn), .int fd, .ref ab, .ref az, .ref as_, .ref ae, .ref ao, .ref ar, .ref aw, .ref al, .ref am, .int (nI mn), .ref af, .ref ac])), (al, .inl (N.2 0, 25, .inl lo2_2)), (aw, .inl (N.2 0, 1500, .inl bk2_3))] := hD
      refine ck_ifeq (b := ckFirst w n) (tgt := 79) hx hb dX11_all_72 (by decide) (fun cz_7 => ?_) (fun cz_7 => ?_)
      · refine lv_iconst (v := (nI 0)) hx hb dX11_all_79 (by decide) ?_
        exact ck_iret hx hb hrt hlk ⟨fd, lo2_2, bk2_3⟩ (ckRd_ok (by simp [alF, hsw]) (by rw [alR, if_neg (by decide), if_neg (by decide), if_neg (by decide), if_pos rfl, cz_7]; rfl)) (hP.sub [1, 0, 2, 3] rfl) (hD.sub [1, 0, 2, 3] (by decide) rfl) hS ⟨Nat.le_of_ble_eq_true rfl, Nat.le_of_ble_eq_true rfl⟩ dX11_all_80
      refine lv_iconst (v := (nI 1)) hx hb dX11_all_75 (by decide) ?_
      refine lv_goto (tgt := 80) hx hb dX11_all_76 (by decide) ?_
      exact ck_iret hx hb hrt hlk ⟨fd, lo2_2, bk2_3⟩ (ckRd_ok (by simp [alF, hsw]) (by rw [alR, if_neg (by decide), if_neg (by decide), if_neg (by decide), if_pos rfl, cz_7]; rfl)) (hP.sub [1, 0, 2, 3] rfl) (hD.sub [1, 0, 2, 3] (by decide) rfl) hS ⟨Nat.le_of_ble_eq_true rfl, Nat.le_of_ble_eq_true rfl⟩ dX11_all_80
    · refine lv_tableIn (tgt := 81) (off := 80) hx hb dX11_all_1 (by decide) (by decide) rfl (by decide) ?_
      refine lv_aload_n hx hb dX11_all_81 rfl (lv_at hl 0 rfl) ?_
      refine va_get (ci := 11) (v := .int fd) (C := RX11) (T := TX11) (N := 17) hx hb hg inX11 hown hE.1 hP 0 rfl rfl 4 (by decide) (hg _ k4_14) (fun _ h9 => h9) rfl dX11_all_82 ?_
      exact ck_iret hx hb hrt hlk ⟨fd, lo, bk⟩ (ckRd_ok (by simp [alF, hsw]) (by rw [alR, if_neg (by decide), if_neg (by decide), if_neg (by decide), if_neg (by decide)])) hP hD hS ⟨Nat.le_of_ble_eq_true rfl, Nat.le_of_ble_eq_true rfl⟩ dX11_all_85
  · refine lv_tableOut (tgt := 86) hx hb dX11_all_1 (by have hz := mt ckIn_iff.mpr hsw; rw [nI_toInt (by decide), nI_toInt (by decide)] at hz; omega) (by decide) ?_
    refine lv_aload_n hx hb dX11_all_86 rfl (lv_at hl 0 rfl) ?_
    refine lv_ldc (own := RX11) (v := (-100001)) hx hb hown (hg _ k4_81) dX11_all_87 ?_
    refine ck_Vi (As := [.int (-100001)]) (rest := []) (wr := [(an, .inl (N.2 0, 572, .inl nw)), (al, .inl (N.2 0, 25, .inl lo)), (aw, .inl (N.2 0, 1500, .inl bk))]) C0 hP hD hS (c_X11_finds l N mm an ak ab az as_ ae ao ar aw al am af ac ke kn fd mn (-100001) ) myX11_finds k4_67 ⟨Nat.le_of_ble_eq_true rfl, Nat.le_of_ble_eq_true rfl⟩ [0] [1, 2, 3] ⟨⟨rfl, rfl⟩, by decide, by decide, by decide⟩ 0 rfl rfl rfl rfl hl.1 rfl (Nat.le_of_ble_eq_true rfl) dX11_all_89 ⟨Nat.le_of_ble_eq_true rfl, Nat.le_of_ble_eq_true rfl⟩ (fun r_8 u0 H locs hw0 hP hD hS => ?_)
    have hw_9 : r_8 = (-100001) := hw0
    subst hw_9
    have hP : va_P N.1 vwCl [(an, .inl (N.2 0, 572, .inl nw)), (al, .inl (N.2 0, 25, .inl lo)), (aw, .inl (N.2 0, 1500, .inl bk)), (mm, .inr (11, [.ref an, .ref ak, .int (nI ke), .int (nI kn), .int (fd + nI 1), .ref ab, .ref az, .ref as_, .ref ae, .ref ao, .ref ar, .ref aw, .ref al, .ref am, .int (nI mn), .ref af, .ref ac]))] H := hP
    have hD : va_D Ag [(an, .inl (N.2 0, 572, .inl nw)), (al, .inl (N.2 0, 25, .inl lo)), (aw, .inl (N.2 0, 1500, .inl bk)), (mm, .inr (11, [.ref an, .ref ak, .int (nI ke), .int (nI kn), .int (fd + nI 1), .ref ab, .ref az, .ref as_, .ref ae, .ref ao, .ref ar, .ref aw, .ref al, .ref am, .int (nI mn), .ref af, .ref ac]))] := hD
    exact ck_iret hx hb hrt hlk ⟨(fd + nI 1), lo, bk⟩ (ckRd_f (by simp [alF, hsw]) (by decide)) (hP.sub [3, 0, 1, 2] rfl) (hD.sub [3, 0, 1, 2] (by decide) rfl) hS ⟨Nat.le_of_ble_eq_true rfl, Nat.le_of_ble_eq_true rfl⟩ dX11_all_92
