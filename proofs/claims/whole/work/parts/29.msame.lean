/-! the model's sheets of walks -/
theorem first_good {n : Nat} (hn : n ≤ 5) : ckGood n first0 := fun p hp => ⟨(show Red [p] from ⟨fun y h => absurd h (by intro z; cases z), trivial⟩), fun x hx => by
  have hx : x ∈ [p] := hx
  rw [List.mem_singleton] at hx
  omega, Nat.le_of_ble_eq_true rfl⟩
theorem mB_copy {lo bk : Nat → Int32} {n b : Nat} {w : Nat → List Nat} (h : mB lo bk 1 n w) (hn : n ≤ 5) : mB (guT lo (5 * b) (fun q => lo (5 + q)) n) (guT bk (300 * b) (fun q => bk (300 + q)) 300) b n w :=
  ckWd_congr h (fun p hp => (show guT lo (5 * b) (fun q => lo (5 + q)) n (5 * b + p) = lo (5 * 1 + p) from (guT_in (by omega)).trans (congrArg lo (by omega)))) (fun p k hp hk => (show guT bk (300 * b) (fun q => bk (300 + q)) 300 (300 * b + (p * 60 + k)) = bk (300 * 1 + (p * 60 + k)) from (guT_in (by omega)).trans (congrArg bk (by omega))))
set_option maxHeartbeats 4000000 in
set_option maxRecDepth 100000 in
/-- X11_tellsWalks -/
theorem c_X11_tellsWalks (l : Launch) (N : ckN) (mm : Nat) (an : Nat) (ak : Nat) (ab : Nat) (az : Nat) (as_ : Nat) (ae : Nat) (ao : Nat) (ar : Nat) (aw : Nat) (al : Nat) (am : Nat) (af : Nat) (ac : Nat) (ke : Nat) (kn : Nat) (fd : Int32) (mn : Nat) (sz : Nat → Int32) (st : Nat → Int32) (s1 : Nat) (ct1 : Nat) (nu1 : Nat → Int32) (n : Nat) (hs1 : s1 < 4) (hsz1 : sz s1 = nI ct1) (hst1 : ∀ k, k < ct1 → st (40 * s1 + k) = nu1 k) (hc1 : ct1 ≤ 40) (hn2 : 2 ≤ n) (hn : n ≤ 5) : ckI l yX11_tellsWalks cX11_tellsWalks 4 (some FieldType.boolean) { frames := 3, cells := 0, slots := 0, locals := 82 } N [.ref mm, .int (nI n), .int (nI s1)] [(mm, .inr (11, [.ref an, .ref ak, .int (nI ke), .int (nI kn), .int fd, .ref ab, .ref az, .ref as_, .ref ae, .ref ao, .ref ar, .ref aw, .ref al, .ref am, .int (nI mn), .ref af, .ref ac])), (az, .inl (N.2 0, 4, .inl sz)), (as_, .inl (N.2 0, 160, .inl st))] (fun (r : Int32) (u : Unit) => r = (b2i (ckWithin nu1 ct1 (2 * (n - 1) - 1)))) (fun (u : Unit) => [(mm, .inr (11, [.ref an, .ref ak, .int (nI ke), .int (nI kn), .int fd, .ref ab, .ref az, .ref as_, .ref ae, .ref ao, .ref ar, .ref aw, .ref al, .ref am, .int (nI mn), .ref af, .ref ac])), (az, .inl (N.2 0, 4, .inl sz)), (as_, .inl (N.2 0, 160, .inl st))]) := by
  refine ckI.of (by decide) (Nat.le_of_ble_eq_true rfl) ?_
  intro pg eg sg mg blw mth cg Ag ls hx hb hrt hml hown hlk hin hg hE hA hP hD hS hl
  have hown : sg.vm.findClass RX11 = some mg.cls := hown
  have hl : lv_has ls 4 [(0, .ref mm), (1, .int (nI n)), (2, .int (nI s1))] := hl
  have C0 : ckC pg sg mg ([.ref mm, .int (nI n), .int (nI s1)]).toArray cg cX11_tellsWalks 4 RX11 N Ag := ⟨⟨hx, hb, hml, hown, hg⟩, hE, hA⟩
  generalize hHe : sg.heap = H at hP
  have hS : va_S Ag sg.heap H [] := hHe ▸ hS
  refine lv_iconst (v := (nI 0)) hx hb dX11_tellsWalks_0 (by decide) ?_
  refine lv_istore_n (lv' := [(3, .int (nI 0)), (0, .ref mm), (1, .int (nI n)), (2, .int (nI s1))]) hx hb dX11_tellsWalks_1 rfl hl (by decide) rfl (fun ls hl => ?_)
  have lp_2 : ∀ (dz : Nat) (k : Nat) (hdz : ct1 - k = dz) (hk : k ≤ ct1) (hwi : ∀ q, q < k → ckIn (nu1 q) (nI 0) (nI (2 * (n - 1) - 1)) = true) (H : Heap) (locs : List Loc) (ls : Array Slot), va_P N.1 vwCl [(mm, .inr (11, [.ref an, .ref ak, .int (nI ke), .int (nI kn), .int fd, .ref ab, .ref az, .ref as_, .ref ae, .ref ao, .ref ar, .ref aw, .ref al, .ref am, .int (nI mn), .ref af, .ref ac])), (az, .inl (N.2 0, 4, .inl sz)), (as_, .inl (N.2 0, 160, .inl st))] H → va_D Ag [(mm, .inr (11, [.ref an, .ref ak, .int (nI ke), .int (nI kn), .int fd, .ref ab, .ref az, .ref as_, .ref ae, .ref ao, .ref ar, .ref aw, .ref al, .ref am, .int (nI mn), .ref af, .ref ac])), (az, .inl (N.2 0, 4, .inl sz)), (as_, .inl (N.2 0, 160, .inl st))] → va_S Ag sg.heap H locs → lv_has ls 4 [(3, .int (nI k)), (0, .ref mm), (1, .int (nI n)), (2, .int (nI s1))] → W pg l eg { frames := 3, cells := 0, slots := 0, locals := 82 } sg mg ([.ref mm, .int (nI n), .int (nI s1)]).toArray blw mth cg H locs 0 0 (ckQi N Ag blw sg ([.ref mm, .int (nI n), .int (nI s1)]).toArray { frames := 3, cells := 0, slots := 0, locals := 82 } (fun (r : Int32) (u : Unit) => r = (b2i (ckWithin nu1 ct1 (2 * (n - 1) - 1)))) (fun (u : Unit) => [(mm, .inr (11, [.ref an, .ref ak, .int (nI ke), .int (nI kn), .int fd, .ref ab, .ref az, .ref as_, .ref ae, .ref ao, .ref ar, .ref aw, .ref al, .ref am, .int (nI mn), .ref af, .ref ac])), (az, .inl (N.2 0, 4, .inl sz)), (as_, .inl (N.2 0, 160, .inl st))])) (F0 mg 2 ls []) := by
    intro dz
    induction dz using Nat.strongRecOn with
    | _ dz ih_2 =>
      intro k hdz hk hwi H locs ls hP hD hS hl
      subst hdz
      refine lv_iload_n hx hb dX11_tellsWalks_2 rfl (lv_at hl 0 rfl) ?_
      refine lv_aload_n hx hb dX11_tellsWalks_3 rfl (lv_at hl 1 rfl) ?_
      refine va_get (ci := 11) (v := .ref az) (C := RX11) (T := TX11) (N := 17) hx hb hg inX11 hown hE.1 hP 0 rfl rfl 6 (by decide) (hg _ k4_16) (fun _ h9 => h9) rfl dX11_tellsWalks_4 ?_
      refine lv_iload_n hx hb dX11_tellsWalks_7 rfl (lv_at hl 3 rfl) ?_
      refine ck_iald hx hb hE hP 1 rfl (by omega) (by decide) dX11_tellsWalks_8 ?_
      refine ck_top (y := (nI ct1)) hsz1 ?_
      refine ck_ic_ge (tgt := 45) hx hb dX11_tellsWalks_9 (by decide) (by omega) (by omega) (fun cz_1 => ?_) (fun cz_1 => ?_)
      · refine lv_iconst (v := (nI 1)) hx hb dX11_tellsWalks_45 (by decide) ?_
        refine ck_top (y := (b2i true)) (by decide) ?_
        exact ck_zret (b := true) hx hb hrt hlk () (congrArg b2i (Eq.symm (decide_eq_true (fun q hq => hwi q (by omega))))) hP hD hS ⟨Nat.le_of_ble_eq_true rfl, Nat.le_of_ble_eq_true rfl⟩ dX11_tellsWalks_46
      refine lv_aload_n hx hb dX11_tellsWalks_12 rfl (lv_at hl 1 rfl) ?_
      refine va_get (ci := 11) (v := .ref as_) (C := RX11) (T := TX11) (N := 17) hx hb hg inX11 hown hE.1 hP 0 rfl rfl 7 (by decide) (hg _ k4_17) (fun _ h9 => h9) rfl dX11_tellsWalks_13 ?_
      refine lv_bipush (v := (nI 40)) hx hb dX11_tellsWalks_16 (by decide) ?_
      refine lv_iload_n hx hb dX11_tellsWalks_18 rfl (lv_at hl 3 rfl) ?_
      refine lv_imul hx hb dX11_tellsWalks_19 ?_
      refine ck_top (y := (nI (40 * s1))) (pk_mul _ _) ?_
      refine lv_iload_n hx hb dX11_tellsWalks_20 rfl (lv_at hl 0 rfl) ?_
      refine lv_iadd hx hb dX11_tellsWalks_21 ?_
      refine ck_top (y := (nI (40 * s1 + k))) (nI_add _ _) ?_
      refine ck_iald hx hb hE hP 2 rfl (by omega) (by decide) dX11_tellsWalks_22 ?_
      refine ck_top (y := (nu1 k)) (hst1 k (by omega)) ?_
      refine lv_iconst (v := (nI 0)) hx hb dX11_tellsWalks_23 (by decide) ?_
      refine lv_iconst (v := (nI 2)) hx hb dX11_tellsWalks_24 (by decide) ?_
      refine lv_iload_n hx hb dX11_tellsWalks_25 rfl (lv_at hl 2 rfl) ?_
      refine lv_iconst (v := (nI 1)) hx hb dX11_tellsWalks_26 (by decide) ?_
      refine lv_isub hx hb dX11_tellsWalks_27 ?_
      refine ck_top (y := (nI (n - 1))) (pk_sub (by omega)) ?_
      refine lv_imul hx hb dX11_tellsWalks_28 ?_
      refine ck_top (y := (nI (2 * (n - 1)))) (pk_mul _ _) ?_
      refine lv_iconst (v := (nI 1)) hx hb dX11_tellsWalks_29 (by decide) ?_
      refine lv_isub hx hb dX11_tellsWalks_30 ?_
      refine ck_top (y := (nI (2 * (n - 1) - 1))) (pk_sub (by omega)) ?_
      refine ck_Si (As := [.int (nu1 k), .int (nI 0), .int (nI (2 * (n - 1) - 1))]) (rest := []) (wr := [(mm, .inr (11, [.ref an, .ref ak, .int (nI ke), .int (nI kn), .int fd, .ref ab, .ref az, .ref as_, .ref ae, .ref ao, .ref ar, .ref aw, .ref al, .ref am, .int (nI mn), .ref af, .ref ac])), (az, .inl (N.2 0, 4, .inl sz)), (as_, .inl (N.2 0, 160, .inl st))]) C0 hP hD hS (c_X11_in l N (nu1 k) (nI 0) (nI (2 * (n - 1) - 1)) ) myX11_in k4_75 ⟨Nat.le_of_ble_eq_true rfl, Nat.le_of_ble_eq_true rfl⟩ [] [0, 1, 2] ⟨⟨rfl, rfl⟩, by decide, by decide, by decide⟩ rfl hl.1 rfl (Nat.le_of_ble_eq_true rfl) dX11_tellsWalks_31 ⟨Nat.le_of_ble_eq_true rfl, Nat.le_of_ble_eq_true rfl⟩ (fun r_2 u0 H locs hw0 hP hD hS => ?_)
      have hw_3 : r_2 = (b2i (ckIn (nu1 k) (nI 0) (nI (2 * (n - 1) - 1)))) := hw0
      subst hw_3
      have hP : va_P N.1 vwCl [(mm, .inr (11, [.ref an, .ref ak, .int (nI ke), .int (nI kn), .int fd, .ref ab, .ref az, .ref as_, .ref ae, .ref ao, .ref ar, .ref aw, .ref al, .ref am, .int (nI mn), .ref af, .ref ac])), (az, .inl (N.2 0, 4, .inl sz)), (as_, .inl (N.2 0, 160, .inl st))] H := hP
      have hD : va_D Ag [(mm, .inr (11, [.ref an, .ref ak, .int (nI ke), .int (nI kn), .int fd, .ref ab, .ref az, .ref as_, .ref ae, .ref ao, .ref ar, .ref aw, .ref al, .ref am, .int (nI mn), .ref af, .ref ac])), (az, .inl (N.2 0, 4, .inl sz)), (as_, .inl (N.2 0, 160, .inl st))] := hD
      refine ck_ifne (b := ckIn (nu1 k) (nI 0) (nI (2 * (n - 1) - 1))) (tgt := 39) hx hb dX11_tellsWalks_34 (by decide) (fun cz_4 => ?_) (fun cz_4 => ?_)
      · refine lv_iinc (v := (nI (k + 1))) (lv' := [(3, .int (nI (k + 1))), (0, .ref mm), (1, .int (nI n)), (2, .int (nI s1))]) hx hb dX11_tellsWalks_39 hl (k := 0) rfl (nI_1 _) (by decide) rfl (fun ls hl => ?_)
        refine lv_goto (tgt := 2) hx hb dX11_tellsWalks_42 (by decide) ?_
        exact ih_2 _ (by omega) (k + 1) rfl (by omega) (lt_s hwi cz_4) _ _ ls hP hD hS hl
      refine lv_iconst (v := (nI 0)) hx hb dX11_tellsWalks_37 (by decide) ?_
      refine ck_top (y := (b2i false)) (by decide) ?_
      exact ck_zret (b := false) hx hb hrt hlk () (congrArg b2i (Eq.symm (decide_eq_false (fun hh => absurd ((hh k (by omega)).symm.trans cz_4) (by decide))))) hP hD hS ⟨Nat.le_of_ble_eq_true rfl, Nat.le_of_ble_eq_true rfl⟩ dX11_tellsWalks_38
  exact lp_2 _ 0 rfl (by omega) (fun q hq => absurd hq (Nat.not_lt_zero q)) _ _ ls hP hD hS hl
set_option maxHeartbeats 4000000 in
set_option maxRecDepth 100000 in
/-- X11_does -/
theorem c_X11_does (l : Launch) (N : ckN) (mm : Nat) (an : Nat) (ak : Nat) (ab : Nat) (az : Nat) (as_ : Nat) (ae : Nat) (ao : Nat) (ar : Nat) (aw : Nat) (al : Nat) (am : Nat) (af : Nat) (ac : Nat) (ke : Nat) (kn : Nat) (fd : Int32) (mn : Nat) (sz : Nat → Int32) (st : Nat → Int32) (lo : Nat → Int32) (bk : Nat → Int32) (md : Nat → Int32) (s1 : Nat) (ct1 : Nat) (nu1 : Nat → Int32) (n : Nat) (b : Nat) (hs1 : s1 < 4) (hsz1 : sz s1 = nI ct1) (hst1 : ∀ k, k < ct1 → st (40 * s1 + k) = nu1 k) (hc1 : ct1 ≤ 40) (hn2 : 2 ≤ n) (hn : n ≤ 5) (hb5 : b < 5) (hb1 : b ≠ 1) (hnu : ∀ k, k < ct1 → nu1 k = nI (ix (nu1 k)) ∧ ix (nu1 k) ≤ 2 * (n - 1) - 1) : ckI l yX11_does cX11_does 7 (some FieldType.boolean) { frames := 6, cells := 0, slots := 0, locals := 153 } N [.ref mm, .int (nI n), .int (nI s1), .int (nI b)] [(mm, .inr (11, [.ref an, .ref ak, .int (nI ke), .int (nI kn), .int fd, .ref ab, .ref az, .ref as_, .ref ae, .ref ao, .ref ar, .ref aw, .ref al, .ref am, .int (nI mn), .ref af, .ref ac])), (az, .inl (N.2 0, 4, .inl sz)), (as_, .inl (N.2 0, 160, .inl st)), (al, .inl (N.2 0, 25, .inl lo)), (aw, .inl (N.2 0, 1500, .inl bk)), (am, .inl (N.2 0, 200, .inl md))] (fun (r : Int32) (u : (Nat → Int32) × (Nat → Int32) × (Nat → Int32) × Nat) => (r = (b2i ((folK nu1 ct1).isSome))) ∧ ((∀ wz, folK nu1 ct1 = some wz → mB u.1 u.2.1 b n wz) ∧ (∀ j, ¬ (5 * b ≤ j ∧ j < 5 * b + 5) → ¬ (5 ≤ j ∧ j < 10) → u.1 j = lo j) ∧ (∀ j, ¬ (300 * b ≤ j ∧ j < 300 * b + 300) → ¬ (300 ≤ j ∧ j < 600) → u.2.1 j = bk j))) (fun (u : (Nat → Int32) × (Nat → Int32) × (Nat → Int32) × Nat) => [(mm, .inr (11, [.ref an, .ref ak, .int (nI ke), .int (nI kn), .int fd, .ref ab, .ref az, .ref as_, .ref ae, .ref ao, .ref ar, .ref aw, .ref al, .ref am, .int (nI u.2.2.2), .ref af, .ref ac])), (az, .inl (N.2 0, 4, .inl sz)), (as_, .inl (N.2 0, 160, .inl st)), (al, .inl (N.2 0, 25, .inl u.1)), (aw, .inl (N.2 0, 1500, .inl u.2.1)), (am, .inl (N.2 0, 200, .inl u.2.2.1))]) := by
  refine ckI.of (by decide) (Nat.le_of_ble_eq_true rfl) ?_
  intro pg eg sg mg blw mth cg Ag ls hx hb hrt hml hown hlk hin hg hE hA hP hD hS hl
  have hown : sg.vm.findClass RX11 = some mg.cls := hown
  have hl : lv_has ls 7 [(0, .ref mm), (1, .int (nI n)), (2, .int (nI s1)), (3, .int (nI b))] := hl
  have C0 : ckC pg sg mg ([.ref mm, .int (nI n), .int (nI s1), .int (nI b)]).toArray cg cX11_does 7 RX11 N Ag := ⟨⟨hx, hb, hml, hown, hg⟩, hE, hA⟩
  generalize hHe : sg.heap = H at hP
  have hS : va_S Ag sg.heap H [] := hHe ▸ hS
  refine lv_aload_n hx hb dX11_does_0 rfl (lv_at hl 0 rfl) ?_
  refine lv_iload_n hx hb dX11_does_1 rfl (lv_at hl 3 rfl) ?_
  refine ck_Vv (As := [.int (nI b)]) (rest := []) (wr := [(az, .inl (N.2 0, 4, .inl sz)), (as_, .inl (N.2 0, 160, .inl st)), (am, .inl (N.2 0, 200, .inl md))]) C0 hP hD hS (c_X11_firstWords l N mm an ak ab az as_ ae ao ar aw al am af ac ke kn fd mn lo bk b (by omega)) myX11_firstWords k4_2 ⟨Nat.le_of_ble_eq_true rfl, Nat.le_of_ble_eq_true rfl⟩ [0, 3, 4] [1, 2, 5] ⟨⟨rfl, rfl⟩, by decide, by decide, by decide⟩ 0 rfl rfl rfl rfl hl.1 rfl (Nat.le_of_ble_eq_true rfl) dX11_does_2 ⟨Nat.le_of_ble_eq_true rfl, Nat.le_of_ble_eq_true rfl⟩ (fun u0 H locs hw0 hP hD hS => ?_)
  obtain ⟨lo2_2, bk2_3⟩ := u0
  have hw_4 : mB lo2_2 bk2_3 b 5 first0 ∧ (∀ j, ¬ (5 * b ≤ j ∧ j < 5 * b + 5) → lo2_2 j = lo j) ∧ (∀ j, ¬ (300 * b ≤ j ∧ j < 300 * b + 300) → bk2_3 j = bk j) := hw0
  have hP : va_P N.1 vwCl [(az, .inl (N.2 0, 4, .inl sz)), (as_, .inl (N.2 0, 160, .inl st)), (am, .inl (N.2 0, 200, .inl md)), (mm, .inr (11, [.ref an, .ref ak, .int (nI ke), .int (nI kn), .int fd, .ref ab, .ref az, .ref as_, .ref ae, .ref ao, .ref ar, .ref aw, .ref al, .ref am, .int (nI mn), .ref af, .ref ac])), (al, .inl (N.2 0, 25, .inl lo2_2)), (aw, .inl (N.2 0, 1500, .inl bk2_3))] H := hP
  have hD : va_D Ag [(az, .inl (N.2 0, 4, .inl sz)), (as_, .inl (N.2 0, 160, .inl st)), (am, .inl (N.2 0, 200, .inl md)), (mm, .inr (11, [.ref an, .ref ak, .int (nI ke), .int (nI kn), .int fd, .ref ab, .ref az, .ref as_, .ref ae, .ref ao, .ref ar, .ref aw, .ref al, .ref am, .int (nI mn), .ref af, .ref ac])), (al, .inl (N.2 0, 25, .inl lo2_2)), (aw, .inl (N.2 0, 1500, .inl bk2_3))] := hD
  obtain ⟨hfw, hfl, hfb⟩ := hw_4
  refine lv_iconst (v := (nI 0)) hx hb dX11_does_5 (by decide) ?_
  refine lv_istore (lv' := [(4, .int (nI 0)), (0, .ref mm), (1, .int (nI n)), (2, .int (nI s1)), (3, .int (nI b))]) hx hb dX11_does_6 hl (by decide) rfl (fun ls hl => ?_)
  have lp_8 : ∀ (dz : Nat) (k : Nat) (w1 : Nat → List Nat) (lo1 : Nat → Int32) (bk1 : Nat → Int32) (md1 : Nat → Int32) (mn1 : Nat) (hdz : ct1 - k = dz) (hk : k ≤ ct1) (hfo : folK nu1 k = some w1) (hB1 : mB lo1 bk1 b n w1) (hgd : ckGood n w1) (hol : (∀ j, ¬ (5 * b ≤ j ∧ j < 5 * b + 5) → ¬ (5 ≤ j ∧ j < 10) → lo1 j = lo j)) (hob : (∀ j, ¬ (300 * b ≤ j ∧ j < 300 * b + 300) → ¬ (300 ≤ j ∧ j < 600) → bk1 j = bk j)) (H : Heap) (locs : List Loc) (ls : Array Slot), va_P N.1 vwCl [(mm, .inr (11, [.ref an, .ref ak, .int (nI ke), .int (nI kn), .int fd, .ref ab, .ref az, .ref as_, .ref ae, .ref ao, .ref ar, .ref aw, .ref al, .ref am, .int (nI mn1), .ref af, .ref ac])), (az, .inl (N.2 0, 4, .inl sz)), (as_, .inl (N.2 0, 160, .inl st)), (al, .inl (N.2 0, 25, .inl lo1)), (aw, .inl (N.2 0, 1500, .inl bk1)), (am, .inl (N.2 0, 200, .inl md1))] H → va_D Ag [(mm, .inr (11, [.ref an, .ref ak, .int (nI ke), .int (nI kn), .int fd, .ref ab, .ref az, .ref as_, .ref ae, .ref ao, .ref ar, .ref aw, .ref al, .ref am, .int (nI mn1), .ref af, .ref ac])), (az, .inl (N.2 0, 4, .inl sz)), (as_, .inl (N.2 0, 160, .inl st)), (al, .inl (N.2 0, 25, .inl lo1)), (aw, .inl (N.2 0, 1500, .inl bk1)), (am, .inl (N.2 0, 200, .inl md1))] → va_S Ag sg.heap H locs → lv_has ls 7 [(4, .int (nI k)), (0, .ref mm), (1, .int (nI n)), (2, .int (nI s1)), (3, .int (nI b))] → W pg l eg { frames := 6, cells := 0, slots := 0, locals := 153 } sg mg ([.ref mm, .int (nI n), .int (nI s1), .int (nI b)]).toArray blw mth cg H locs 0 0 (ckQi N Ag blw sg ([.ref mm, .int (nI n), .int (nI s1), .int (nI b)]).toArray { frames := 6, cells := 0, slots := 0, locals := 153 } (fun (r : Int32) (u : (Nat → Int32) × (Nat → Int32) × (Nat → Int32) × Nat) => (r = (b2i ((folK nu1 ct1).isSome))) ∧ ((∀ wz, folK nu1 ct1 = some wz → mB u.1 u.2.1 b n wz) ∧ (∀ j, ¬ (5 * b ≤ j ∧ j < 5 * b + 5) → ¬ (5 ≤ j ∧ j < 10) → u.1 j = lo j) ∧ (∀ j, ¬ (300 * b ≤ j ∧ j < 300 * b + 300) → ¬ (300 ≤ j ∧ j < 600) → u.2.1 j = bk j))) (fun (u : (Nat → Int32) × (Nat → Int32) × (Nat → Int32) × Nat) => [(mm, .inr (11, [.ref an, .ref ak, .int (nI ke), .int (nI kn), .int fd, .ref ab, .ref az, .ref as_, .ref ae, .ref ao, .ref ar, .ref aw, .ref al, .ref am, .int (nI u.2.2.2), .ref af, .ref ac])), (az, .inl (N.2 0, 4, .inl sz)), (as_, .inl (N.2 0, 160, .inl st)), (al, .inl (N.2 0, 25, .inl u.1)), (aw, .inl (N.2 0, 1500, .inl u.2.1)), (am, .inl (N.2 0, 200, .inl u.2.2.1))])) (F0 mg 8 ls []) := by
    intro dz
    induction dz using Nat.strongRecOn with
    | _ dz ih_8 =>
      intro k w1 lo1 bk1 md1 mn1 hdz hk hfo hB1 hgd hol hob H locs ls hP hD hS hl
      subst hdz
      refine lv_iload hx hb dX11_does_8 (lv_at hl 0 rfl) ?_
      refine lv_aload_n hx hb dX11_does_10 rfl (lv_at hl 1 rfl) ?_
      refine va_get (ci := 11) (v := .ref az) (C := RX11) (T := TX11) (N := 17) hx hb hg inX11 hown hE.1 hP 0 rfl rfl 6 (by decide) (hg _ k4_16) (fun _ h9 => h9) rfl dX11_does_11 ?_
      refine lv_iload_n hx hb dX11_does_14 rfl (lv_at hl 3 rfl) ?_
      refine ck_iald hx hb hE hP 1 rfl (by omega) (by decide) dX11_does_15 ?_
      refine ck_top (y := (nI ct1)) hsz1 ?_
      refine ck_ic_ge (tgt := 143) hx hb dX11_does_16 (by decide) (by omega) (by omega) (fun cz_5 => ?_) (fun cz_5 => ?_)
      · refine lv_iconst (v := (nI 1)) hx hb dX11_does_143 (by decide) ?_
        refine ck_top (y := (b2i true)) (by decide) ?_
        exact ck_zret (b := true) hx hb hrt hlk ⟨lo1, bk1, md1, mn1⟩ (by have e : k = ct1 := (by omega); subst e; exact ⟨congrArg b2i (by rw [hfo]; rfl), fun u hu => (by rw [hfo] at hu; cases hu; exact hB1), hol, hob⟩) hP hD hS ⟨Nat.le_of_ble_eq_true rfl, Nat.le_of_ble_eq_true rfl⟩ dX11_does_144
      have hq := (hnu k (by omega)).2
      refine lv_aload_n hx hb dX11_does_19 rfl (lv_at hl 1 rfl) ?_
      refine va_get (ci := 11) (v := .ref as_) (C := RX11) (T := TX11) (N := 17) hx hb hg inX11 hown hE.1 hP 0 rfl rfl 7 (by decide) (hg _ k4_17) (fun _ h9 => h9) rfl dX11_does_20 ?_
      refine lv_bipush (v := (nI 40)) hx hb dX11_does_23 (by decide) ?_
      refine lv_iload_n hx hb dX11_does_25 rfl (lv_at hl 3 rfl) ?_
      refine lv_imul hx hb dX11_does_26 ?_
      refine ck_top (y := (nI (40 * s1))) (pk_mul _ _) ?_
      refine lv_iload hx hb dX11_does_27 (lv_at hl 0 rfl) ?_
      refine lv_iadd hx hb dX11_does_29 ?_
      refine ck_top (y := (nI (40 * s1 + k))) (nI_add _ _) ?_
      refine ck_iald hx hb hE hP 2 rfl (by omega) (by decide) dX11_does_30 ?_
      refine ck_top (y := (nI (ix (nu1 k)))) ((hst1 k (by omega)).trans (hnu k (by omega)).1) ?_
      refine lv_istore (lv' := [(5, .int (nI (ix (nu1 k)))), (4, .int (nI k)), (0, .ref mm), (1, .int (nI n)), (2, .int (nI s1)), (3, .int (nI b))]) hx hb dX11_does_31 hl (by decide) rfl (fun ls hl => ?_)
      refine lv_aload_n hx hb dX11_does_33 rfl (lv_at hl 2 rfl) ?_
      refine lv_iload_n hx hb dX11_does_34 rfl (lv_at hl 5 rfl) ?_
      refine lv_iconst (v := (nI 1)) hx hb dX11_does_35 (by decide) ?_
      refine lv_iload_n hx hb dX11_does_36 rfl (lv_at hl 3 rfl) ?_
      refine lv_iload hx hb dX11_does_37 (lv_at hl 0 rfl) ?_
      refine lv_iconst (v := (nI 2)) hx hb dX11_does_39 (by decide) ?_
      refine lv_idiv hx hb dX11_does_40 (by decide) ?_
      refine ck_top (y := (nI ((ix (nu1 k)) / 2))) (pk_div (by omega) (by omega) (by omega)) ?_
      refine lv_iload hx hb dX11_does_41 (lv_at hl 0 rfl) ?_
      refine lv_iconst (v := (nI 2)) hx hb dX11_does_43 (by decide) ?_
      refine lv_irem hx hb dX11_does_44 (by decide) ?_
      refine ck_top (y := (nI ((ix (nu1 k)) % 2))) (pk_rem (by omega) (by omega) (by omega)) ?_
      refine ck_if0_ne (tgt := 52) hx hb dX11_does_45 (by decide) (by omega) (fun cz_6 => ?_) (fun cz_6 => ?_)
      · have hfr : decide (ix (nu1 k) % 2 = 0) = false := decide_eq_false (by omega)
        refine lv_iconst (v := (nI 0)) hx hb dX11_does_52 (by decide) ?_
        refine ck_Vi (As := [.int (nI b), .int (nI 1), .int (nI n), .int (nI ((ix (nu1 k)) / 2)), .int (b2i false)]) (rest := []) (wr := [(az, .inl (N.2 0, 4, .inl sz)), (as_, .inl (N.2 0, 160, .inl st))]) C0 hP hD hS (c_X11_walks l N mm an ak ab az as_ ae ao ar aw al am af ac ke kn fd mn1 lo1 bk1 md1 w1 b 1 n ((ix (nu1 k)) / 2) false hB1 hgd (by omega) (by omega) (by omega) (by omega) (by omega)) myX11_walks k4_191 ⟨Nat.le_of_ble_eq_true rfl, Nat.le_of_ble_eq_true rfl⟩ [0, 3, 4, 5] [1, 2] ⟨⟨rfl, rfl⟩, by decide, by decide, by decide⟩ 0 rfl rfl rfl rfl hl.1 rfl (Nat.le_of_ble_eq_true rfl) dX11_does_53 ⟨Nat.le_of_ble_eq_true rfl, Nat.le_of_ble_eq_true rfl⟩ (fun r_7 u0 H locs hw0 hP hD hS => ?_)
        obtain ⟨lo_w, bk_w, md_w, mn_w⟩ := u0
        have hw_8 : (r_7 = (b2i (ckOk w1 ((ix (nu1 k)) / 2) false))) ∧ ((ckOk w1 ((ix (nu1 k)) / 2) false = true → mB lo_w bk_w 1 n (ckStep w1 ((ix (nu1 k)) / 2) false)) ∧ (∀ j, ¬ (5 * 1 ≤ j ∧ j < 5 * 1 + 5) → lo_w j = lo1 j) ∧ (∀ j, ¬ (300 * 1 ≤ j ∧ j < 300 * 1 + 300) → bk_w j = bk1 j)) := hw0
        obtain ⟨hv_9, hw_8⟩ := hw_8
        subst hv_9
        have hP : va_P N.1 vwCl [(az, .inl (N.2 0, 4, .inl sz)), (as_, .inl (N.2 0, 160, .inl st)), (mm, .inr (11, [.ref an, .ref ak, .int (nI ke), .int (nI kn), .int fd, .ref ab, .ref az, .ref as_, .ref ae, .ref ao, .ref ar, .ref aw, .ref al, .ref am, .int (nI mn_w), .ref af, .ref ac])), (al, .inl (N.2 0, 25, .inl lo_w)), (aw, .inl (N.2 0, 1500, .inl bk_w)), (am, .inl (N.2 0, 200, .inl md_w))] H := hP
        have hD : va_D Ag [(az, .inl (N.2 0, 4, .inl sz)), (as_, .inl (N.2 0, 160, .inl st)), (mm, .inr (11, [.ref an, .ref ak, .int (nI ke), .int (nI kn), .int fd, .ref ab, .ref az, .ref as_, .ref ae, .ref ao, .ref ar, .ref aw, .ref al, .ref am, .int (nI mn_w), .ref af, .ref ac])), (al, .inl (N.2 0, 25, .inl lo_w)), (aw, .inl (N.2 0, 1500, .inl bk_w)), (am, .inl (N.2 0, 200, .inl md_w))] := hD
        obtain ⟨hwk, hol1, hob1⟩ := hw_8
        refine ck_ifne (b := ckOk w1 ((ix (nu1 k)) / 2) false) (tgt := 61) hx hb dX11_does_56 (by decide) (fun cz_10 => ?_) (fun cz_10 => ?_)
        · have hok := cz_10
          have hst := hwk hok
          refine lv_iconst (v := (nI 0)) hx hb dX11_does_61 (by decide) ?_
          refine lv_istore (lv' := [(6, .int (nI 0)), (5, .int (nI (ix (nu1 k)))), (4, .int (nI k)), (0, .ref mm), (1, .int (nI n)), (2, .int (nI s1)), (3, .int (nI b))]) hx hb dX11_does_62 hl (by decide) rfl (fun ls hl => ?_)
          have lp_64 : ∀ (dz : Nat) (p : Nat) (lo3 : Nat → Int32) (hdz : n - p = dz) (hp : p ≤ n) (hl3 : lo3 = guT lo_w (5 * b) (fun q => lo_w (5 + q)) p) (H : Heap) (locs : List Loc) (ls : Array Slot), va_P N.1 vwCl [(mm, .inr (11, [.ref an, .ref ak, .int (nI ke), .int (nI kn), .int fd, .ref ab, .ref az, .ref as_, .ref ae, .ref ao, .ref ar, .ref aw, .ref al, .ref am, .int (nI mn_w), .ref af, .ref ac])), (az, .inl (N.2 0, 4, .inl sz)), (as_, .inl (N.2 0, 160, .inl st)), (al, .inl (N.2 0, 25, .inl lo3)), (aw, .inl (N.2 0, 1500, .inl bk_w)), (am, .inl (N.2 0, 200, .inl md_w))] H → va_D Ag [(mm, .inr (11, [.ref an, .ref ak, .int (nI ke), .int (nI kn), .int fd, .ref ab, .ref az, .ref as_, .ref ae, .ref ao, .ref ar, .ref aw, .ref al, .ref am, .int (nI mn_w), .ref af, .ref ac])), (az, .inl (N.2 0, 4, .inl sz)), (as_, .inl (N.2 0, 160, .inl st)), (al, .inl (N.2 0, 25, .inl lo3)), (aw, .inl (N.2 0, 1500, .inl bk_w)), (am, .inl (N.2 0, 200, .inl md_w))] → va_S Ag sg.heap H locs → lv_has ls 7 [(6, .int (nI p)), (5, .int (nI (ix (nu1 k)))), (4, .int (nI k)), (0, .ref mm), (1, .int (nI n)), (2, .int (nI s1)), (3, .int (nI b))] → W pg l eg { frames := 6, cells := 0, slots := 0, locals := 153 } sg mg ([.ref mm, .int (nI n), .int (nI s1), .int (nI b)]).toArray blw mth cg H locs 0 0 (ckQi N Ag blw sg ([.ref mm, .int (nI n), .int (nI s1), .int (nI b)]).toArray { frames := 6, cells := 0, slots := 0, locals := 153 } (fun (r : Int32) (u : (Nat → Int32) × (Nat → Int32) × (Nat → Int32) × Nat) => (r = (b2i ((folK nu1 ct1).isSome))) ∧ ((∀ wz, folK nu1 ct1 = some wz → mB u.1 u.2.1 b n wz) ∧ (∀ j, ¬ (5 * b ≤ j ∧ j < 5 * b + 5) → ¬ (5 ≤ j ∧ j < 10) → u.1 j = lo j) ∧ (∀ j, ¬ (300 * b ≤ j ∧ j < 300 * b + 300) → ¬ (300 ≤ j ∧ j < 600) → u.2.1 j = bk j))) (fun (u : (Nat → Int32) × (Nat → Int32) × (Nat → Int32) × Nat) => [(mm, .inr (11, [.ref an, .ref ak, .int (nI ke), .int (nI kn), .int fd, .ref ab, .ref az, .ref as_, .ref ae, .ref ao, .ref ar, .ref aw, .ref al, .ref am, .int (nI u.2.2.2), .ref af, .ref ac])), (az, .inl (N.2 0, 4, .inl sz)), (as_, .inl (N.2 0, 160, .inl st)), (al, .inl (N.2 0, 25, .inl u.1)), (aw, .inl (N.2 0, 1500, .inl u.2.1)), (am, .inl (N.2 0, 200, .inl u.2.2.1))])) (F0 mg 64 ls []) := by
            intro dz
            induction dz using Nat.strongRecOn with
            | _ dz ih_64 =>
              intro p lo3 hdz hp hl3 H locs ls hP hD hS hl
              subst hdz
              refine lv_iload hx hb dX11_does_64 (lv_at hl 0 rfl) ?_
              refine lv_iload_n hx hb dX11_does_66 rfl (lv_at hl 4 rfl) ?_
              refine ck_ic_ge (tgt := 96) hx hb dX11_does_67 (by decide) (by omega) (by omega) (fun cz_11 => ?_) (fun cz_11 => ?_)
              · refine lv_iconst (v := (nI 0)) hx hb dX11_does_96 (by decide) ?_
                refine lv_istore (lv' := [(6, .int (nI 0)), (5, .int (nI (ix (nu1 k)))), (4, .int (nI k)), (0, .ref mm), (1, .int (nI n)), (2, .int (nI s1)), (3, .int (nI b))]) hx hb dX11_does_97 hl (by decide) rfl (fun ls hl => ?_)
                have lp_99 : ∀ (dz : Nat) (i : Nat) (bk3 : Nat → Int32) (hdz : 300 - i = dz) (hi : i ≤ 300) (hb3 : bk3 = guT bk_w (300 * b) (fun q => bk_w (300 + q)) i) (H : Heap) (locs : List Loc) (ls : Array Slot), va_P N.1 vwCl [(mm, .inr (11, [.ref an, .ref ak, .int (nI ke), .int (nI kn), .int fd, .ref ab, .ref az, .ref as_, .ref ae, .ref ao, .ref ar, .ref aw, .ref al, .ref am, .int (nI mn_w), .ref af, .ref ac])), (az, .inl (N.2 0, 4, .inl sz)), (as_, .inl (N.2 0, 160, .inl st)), (al, .inl (N.2 0, 25, .inl lo3)), (aw, .inl (N.2 0, 1500, .inl bk3)), (am, .inl (N.2 0, 200, .inl md_w))] H → va_D Ag [(mm, .inr (11, [.ref an, .ref ak, .int (nI ke), .int (nI kn), .int fd, .ref ab, .ref az, .ref as_, .ref ae, .ref ao, .ref ar, .ref aw, .ref al, .ref am, .int (nI mn_w), .ref af, .ref ac])), (az, .inl (N.2 0, 4, .inl sz)), (as_, .inl (N.2 0, 160, .inl st)), (al, .inl (N.2 0, 25, .inl lo3)), (aw, .inl (N.2 0, 1500, .inl bk3)), (am, .inl (N.2 0, 200, .inl md_w))] → va_S Ag sg.heap H locs → lv_has ls 7 [(6, .int (nI i)), (5, .int (nI (ix (nu1 k)))), (4, .int (nI k)), (0, .ref mm), (1, .int (nI n)), (2, .int (nI s1)), (3, .int (nI b))] → W pg l eg { frames := 6, cells := 0, slots := 0, locals := 153 } sg mg ([.ref mm, .int (nI n), .int (nI s1), .int (nI b)]).toArray blw mth cg H locs 0 0 (ckQi N Ag blw sg ([.ref mm, .int (nI n), .int (nI s1), .int (nI b)]).toArray { frames := 6, cells := 0, slots := 0, locals := 153 } (fun (r : Int32) (u : (Nat → Int32) × (Nat → Int32) × (Nat → Int32) × Nat) => (r = (b2i ((folK nu1 ct1).isSome))) ∧ ((∀ wz, folK nu1 ct1 = some wz → mB u.1 u.2.1 b n wz) ∧ (∀ j, ¬ (5 * b ≤ j ∧ j < 5 * b + 5) → ¬ (5 ≤ j ∧ j < 10) → u.1 j = lo j) ∧ (∀ j, ¬ (300 * b ≤ j ∧ j < 300 * b + 300) → ¬ (300 ≤ j ∧ j < 600) → u.2.1 j = bk j))) (fun (u : (Nat → Int32) × (Nat → Int32) × (Nat → Int32) × Nat) => [(mm, .inr (11, [.ref an, .ref ak, .int (nI ke), .int (nI kn), .int fd, .ref ab, .ref az, .ref as_, .ref ae, .ref ao, .ref ar, .ref aw, .ref al, .ref am, .int (nI u.2.2.2), .ref af, .ref ac])), (az, .inl (N.2 0, 4, .inl sz)), (as_, .inl (N.2 0, 160, .inl st)), (al, .inl (N.2 0, 25, .inl u.1)), (aw, .inl (N.2 0, 1500, .inl u.2.1)), (am, .inl (N.2 0, 200, .inl u.2.2.1))])) (F0 mg 99 ls []) := by
                  intro dz
                  induction dz using Nat.strongRecOn with
                  | _ dz ih_99 =>
                    intro i bk3 hdz hi hb3 H locs ls hP hD hS hl
                    subst hdz
                    refine lv_iload hx hb dX11_does_99 (lv_at hl 0 rfl) ?_
                    refine lv_sipush (v := (nI 300)) hx hb dX11_does_101 (by decide) ?_
                    refine ck_ic_ge (tgt := 137) hx hb dX11_does_104 (by decide) (by omega) (by omega) (fun cz_12 => ?_) (fun cz_12 => ?_)
                    · refine lv_iinc (v := (nI (k + 1))) (lv' := [(4, .int (nI (k + 1))), (6, .int (nI i)), (5, .int (nI (ix (nu1 k)))), (0, .ref mm), (1, .int (nI n)), (2, .int (nI s1)), (3, .int (nI b))]) hx hb dX11_does_137 hl (k := 2) rfl (nI_1 _) (by decide) rfl (fun ls hl => ?_)
                      refine lv_goto (tgt := 8) hx hb dX11_does_140 (by decide) ?_
                      exact ih_8 _ (by omega) (k + 1) (ckStep w1 (ix (nu1 k) / 2) false) lo3 bk3 md_w mn_w rfl (by omega) (by rw [folK, hfo]; show (if ckOk w1 (ix (nu1 k) / 2) (decide (ix (nu1 k) % 2 = 0)) = true then _ else _) = _; rw [hfr, if_pos hok]) (by rw [hl3, hb3, (show p = n by omega), (show i = 300 by omega)]; exact mB_copy hst hn) (ckStep_good hgd (show ix (nu1 k) / 2 + 1 < n by omega) hok) (fun j h1 h2 => by rw [hl3]; exact (guT_out (by omega)).trans ((hol1 j (by omega)).trans (hol j h1 h2))) (fun j h1 h2 => by rw [hb3]; exact (guT_out (by omega)).trans ((hob1 j (by omega)).trans (hob j h1 h2))) _ _ ls hP hD hS (lv_sub hl [0, 3, 4, 5, 6] rfl)
                    refine lv_aload_n hx hb dX11_does_107 rfl (lv_at hl 3 rfl) ?_
                    refine va_get (ci := 11) (v := .ref aw) (C := RX11) (T := TX11) (N := 17) hx hb hg inX11 hown hE.1 hP 0 rfl rfl 11 (by decide) (hg _ k4_21) (fun _ h9 => h9) rfl dX11_does_108 ?_
                    refine lv_sipush (v := (nI 300)) hx hb dX11_does_111 (by decide) ?_
                    refine lv_iload_n hx hb dX11_does_114 rfl (lv_at hl 6 rfl) ?_
                    refine lv_imul hx hb dX11_does_115 ?_
                    refine ck_top (y := (nI (300 * b))) (pk_mul _ _) ?_
                    refine lv_iload hx hb dX11_does_116 (lv_at hl 0 rfl) ?_
                    refine lv_iadd hx hb dX11_does_118 ?_
                    refine ck_top (y := (nI (300 * b + i))) (nI_add _ _) ?_
                    refine lv_aload_n hx hb dX11_does_119 rfl (lv_at hl 3 rfl) ?_
                    refine va_get (ci := 11) (v := .ref aw) (C := RX11) (T := TX11) (N := 17) hx hb hg inX11 hown hE.1 hP 0 rfl rfl 11 (by decide) (hg _ k4_21) (fun _ h9 => h9) rfl dX11_does_120 ?_
                    refine lv_sipush (v := (nI 300)) hx hb dX11_does_123 (by decide) ?_
                    refine lv_iload hx hb dX11_does_126 (lv_at hl 0 rfl) ?_
                    refine lv_iadd hx hb dX11_does_128 ?_
                    refine ck_top (y := (nI (300 + i))) (nI_add _ _) ?_
                    refine ck_iald hx hb hE hP 4 rfl (by omega) (by decide) dX11_does_129 ?_
                    refine ck_iast hx hb hE hP hD hS 4 rfl (by omega) (by decide) dX11_does_130 (ws1 := [(mm, .inr (11, [.ref an, .ref ak, .int (nI ke), .int (nI kn), .int fd, .ref ab, .ref az, .ref as_, .ref ae, .ref ao, .ref ar, .ref aw, .ref al, .ref am, .int (nI mn_w), .ref af, .ref ac])), (az, .inl (N.2 0, 4, .inl sz)), (as_, .inl (N.2 0, 160, .inl st)), (al, .inl (N.2 0, 25, .inl lo3)), (aw, .inl (N.2 0, 1500, .inl (upd bk3 (300 * b + i) (bk3 (300 + i))))), (am, .inl (N.2 0, 200, .inl md_w))]) rfl (fun H locs hP hD hS => ?_)
                    refine lv_iinc (v := (nI (i + 1))) (lv' := [(6, .int (nI (i + 1))), (5, .int (nI (ix (nu1 k)))), (4, .int (nI k)), (0, .ref mm), (1, .int (nI n)), (2, .int (nI s1)), (3, .int (nI b))]) hx hb dX11_does_131 hl (k := 0) rfl (nI_1 _) (by decide) rfl (fun ls hl => ?_)
                    refine lv_goto (tgt := 99) hx hb dX11_does_134 (by decide) ?_
                    exact ih_99 _ (by omega) (i + 1) (upd bk3 (300 * b + i) (bk3 (300 + i))) rfl (by omega) (by rw [hb3]; exact (congrArg (upd _ _) (guT_out (by omega))).trans (guT_s bk_w (300 * b) (fun q => bk_w (300 + q)) i)) _ _ ls hP hD hS hl
                exact lp_99 _ 0 bk_w rfl (by omega) (guT_0 _ _ _).symm _ _ ls hP hD hS hl
              refine lv_aload_n hx hb dX11_does_70 rfl (lv_at hl 3 rfl) ?_
              refine va_get (ci := 11) (v := .ref al) (C := RX11) (T := TX11) (N := 17) hx hb hg inX11 hown hE.1 hP 0 rfl rfl 12 (by decide) (hg _ k4_22) (fun _ h9 => h9) rfl dX11_does_71 ?_
              refine lv_iconst (v := (nI 5)) hx hb dX11_does_74 (by decide) ?_
              refine lv_iload_n hx hb dX11_does_75 rfl (lv_at hl 6 rfl) ?_
              refine lv_imul hx hb dX11_does_76 ?_
              refine ck_top (y := (nI (5 * b))) (pk_mul _ _) ?_
              refine lv_iload hx hb dX11_does_77 (lv_at hl 0 rfl) ?_
              refine lv_iadd hx hb dX11_does_79 ?_
              refine ck_top (y := (nI (5 * b + p))) (nI_add _ _) ?_
              refine lv_aload_n hx hb dX11_does_80 rfl (lv_at hl 3 rfl) ?_
              refine va_get (ci := 11) (v := .ref al) (C := RX11) (T := TX11) (N := 17) hx hb hg inX11 hown hE.1 hP 0 rfl rfl 12 (by decide) (hg _ k4_22) (fun _ h9 => h9) rfl dX11_does_81 ?_
              refine lv_iconst (v := (nI 5)) hx hb dX11_does_84 (by decide) ?_
              refine lv_iload hx hb dX11_does_85 (lv_at hl 0 rfl) ?_
              refine lv_iadd hx hb dX11_does_87 ?_
              refine ck_top (y := (nI (5 + p))) (nI_add _ _) ?_
              refine ck_iald hx hb hE hP 3 rfl (by omega) (by decide) dX11_does_88 ?_
              refine ck_iast hx hb hE hP hD hS 3 rfl (by omega) (by decide) dX11_does_89 (ws1 := [(mm, .inr (11, [.ref an, .ref ak, .int (nI ke), .int (nI kn), .int fd, .ref ab, .ref az, .ref as_, .ref ae, .ref ao, .ref ar, .ref aw, .ref al, .ref am, .int (nI mn_w), .ref af, .ref ac])), (az, .inl (N.2 0, 4, .inl sz)), (as_, .inl (N.2 0, 160, .inl st)), (al, .inl (N.2 0, 25, .inl (upd lo3 (5 * b + p) (lo3 (5 + p))))), (aw, .inl (N.2 0, 1500, .inl bk_w)), (am, .inl (N.2 0, 200, .inl md_w))]) rfl (fun H locs hP hD hS => ?_)
              refine lv_iinc (v := (nI (p + 1))) (lv' := [(6, .int (nI (p + 1))), (5, .int (nI (ix (nu1 k)))), (4, .int (nI k)), (0, .ref mm), (1, .int (nI n)), (2, .int (nI s1)), (3, .int (nI b))]) hx hb dX11_does_90 hl (k := 0) rfl (nI_1 _) (by decide) rfl (fun ls hl => ?_)
              refine lv_goto (tgt := 64) hx hb dX11_does_93 (by decide) ?_
              exact ih_64 _ (by omega) (p + 1) (upd lo3 (5 * b + p) (lo3 (5 + p))) rfl (by omega) (by rw [hl3]; exact (congrArg (upd _ _) (guT_out (by omega))).trans (guT_s lo_w (5 * b) (fun q => lo_w (5 + q)) p)) _ _ ls hP hD hS hl
          exact lp_64 _ 0 lo_w rfl (by omega) (guT_0 _ _ _).symm _ _ ls (hP.sub [2, 0, 1, 3, 4, 5] rfl) (hD.sub [2, 0, 1, 3, 4, 5] (by decide) rfl) hS hl
        refine lv_iconst (v := (nI 0)) hx hb dX11_does_59 (by decide) ?_
        refine ck_top (y := (b2i false)) (by decide) ?_
        exact ck_zret (b := false) hx hb hrt hlk ⟨lo_w, bk_w, md_w, mn_w⟩ (by have e : folK nu1 ct1 = none := folK_none (k := k + 1) (by rw [folK, hfo]; exact if_neg (by rw [hfr, cz_10]; decide)) (by omega); exact ⟨congrArg b2i (by rw [e]; rfl), fun u hu => (by rw [e] at hu; cases hu), fun j h1 h2 => (hol1 j (by omega)).trans (hol j h1 h2), fun j h1 h2 => (hob1 j (by omega)).trans (hob j h1 h2)⟩) (hP.sub [2, 0, 1, 3, 4, 5] rfl) (hD.sub [2, 0, 1, 3, 4, 5] (by decide) rfl) hS ⟨Nat.le_of_ble_eq_true rfl, Nat.le_of_ble_eq_true rfl⟩ dX11_does_60
      have hfr : decide (ix (nu1 k) % 2 = 0) = true := decide_eq_true (by omega)
      refine lv_iconst (v := (nI 1)) hx hb dX11_does_48 (by decide) ?_
      refine lv_goto (tgt := 53) hx hb dX11_does_49 (by decide) ?_
      refine ck_Vi (As := [.int (nI b), .int (nI 1), .int (nI n), .int (nI ((ix (nu1 k)) / 2)), .int (b2i true)]) (rest := []) (wr := [(az, .inl (N.2 0, 4, .inl sz)), (as_, .inl (N.2 0, 160, .inl st))]) C0 hP hD hS (c_X11_walks l N mm an ak ab az as_ ae ao ar aw al am af ac ke kn fd mn1 lo1 bk1 md1 w1 b 1 n ((ix (nu1 k)) / 2) true hB1 hgd (by omega) (by omega) (by omega) (by omega) (by omega)) myX11_walks k4_191 ⟨Nat.le_of_ble_eq_true rfl, Nat.le_of_ble_eq_true rfl⟩ [0, 3, 4, 5] [1, 2] ⟨⟨rfl, rfl⟩, by decide, by decide, by decide⟩ 0 rfl rfl rfl rfl hl.1 rfl (Nat.le_of_ble_eq_true rfl) dX11_does_53 ⟨Nat.le_of_ble_eq_true rfl, Nat.le_of_ble_eq_true rfl⟩ (fun r_13 u0 H locs hw0 hP hD hS => ?_)
      obtain ⟨lo_w, bk_w, md_w, mn_w⟩ := u0
      have hw_14 : (r_13 = (b2i (ckOk w1 ((ix (nu1 k)) / 2) true))) ∧ ((ckOk w1 ((ix (nu1 k)) / 2) true = true → mB lo_w bk_w 1 n (ckStep w1 ((ix (nu1 k)) / 2) true)) ∧ (∀ j, ¬ (5 * 1 ≤ j ∧ j < 5 * 1 + 5) → lo_w j = lo1 j) ∧ (∀ j, ¬ (300 * 1 ≤ j ∧ j < 300 * 1 + 300) → bk_w j = bk1 j)) := hw0
      obtain ⟨hv_15, hw_14⟩ := hw_14
      subst hv_15
      have hP : va_P N.1 vwCl [(az, .inl (N.2 0, 4, .inl sz)), (as_, .inl (N.2 0, 160, .inl st)), (mm, .inr (11, [.ref an, .ref ak, .int (nI ke), .int (nI kn), .int fd, .ref ab, .ref az, .ref as_, .ref ae, .ref ao, .ref ar, .ref aw, .ref al, .ref am, .int (nI mn_w), .ref af, .ref ac])), (al, .inl (N.2 0, 25, .inl lo_w)), (aw, .inl (N.2 0, 1500, .inl bk_w)), (am, .inl (N.2 0, 200, .inl md_w))] H := hP
      have hD : va_D Ag [(az, .inl (N.2 0, 4, .inl sz)), (as_, .inl (N.2 0, 160, .inl st)), (mm, .inr (11, [.ref an, .ref ak, .int (nI ke), .int (nI kn), .int fd, .ref ab, .ref az, .ref as_, .ref ae, .ref ao, .ref ar, .ref aw, .ref al, .ref am, .int (nI mn_w), .ref af, .ref ac])), (al, .inl (N.2 0, 25, .inl lo_w)), (aw, .inl (N.2 0, 1500, .inl bk_w)), (am, .inl (N.2 0, 200, .inl md_w))] := hD
      obtain ⟨hwk, hol1, hob1⟩ := hw_14
      refine ck_ifne (b := ckOk w1 ((ix (nu1 k)) / 2) true) (tgt := 61) hx hb dX11_does_56 (by decide) (fun cz_16 => ?_) (fun cz_16 => ?_)
      · have hok := cz_16
        have hst := hwk hok
        refine lv_iconst (v := (nI 0)) hx hb dX11_does_61 (by decide) ?_
        refine lv_istore (lv' := [(6, .int (nI 0)), (5, .int (nI (ix (nu1 k)))), (4, .int (nI k)), (0, .ref mm), (1, .int (nI n)), (2, .int (nI s1)), (3, .int (nI b))]) hx hb dX11_does_62 hl (by decide) rfl (fun ls hl => ?_)
        have lp_64 : ∀ (dz : Nat) (p : Nat) (lo3 : Nat → Int32) (hdz : n - p = dz) (hp : p ≤ n) (hl3 : lo3 = guT lo_w (5 * b) (fun q => lo_w (5 + q)) p) (H : Heap) (locs : List Loc) (ls : Array Slot), va_P N.1 vwCl [(mm, .inr (11, [.ref an, .ref ak, .int (nI ke), .int (nI kn), .int fd, .ref ab, .ref az, .ref as_, .ref ae, .ref ao, .ref ar, .ref aw, .ref al, .ref am, .int (nI mn_w), .ref af, .ref ac])), (az, .inl (N.2 0, 4, .inl sz)), (as_, .inl (N.2 0, 160, .inl st)), (al, .inl (N.2 0, 25, .inl lo3)), (aw, .inl (N.2 0, 1500, .inl bk_w)), (am, .inl (N.2 0, 200, .inl md_w))] H → va_D Ag [(mm, .inr (11, [.ref an, .ref ak, .int (nI ke), .int (nI kn), .int fd, .ref ab, .ref az, .ref as_, .ref ae, .ref ao, .ref ar, .ref aw, .ref al, .ref am, .int (nI mn_w), .ref af, .ref ac])), (az, .inl (N.2 0, 4, .inl sz)), (as_, .inl (N.2 0, 160, .inl st)), (al, .inl (N.2 0, 25, .inl lo3)), (aw, .inl (N.2 0, 1500, .inl bk_w)), (am, .inl (N.2 0, 200, .inl md_w))] → va_S Ag sg.heap H locs → lv_has ls 7 [(6, .int (nI p)), (5, .int (nI (ix (nu1 k)))), (4, .int (nI k)), (0, .ref mm), (1, .int (nI n)), (2, .int (nI s1)), (3, .int (nI b))] → W pg l eg { frames := 6, cells := 0, slots := 0, locals := 153 } sg mg ([.ref mm, .int (nI n), .int (nI s1), .int (nI b)]).toArray blw mth cg H locs 0 0 (ckQi N Ag blw sg ([.ref mm, .int (nI n), .int (nI s1), .int (nI b)]).toArray { frames := 6, cells := 0, slots := 0, locals := 153 } (fun (r : Int32) (u : (Nat → Int32) × (Nat → Int32) × (Nat → Int32) × Nat) => (r = (b2i ((folK nu1 ct1).isSome))) ∧ ((∀ wz, folK nu1 ct1 = some wz → mB u.1 u.2.1 b n wz) ∧ (∀ j, ¬ (5 * b ≤ j ∧ j < 5 * b + 5) → ¬ (5 ≤ j ∧ j < 10) → u.1 j = lo j) ∧ (∀ j, ¬ (300 * b ≤ j ∧ j < 300 * b + 300) → ¬ (300 ≤ j ∧ j < 600) → u.2.1 j = bk j))) (fun (u : (Nat → Int32) × (Nat → Int32) × (Nat → Int32) × Nat) => [(mm, .inr (11, [.ref an, .ref ak, .int (nI ke), .int (nI kn), .int fd, .ref ab, .ref az, .ref as_, .ref ae, .ref ao, .ref ar, .ref aw, .ref al, .ref am, .int (nI u.2.2.2), .ref af, .ref ac])), (az, .inl (N.2 0, 4, .inl sz)), (as_, .inl (N.2 0, 160, .inl st)), (al, .inl (N.2 0, 25, .inl u.1)), (aw, .inl (N.2 0, 1500, .inl u.2.1)), (am, .inl (N.2 0, 200, .inl u.2.2.1))])) (F0 mg 64 ls []) := by
          intro dz
          induction dz using Nat.strongRecOn with
          | _ dz ih_64 =>
            intro p lo3 hdz hp hl3 H locs ls hP hD hS hl
            subst hdz
            refine lv_iload hx hb dX11_does_64 (lv_at hl 0 rfl) ?_
            refine lv_iload_n hx hb dX11_does_66 rfl (lv_at hl 4 rfl) ?_
            refine ck_ic_ge (tgt := 96) hx hb dX11_does_67 (by decide) (by omega) (by omega) (fun cz_17 => ?_) (fun cz_17 => ?_)
            · refine lv_iconst (v := (nI 0)) hx hb dX11_does_96 (by decide) ?_
              refine lv_istore (lv' := [(6, .int (nI 0)), (5, .int (nI (ix (nu1 k)))), (4, .int (nI k)), (0, .ref mm), (1, .int (nI n)), (2, .int (nI s1)), (3, .int (nI b))]) hx hb dX11_does_97 hl (by decide) rfl (fun ls hl => ?_)
              have lp_99 : ∀ (dz : Nat) (i : Nat) (bk3 : Nat → Int32) (hdz : 300 - i = dz) (hi : i ≤ 300) (hb3 : bk3 = guT bk_w (300 * b) (fun q => bk_w (300 + q)) i) (H : Heap) (locs : List Loc) (ls : Array Slot), va_P N.1 vwCl [(mm, .inr (11, [.ref an, .ref ak, .int (nI ke), .int (nI kn), .int fd, .ref ab, .ref az, .ref as_, .ref ae, .ref ao, .ref ar, .ref aw, .ref al, .ref am, .int (nI mn_w), .ref af, .ref ac])), (az, .inl (N.2 0, 4, .inl sz)), (as_, .inl (N.2 0, 160, .inl st)), (al, .inl (N.2 0, 25, .inl lo3)), (aw, .inl (N.2 0, 1500, .inl bk3)), (am, .inl (N.2 0, 200, .inl md_w))] H → va_D Ag [(mm, .inr (11, [.ref an, .ref ak, .int (nI ke), .int (nI kn), .int fd, .ref ab, .ref az, .ref as_, .ref ae, .ref ao, .ref ar, .ref aw, .ref al, .ref am, .int (nI mn_w), .ref af, .ref ac])), (az, .inl (N.2 0, 4, .inl sz)), (as_, .inl (N.2 0, 160, .inl st)), (al, .inl (N.2 0, 25, .inl lo3)), (aw, .inl (N.2 0, 1500, .inl bk3)), (am, .inl (N.2 0, 200, .inl md_w))] → va_S Ag sg.heap H locs → lv_has ls 7 [(6, .int (nI i)), (5, .int (nI (ix (nu1 k)))), (4, .int (nI k)), (0, .ref mm), (1, .int (nI n)), (2, .int (nI s1)), (3, .int (nI b))] → W pg l eg { frames := 6, cells := 0, slots := 0, locals := 153 } sg mg ([.ref mm, .int (nI n), .int (nI s1), .int (nI b)]).toArray blw mth cg H locs 0 0 (ckQi N Ag blw sg ([.ref mm, .int (nI n), .int (nI s1), .int (nI b)]).toArray { frames := 6, cells := 0, slots := 0, locals := 153 } (fun (r : Int32) (u : (Nat → Int32) × (Nat → Int32) × (Nat → Int32) × Nat) => (r = (b2i ((folK nu1 ct1).isSome))) ∧ ((∀ wz, folK nu1 ct1 = some wz → mB u.1 u.2.1 b n wz) ∧ (∀ j, ¬ (5 * b ≤ j ∧ j < 5 * b + 5) → ¬ (5 ≤ j ∧ j < 10) → u.1 j = lo j) ∧ (∀ j, ¬ (300 * b ≤ j ∧ j < 300 * b + 300) → ¬ (300 ≤ j ∧ j < 600) → u.2.1 j = bk j))) (fun (u : (Nat → Int32) × (Nat → Int32) × (Nat → Int32) × Nat) => [(mm, .inr (11, [.ref an, .ref ak, .int (nI ke), .int (nI kn), .int fd, .ref ab, .ref az, .ref as_, .ref ae, .ref ao, .ref ar, .ref aw, .ref al, .ref am, .int (nI u.2.2.2), .ref af, .ref ac])), (az, .inl (N.2 0, 4, .inl sz)), (as_, .inl (N.2 0, 160, .inl st)), (al, .inl (N.2 0, 25, .inl u.1)), (aw, .inl (N.2 0, 1500, .inl u.2.1)), (am, .inl (N.2 0, 200, .inl u.2.2.1))])) (F0 mg 99 ls []) := by
                intro dz
                induction dz using Nat.strongRecOn with
                | _ dz ih_99 =>
                  intro i bk3 hdz hi hb3 H locs ls hP hD hS hl
                  subst hdz
                  refine lv_iload hx hb dX11_does_99 (lv_at hl 0 rfl) ?_
                  refine lv_sipush (v := (nI 300)) hx hb dX11_does_101 (by decide) ?_
                  refine ck_ic_ge (tgt := 137) hx hb dX11_does_104 (by decide) (by omega) (by omega) (fun cz_18 => ?_) (fun cz_18 => ?_)
                  · refine lv_iinc (v := (nI (k + 1))) (lv' := [(4, .int (nI (k + 1))), (6, .int (nI i)), (5, .int (nI (ix (nu1 k)))), (0, .ref mm), (1, .int (nI n)), (2, .int (nI s1)), (3, .int (nI b))]) hx hb dX11_does_137 hl (k := 2) rfl (nI_1 _) (by decide) rfl (fun ls hl => ?_)
                    refine lv_goto (tgt := 8) hx hb dX11_does_140 (by decide) ?_
                    exact ih_8 _ (by omega) (k + 1) (ckStep w1 (ix (nu1 k) / 2) true) lo3 bk3 md_w mn_w rfl (by omega) (by rw [folK, hfo]; show (if ckOk w1 (ix (nu1 k) / 2) (decide (ix (nu1 k) % 2 = 0)) = true then _ else _) = _; rw [hfr, if_pos hok]) (by rw [hl3, hb3, (show p = n by omega), (show i = 300 by omega)]; exact mB_copy hst hn) (ckStep_good hgd (show ix (nu1 k) / 2 + 1 < n by omega) hok) (fun j h1 h2 => by rw [hl3]; exact (guT_out (by omega)).trans ((hol1 j (by omega)).trans (hol j h1 h2))) (fun j h1 h2 => by rw [hb3]; exact (guT_out (by omega)).trans ((hob1 j (by omega)).trans (hob j h1 h2))) _ _ ls hP hD hS (lv_sub hl [0, 3, 4, 5, 6] rfl)
                  refine lv_aload_n hx hb dX11_does_107 rfl (lv_at hl 3 rfl) ?_
                  refine va_get (ci := 11) (v := .ref aw) (C := RX11) (T := TX11) (N := 17) hx hb hg inX11 hown hE.1 hP 0 rfl rfl 11 (by decide) (hg _ k4_21) (fun _ h9 => h9) rfl dX11_does_108 ?_
                  refine lv_sipush (v := (nI 300)) hx hb dX11_does_111 (by decide) ?_
                  refine lv_iload_n hx hb dX11_does_114 rfl (lv_at hl 6 rfl) ?_
                  refine lv_imul hx hb dX11_does_115 ?_
                  refine ck_top (y := (nI (300 * b))) (pk_mul _ _) ?_
                  refine lv_iload hx hb dX11_does_116 (lv_at hl 0 rfl) ?_
                  refine lv_iadd hx hb dX11_does_118 ?_
                  refine ck_top (y := (nI (300 * b + i))) (nI_add _ _) ?_
                  refine lv_aload_n hx hb dX11_does_119 rfl (lv_at hl 3 rfl) ?_
                  refine va_get (ci := 11) (v := .ref aw) (C := RX11) (T := TX11) (N := 17) hx hb hg inX11 hown hE.1 hP 0 rfl rfl 11 (by decide) (hg _ k4_21) (fun _ h9 => h9) rfl dX11_does_120 ?_
                  refine lv_sipush (v := (nI 300)) hx hb dX11_does_123 (by decide) ?_
                  refine lv_iload hx hb dX11_does_126 (lv_at hl 0 rfl) ?_
                  refine lv_iadd hx hb dX11_does_128 ?_
                  refine ck_top (y := (nI (300 + i))) (nI_add _ _) ?_
                  refine ck_iald hx hb hE hP 4 rfl (by omega) (by decide) dX11_does_129 ?_
                  refine ck_iast hx hb hE hP hD hS 4 rfl (by omega) (by decide) dX11_does_130 (ws1 := [(mm, .inr (11, [.ref an, .ref ak, .int (nI ke), .int (nI kn), .int fd, .ref ab, .ref az, .ref as_, .ref ae, .ref ao, .ref ar, .ref aw, .ref al, .ref am, .int (nI mn_w), .ref af, .ref ac])), (az, .inl (N.2 0, 4, .inl sz)), (as_, .inl (N.2 0, 160, .inl st)), (al, .inl (N.2 0, 25, .inl lo3)), (aw, .inl (N.2 0, 1500, .inl (upd bk3 (300 * b + i) (bk3 (300 + i))))), (am, .inl (N.2 0, 200, .inl md_w))]) rfl (fun H locs hP hD hS => ?_)
                  refine lv_iinc (v := (nI (i + 1))) (lv' := [(6, .int (nI (i + 1))), (5, .int (nI (ix (nu1 k)))), (4, .int (nI k)), (0, .ref mm), (1, .int (nI n)), (2, .int (nI s1)), (3, .int (nI b))]) hx hb dX11_does_131 hl (k := 0) rfl (nI_1 _) (by decide) rfl (fun ls hl => ?_)
                  refine lv_goto (tgt := 99) hx hb dX11_does_134 (by decide) ?_
                  exact ih_99 _ (by omega) (i + 1) (upd bk3 (300 * b + i) (bk3 (300 + i))) rfl (by omega) (by rw [hb3]; exact (congrArg (upd _ _) (guT_out (by omega))).trans (guT_s bk_w (300 * b) (fun q => bk_w (300 + q)) i)) _ _ ls hP hD hS hl
              exact lp_99 _ 0 bk_w rfl (by omega) (guT_0 _ _ _).symm _ _ ls hP hD hS hl
            refine lv_aload_n hx hb dX11_does_70 rfl (lv_at hl 3 rfl) ?_
            refine va_get (ci := 11) (v := .ref al) (C := RX11) (T := TX11) (N := 17) hx hb hg inX11 hown hE.1 hP 0 rfl rfl 12 (by decide) (hg _ k4_22) (fun _ h9 => h9) rfl dX11_does_71 ?_
            refine lv_iconst (v := (nI 5)) hx hb dX11_does_74 (by decide) ?_
            refine lv_iload_n hx hb dX11_does_75 rfl (lv_at hl 6 rfl) ?_
            refine lv_imul hx hb dX11_does_76 ?_
            refine ck_top (y := (nI (5 * b))) (pk_mul _ _) ?_
            refine lv_iload hx hb dX11_does_77 (lv_at hl 0 rfl) ?_
            refine lv_iadd hx hb dX11_does_79 ?_
            refine ck_top (y := (nI (5 * b + p))) (nI_add _ _) ?_
            refine lv_aload_n hx hb dX11_does_80 rfl (lv_at hl 3 rfl) ?_
            refine va_get (ci := 11) (v := .ref al) (C := RX11) (T := TX11) (N := 17) hx hb hg inX11 hown hE.1 hP 0 rfl rfl 12 (by decide) (hg _ k4_22) (fun _ h9 => h9) rfl dX11_does_81 ?_
            refine lv_iconst (v := (nI 5)) hx hb dX11_does_84 (by decide) ?_
            refine lv_iload hx hb dX11_does_85 (lv_at hl 0 rfl) ?_
            refine lv_iadd hx hb dX11_does_87 ?_
            refine ck_top (y := (nI (5 + p))) (nI_add _ _) ?_
            refine ck_iald hx hb hE hP 3 rfl (by omega) (by decide) dX11_does_88 ?_
            refine ck_iast hx hb hE hP hD hS 3 rfl (by omega) (by decide) dX11_does_89 (ws1 := [(mm, .inr (11, [.ref an, .ref ak, .int (nI ke), .int (nI kn), .int fd, .ref ab, .ref az, .ref as_, .ref ae, .ref ao, .ref ar, .ref aw, .ref al, .ref am, .int (nI mn_w), .ref af, .ref ac])), (az, .inl (N.2 0, 4, .inl sz)), (as_, .inl (N.2 0, 160, .inl st)), (al, .inl (N.2 0, 25, .inl (upd lo3 (5 * b + p) (lo3 (5 + p))))), (aw, .inl (N.2 0, 1500, .inl bk_w)), (am, .inl (N.2 0, 200, .inl md_w))]) rfl (fun H locs hP hD hS => ?_)
            refine lv_iinc (v := (nI (p + 1))) (lv' := [(6, .int (nI (p + 1))), (5, .int (nI (ix (nu1 k)))), (4, .int (nI k)), (0, .ref mm), (1, .int (nI n)), (2, .int (nI s1)), (3, .int (nI b))]) hx hb dX11_does_90 hl (k := 0) rfl (nI_1 _) (by decide) rfl (fun ls hl => ?_)
            refine lv_goto (tgt := 64) hx hb dX11_does_93 (by decide) ?_
            exact ih_64 _ (by omega) (p + 1) (upd lo3 (5 * b + p) (lo3 (5 + p))) rfl (by omega) (by rw [hl3]; exact (congrArg (upd _ _) (guT_out (by omega))).trans (guT_s lo_w (5 * b) (fun q => lo_w (5 + q)) p)) _ _ ls hP hD hS hl
        exact lp_64 _ 0 lo_w rfl (by omega) (guT_0 _ _ _).symm _ _ ls (hP.sub [2, 0, 1, 3, 4, 5] rfl) (hD.sub [2, 0, 1, 3, 4, 5] (by decide) rfl) hS hl
      refine lv_iconst (v := (nI 0)) hx hb dX11_does_59 (by decide) ?_
      refine ck_top (y := (b2i false)) (by decide) ?_
      exact ck_zret (b := false) hx hb hrt hlk ⟨lo_w, bk_w, md_w, mn_w⟩ (by have e : folK nu1 ct1 = none := folK_none (k := k + 1) (by rw [folK, hfo]; exact if_neg (by rw [hfr, cz_16]; decide)) (by omega); exact ⟨congrArg b2i (by rw [e]; rfl), fun u hu => (by rw [e] at hu; cases hu), fun j h1 h2 => (hol1 j (by omega)).trans (hol j h1 h2), fun j h1 h2 => (hob1 j (by omega)).trans (hob j h1 h2)⟩) (hP.sub [2, 0, 1, 3, 4, 5] rfl) (hD.sub [2, 0, 1, 3, 4, 5] (by decide) rfl) hS ⟨Nat.le_of_ble_eq_true rfl, Nat.le_of_ble_eq_true rfl⟩ dX11_does_60
  exact lp_8 _ 0 first0 lo2_2 bk2_3 md mn rfl (by omega) rfl (fun p hp => hfw p (by omega)) (first_good hn) (fun j h1 h2 => hfl j h1) (fun j h1 h2 => hfb j h1) _ _ ls (hP.sub [3, 0, 1, 4, 5, 2] rfl) (hD.sub [3, 0, 1, 4, 5, 2] (by decide) rfl) hS hl
set_option maxHeartbeats 4000000 in
set_option maxRecDepth 100000 in
/-- X11_same -/
theorem c_X11_same_k (l : Launch) (N : ckN) (mm : Nat) (an : Nat) (ak : Nat) (ab : Nat) (az : Nat) (as_ : Nat) (ae : Nat) (ao : Nat) (ar : Nat) (aw : Nat) (al : Nat) (am : Nat) (af : Nat) (ac : Nat) (ke : Nat) (kn : Nat) (fd : Int32) (mn : Nat) (sb : Nat → Int32) (sz : Nat → Int32) (st : Nat → Int32) (lo : Nat → Int32) (bk : Nat → Int32) (md : Nat → Int32) (s1 : Nat) (ct1 : Nat) (nu1 : Nat → Int32) (s2 : Nat) (ct2 : Nat) (nu2 : Nat → Int32) (bt1 : Nat) (bt2 : Nat) (x : Int32) (hs1 : s1 < 4) (hsz1 : sz s1 = nI ct1) (hst1 : ∀ k, k < ct1 → st (40 * s1 + k) = nu1 k) (hc1 : ct1 ≤ 40) (hs2 : s2 < 4) (hsz2 : sz s2 = nI ct2) (hst2 : ∀ k, k < ct2 → st (40 * s2 + k) = nu2 k) (hc2 : ct2 ≤ 40) (hsb1 : sb s1 = nI bt1) (hsb2 : sb s2 = nI bt2) (hb1 : bt1 < 2 ^ 31) (hb2 : bt2 < 2 ^ 31) : ckI l yX11_same cX11_same 6 (some FieldType.int) { frames := 7, cells := 0, slots := 0, locals := 179 } N [.ref mm, .int x, .int (nI s1), .int (nI s2)] [(mm, .inr (11, [.ref an, .ref ak, .int (nI ke), .int (nI kn), .int fd, .ref ab, .ref az, .ref as_, .ref ae, .ref ao, .ref ar, .ref aw, .ref al, .ref am, .int (nI mn), .ref af, .ref ac])), (ab, .inl (N.2 0, 4, .inl sb)), (az, .inl (N.2 0, 4, .inl sz)), (as_, .inl (N.2 0, 160, .inl st)), (al, .inl (N.2 0, 25, .inl lo)), (aw, .inl (N.2 0, 1500, .inl bk)), (am, .inl (N.2 0, 200, .inl md))] (fun (r : Int32) (u : Int32 × (Nat → Int32) × (Nat → Int32) × (Nat → Int32) × Nat) => ckRd (saF bt1 bt2 ct1 ct2 nu1 nu2 x) (saR ct1 ct2 nu1 nu2 x) fd r u.1) (fun (u : Int32 × (Nat → Int32) × (Nat → Int32) × (Nat → Int32) × Nat) => [(mm, .inr (11, [.ref an, .ref ak, .int (nI ke), .int (nI kn), .int u.1, .ref ab, .ref az, .ref as_, .ref ae, .ref ao, .ref ar, .ref aw, .ref al, .ref am, .int (nI u.2.2.2.2), .ref af, .ref ac])), (ab, .inl (N.2 0, 4, .inl sb)), (az, .inl (N.2 0, 4, .inl sz)), (as_, .inl (N.2 0, 160, .inl st)), (al, .inl (N.2 0, 25, .inl u.2.1)), (aw, .inl (N.2 0, 1500, .inl u.2.2.1)), (am, .inl (N.2 0, 200, .inl u.2.2.2.1))]) := by
  refine ckI.of (by decide) (Nat.le_of_ble_eq_true rfl) ?_
  intro pg eg sg mg blw mth cg Ag ls hx hb hrt hml hown hlk hin hg hE hA hP hD hS hl
  have hown : sg.vm.findClass RX11 = some mg.cls := hown
  have hl : lv_has ls 6 [(0, .ref mm), (1, .int x), (2, .int (nI s1)), (3, .int (nI s2))] := hl
  have C0 : ckC pg sg mg ([.ref mm, .int x, .int (nI s1), .int (nI s2)]).toArray cg cX11_same 6 RX11 N Ag := ⟨⟨hx, hb, hml, hown, hg⟩, hE, hA⟩
  generalize hHe : sg.heap = H at hP
  have hS : va_S Ag sg.heap H [] := hHe ▸ hS
  have hk1 : ckIn (nI s1) (nI 0) (nI 3) = true := ckIn_in (by omega) (by omega) (by decide)
  have hk2 : ckIn (nI s2) (nI 0) (nI 3) = true := ckIn_in (by omega) (by omega) (by decide)
  refine lv_iload_n hx hb dX11_same_0 rfl (lv_at hl 1 rfl) ?_
  refine lv_iconst (v := (nI 2)) hx hb dX11_same_1 (by decide) ?_
  refine lv_iconst (v := (nI 5)) hx hb dX11_same_2 (by decide) ?_
  refine ck_Si (As := [.int x, .int (nI 2), .int (nI 5)]) (rest := []) (wr := [(mm, .inr (11, [.ref an, .ref ak, .int (nI ke), .int (nI kn), .int fd, .ref ab, .ref az, .ref as_, .ref ae, .ref ao, .ref ar, .ref aw, .ref al, .ref am, .int (nI mn), .ref af, .ref ac])), (ab, .inl (N.2 0, 4, .inl sb)), (az, .inl (N.2 0, 4, .inl sz)), (as_, .inl (N.2 0, 160, .inl st)), (al, .inl (N.2 0, 25, .inl lo)), (aw, .inl (N.2 0, 1500, .inl bk)), (am, .inl (N.2 0, 200, .inl md))]) C0 hP hD hS (c_X11_in l N x (nI 2) (nI 5) ) myX11_in k4_75 ⟨Nat.le_of_ble_eq_true rfl, Nat.le_of_ble_eq_true rfl⟩ [] [0, 1, 2, 3, 4, 5, 6] ⟨⟨rfl, rfl⟩, by decide, by decide, by decide⟩ rfl hl.1 rfl (Nat.le_of_ble_eq_true rfl) dX11_same_3 ⟨Nat.le_of_ble_eq_true rfl, Nat.le_of_ble_eq_true rfl⟩ (fun r_1 u0 H locs hw0 hP hD hS => ?_)
  have hw_2 : r_1 = (b2i (ckIn x (nI 2) (nI 5))) := hw0
  subst hw_2
  have hP : va_P N.1 vwCl [(mm, .inr (11, [.ref an, .ref ak, .int (nI ke), .int (nI kn), .int fd, .ref ab, .ref az, .ref as_, .ref ae, .ref ao, .ref ar, .ref aw, .ref al, .ref am, .int (nI mn), .ref af, .ref ac])), (ab, .inl (N.2 0, 4, .inl sb)), (az, .inl (N.2 0, 4, .inl sz)), (as_, .inl (N.2 0, 160, .inl st)), (al, .inl (N.2 0, 25, .inl lo)), (aw, .inl (N.2 0, 1500, .inl bk)), (am, .inl (N.2 0, 200, .inl md))] H := hP
  have hD : va_D Ag [(mm, .inr (11, [.ref an, .ref ak, .int (nI ke), .int (nI kn), .int fd, .ref ab, .ref az, .ref as_, .ref ae, .ref ao, .ref ar, .ref aw, .ref al, .ref am, .int (nI mn), .ref af, .ref ac])), (ab, .inl (N.2 0, 4, .inl sb)), (az, .inl (N.2 0, 4, .inl sz)), (as_, .inl (N.2 0, 160, .inl st)), (al, .inl (N.2 0, 25, .inl lo)), (aw, .inl (N.2 0, 1500, .inl bk)), (am, .inl (N.2 0, 200, .inl md))] := hD
  refine ck_ifeq (b := ckIn x (nI 2) (nI 5)) (tgt := 23) hx hb dX11_same_6 (by decide) (fun cz_3 => ?_) (fun cz_3 => ?_)
  · refine lv_aload_n hx hb dX11_same_23 rfl (lv_at hl 0 rfl) ?_
    refine lv_ldc (own := RX11) (v := (-100001)) hx hb hown (hg _ k4_81) dX11_same_24 ?_
    refine ck_Vi (As := [.int (-100001)]) (rest := []) (wr := [(ab, .inl (N.2 0, 4, .inl sb)), (az, .inl (N.2 0, 4, .inl sz)), (as_, .inl (N.2 0, 160, .inl st)), (al, .inl (N.2 0, 25, .inl lo)), (aw, .inl (N.2 0, 1500, .inl bk)), (am, .inl (N.2 0, 200, .inl md))]) C0 hP hD hS (c_X11_finds l N mm an ak ab az as_ ae ao ar aw al am af ac ke kn fd mn (-100001) ) myX11_finds k4_67 ⟨Nat.le_of_ble_eq_true rfl, Nat.le_of_ble_eq_true rfl⟩ [0] [1, 2, 3, 4, 5, 6] ⟨⟨rfl, rfl⟩, by decide, by decide, by decide⟩ 0 rfl rfl rfl rfl hl.1 rfl (Nat.le_of_ble_eq_true rfl) dX11_same_26 ⟨Nat.le_of_ble_eq_true rfl, Nat.le_of_ble_eq_true rfl⟩ (fun r_4 u0 H locs hw0 hP hD hS => ?_)
    have hw_5 : r_4 = (-100001) := hw0
    subst hw_5
    have hP : va_P N.1 vwCl [(ab, .inl (N.2 0, 4, .inl sb)), (az, .inl (N.2 0, 4, .inl sz)), (as_, .inl (N.2 0, 160, .inl st)), (al, .inl (N.2 0, 25, .inl lo)), (aw, .inl (N.2 0, 1500, .inl bk)), (am, .inl (N.2 0, 200, .inl md)), (mm, .inr (11, [.ref an, .ref ak, .int (nI ke), .int (nI kn), .int (fd + nI 1), .ref ab, .ref az, .ref as_, .ref ae, .ref ao, .ref ar, .ref aw, .ref al, .ref am, .int (nI mn), .ref af, .ref ac]))] H := hP
    have hD : va_D Ag [(ab, .inl (N.2 0, 4, .inl sb)), (az, .inl (N.2 0, 4, .inl sz)), (as_, .inl (N.2 0, 160, .inl st)), (al, .inl (N.2 0, 25, .inl lo)), (aw, .inl (N.2 0, 1500, .inl bk)), (am, .inl (N.2 0, 200, .inl md)), (mm, .inr (11, [.ref an, .ref ak, .int (nI ke), .int (nI kn), .int (fd + nI 1), .ref ab, .ref az, .ref as_, .ref ae, .ref ao, .ref ar, .ref aw, .ref al, .ref am, .int (nI mn), .ref af, .ref ac]))] := hD
    exact ck_iret hx hb hrt hlk ⟨(fd + nI 1), lo, bk, md, mn⟩ (ckRd_f (by simp [saF, saO, cz_3]) (by decide)) (hP.sub [6, 0, 1, 2, 3, 4, 5] rfl) (hD.sub [6, 0, 1, 2, 3, 4, 5] (by decide) rfl) hS ⟨Nat.le_of_ble_eq_true rfl, Nat.le_of_ble_eq_true rfl⟩ dX11_same_29
  refine lv_iload_n hx hb dX11_same_9 rfl (lv_at hl 2 rfl) ?_
  refine ck_Si (As := [.int (nI s1)]) (rest := []) (wr := [(mm, .inr (11, [.ref an, .ref ak, .int (nI ke), .int (nI kn), .int fd, .ref ab, .ref az, .ref as_, .ref ae, .ref ao, .ref ar, .ref aw, .ref al, .ref am, .int (nI mn), .ref af, .ref ac])), (ab, .inl (N.2 0, 4, .inl sb)), (az, .inl (N.2 0, 4, .inl sz)), (as_, .inl (N.2 0, 160, .inl st)), (al, .inl (N.2 0, 25, .inl lo)), (aw, .inl (N.2 0, 1500, .inl bk)), (am, .inl (N.2 0, 200, .inl md))]) C0 hP hD hS (c_X11_isSheet l N (nI s1) ) myX11_isSheet k5_14 ⟨Nat.le_of_ble_eq_true rfl, Nat.le_of_ble_eq_true rfl⟩ [] [0, 1, 2, 3, 4, 5, 6] ⟨⟨rfl, rfl⟩, by decide, by decide, by decide⟩ rfl hl.1 rfl (Nat.le_of_ble_eq_true rfl) dX11_same_10 ⟨Nat.le_of_ble_eq_true rfl, Nat.le_of_ble_eq_true rfl⟩ (fun r_6 u0 H locs hw0 hP hD hS => ?_)
  have hw_7 : r_6 = (b2i (ckIn (nI s1) (nI 0) (nI 3))) := hw0
  subst hw_7
  have hP : va_P N.1 vwCl [(mm, .inr (11, [.ref an, .ref ak, .int (nI ke), .int (nI kn), .int fd, .ref ab, .ref az, .ref as_, .ref ae, .ref ao, .ref ar, .ref aw, .ref al, .ref am, .int (nI mn), .ref af, .ref ac])), (ab, .inl (N.2 0, 4, .inl sb)), (az, .inl (N.2 0, 4, .inl sz)), (as_, .inl (N.2 0, 160, .inl st)), (al, .inl (N.2 0, 25, .inl lo)), (aw, .inl (N.2 0, 1500, .inl bk)), (am, .inl (N.2 0, 200, .inl md))] H := hP
  have hD : va_D Ag [(mm, .inr (11, [.ref an, .ref ak, .int (nI ke), .int (nI kn), .int fd, .ref ab, .ref az, .ref as_, .ref ae, .ref ao, .ref ar, .ref aw, .ref al, .ref am, .int (nI mn), .ref af, .ref ac])), (ab, .inl (N.2 0, 4, .inl sb)), (az, .inl (N.2 0, 4, .inl sz)), (as_, .inl (N.2 0, 160, .inl st)), (al, .inl (N.2 0, 25, .inl lo)), (aw, .inl (N.2 0, 1500, .inl bk)), (am, .inl (N.2 0, 200, .inl md))] := hD
  refine ck_ifeq (b := ckIn (nI s1) (nI 0) (nI 3)) (tgt := 23) hx hb dX11_same_13 (by decide) (fun cz_8 => absurd cz_8 (by rw [hk1]; decide)) (fun cz_8 => ?_)
  refine lv_iload_n hx hb dX11_same_16 rfl (lv_at hl 3 rfl) ?_
  refine ck_Si (As := [.int (nI s2)]) (rest := []) (wr := [(mm, .inr (11, [.ref an, .ref ak, .int (nI ke), .int (nI kn), .int fd, .ref ab, .ref az, .ref as_, .ref ae, .ref ao, .ref ar, .ref aw, .ref al, .ref am, .int (nI mn), .ref af, .ref ac])), (ab, .inl (N.2 0, 4, .inl sb)), (az, .inl (N.2 0, 4, .inl sz)), (as_, .inl (N.2 0, 160, .inl st)), (al, .inl (N.2 0, 25, .inl lo)), (aw, .inl (N.2 0, 1500, .inl bk)), (am, .inl (N.2 0, 200, .inl md))]) C0 hP hD hS (c_X11_isSheet l N (nI s2) ) myX11_isSheet k5_14 ⟨Nat.le_of_ble_eq_true rfl, Nat.le_of_ble_eq_true rfl⟩ [] [0, 1, 2, 3, 4, 5, 6] ⟨⟨rfl, rfl⟩, by decide, by decide, by decide⟩ rfl hl.1 rfl (Nat.le_of_ble_eq_true rfl) dX11_same_17 ⟨Nat.le_of_ble_eq_true rfl, Nat.le_of_ble_eq_true rfl⟩ (fun r_9 u0 H locs hw0 hP hD hS => ?_)
  have hw_10 : r_9 = (b2i (ckIn (nI s2) (nI 0) (nI 3))) := hw0
  subst hw_10
  have hP : va_P N.1 vwCl [(mm, .inr (11, [.ref an, .ref ak, .int (nI ke), .int (nI kn), .int fd, .ref ab, .ref az, .ref as_, .ref ae, .ref ao, .ref ar, .ref aw, .ref al, .ref am, .int (nI mn), .ref af, .ref ac])), (ab, .inl (N.2 0, 4, .inl sb)), (az, .inl (N.2 0, 4, .inl sz)), (as_, .inl (N.2 0, 160, .inl st)), (al, .inl (N.2 0, 25, .inl lo)), (aw, .inl (N.2 0, 1500, .inl bk)), (am, .inl (N.2 0, 200, .inl md))] H := hP
  have hD : va_D Ag [(mm, .inr (11, [.ref an, .ref ak, .int (nI ke), .int (nI kn), .int fd, .ref ab, .ref az, .ref as_, .ref ae, .ref ao, .ref ar, .ref aw, .ref al, .ref am, .int (nI mn), .ref af, .ref ac])), (ab, .inl (N.2 0, 4, .inl sb)), (az, .inl (N.2 0, 4, .inl sz)), (as_, .inl (N.2 0, 160, .inl st)), (al, .inl (N.2 0, 25, .inl lo)), (aw, .inl (N.2 0, 1500, .inl bk)), (am, .inl (N.2 0, 200, .inl md))] := hD
  refine ck_ifne (b := ckIn (nI s2) (nI 0) (nI 3)) (tgt := 30) hx hb dX11_same_20 (by decide) (fun cz_11 => ?_) (fun cz_11 => absurd cz_11 (by rw [hk2]; decide))
  have hx1 := cz_3
  obtain ⟨n0, hn02, hn05, rfl⟩ := (ckIn_n (by decide) (by decide)).mp hx1
  have exn : ix (nI n0) = n0 := ix_nI (by omega)
  refine lv_aload_n hx hb dX11_same_30 rfl (lv_at hl 0 rfl) ?_
  refine va_get (ci := 11) (v := .ref ab) (C := RX11) (T := TX11) (N := 17) hx hb hg inX11 hown hE.1 hP 0 rfl rfl 5 (by decide) (hg _ k4_15) (fun _ h9 => h9) rfl dX11_same_31 ?_
  refine lv_iload_n hx hb dX11_same_34 rfl (lv_at hl 2 rfl) ?_
  refine ck_iald hx hb hE hP 1 rfl (by omega) (by decide) dX11_same_35 ?_
  refine ck_top (y := (nI bt1)) hsb1 ?_
  refine ck_if0_eq (tgt := 48) hx hb dX11_same_36 (by decide) (by omega) (fun cz_12 => ?_) (fun cz_12 => ?_)
  · have hbza : bt1 = 0 := by omega
    refine lv_aload_n hx hb dX11_same_48 rfl (lv_at hl 0 rfl) ?_
    refine lv_ldc (own := RX11) (v := (-100002)) hx hb hown (hg _ k5_17) dX11_same_49 ?_
    refine ck_Vi (As := [.int (-100002)]) (rest := []) (wr := [(ab, .inl (N.2 0, 4, .inl sb)), (az, .inl (N.2 0, 4, .inl sz)), (as_, .inl (N.2 0, 160, .inl st)), (al, .inl (N.2 0, 25, .inl lo)), (aw, .inl (N.2 0, 1500, .inl bk)), (am, .inl (N.2 0, 200, .inl md))]) C0 hP hD hS (c_X11_finds l N mm an ak ab az as_ ae ao ar aw al am af ac ke kn fd mn (-100002) ) myX11_finds k4_67 ⟨Nat.le_of_ble_eq_true rfl, Nat.le_of_ble_eq_true rfl⟩ [0] [1, 2, 3, 4, 5, 6] ⟨⟨rfl, rfl⟩, by decide, by decide, by decide⟩ 0 rfl rfl rfl rfl hl.1 rfl (Nat.le_of_ble_eq_true rfl) dX11_same_51 ⟨Nat.le_of_ble_eq_true rfl, Nat.le_of_ble_eq_true rfl⟩ (fun r_13 u0 H locs hw0 hP hD hS => ?_)
    have hw_14 : r_13 = (-100002) := hw0
    subst hw_14
    have hP : va_P N.1 vwCl [(ab, .inl (N.2 0, 4, .inl sb)), (az, .inl (N.2 0, 4, .inl sz)), (as_, .inl (N.2 0, 160, .inl st)), (al, .inl (N.2 0, 25, .inl lo)), (aw, .inl (N.2 0, 1500, .inl bk)), (am, .inl (N.2 0, 200, .inl md)), (mm, .inr (11, [.ref an, .ref ak, .int (nI ke), .int (nI kn), .int (fd + nI 1), .ref ab, .ref az, .ref as_, .ref ae, .ref ao, .ref ar, .ref aw, .ref al, .ref am, .int (nI mn), .ref af, .ref ac]))] H := hP
    have hD : va_D Ag [(ab, .inl (N.2 0, 4, .inl sb)), (az, .inl (N.2 0, 4, .inl sz)), (as_, .inl (N.2 0, 160, .inl st)), (al, .inl (N.2 0, 25, .inl lo)), (aw, .inl (N.2 0, 1500, .inl bk)), (am, .inl (N.2 0, 200, .inl md)), (mm, .inr (11, [.ref an, .ref ak, .int (nI ke), .int (nI kn), .int (fd + nI 1), .ref ab, .ref az, .ref as_, .ref ae, .ref ao, .ref ar, .ref aw, .ref al, .ref am, .int (nI mn), .ref af, .ref ac]))] := hD
    exact ck_iret hx hb hrt hlk ⟨(fd + nI 1), lo, bk, md, mn⟩ (ckRd_f (by simp [saF, saO, hx1, exn, hbza]) (by decide)) (hP.sub [6, 0, 1, 2, 3, 4, 5] rfl) (hD.sub [6, 0, 1, 2, 3, 4, 5] (by decide) rfl) hS ⟨Nat.le_of_ble_eq_true rfl, Nat.le_of_ble_eq_true rfl⟩ dX11_same_54
  have hbza : ¬ bt1 = 0 := by omega
  refine lv_aload_n hx hb dX11_same_39 rfl (lv_at hl 0 rfl) ?_
  refine va_get (ci := 11) (v := .ref ab) (C := RX11) (T := TX11) (N := 17) hx hb hg inX11 hown hE.1 hP 0 rfl rfl 5 (by decide) (hg _ k4_15) (fun _ h9 => h9) rfl dX11_same_40 ?_
  refine lv_iload_n hx hb dX11_same_43 rfl (lv_at hl 3 rfl) ?_
  refine ck_iald hx hb hE hP 1 rfl (by omega) (by decide) dX11_same_44 ?_
  refine ck_top (y := (nI bt2)) hsb2 ?_
  refine ck_if0_ne (tgt := 55) hx hb dX11_same_45 (by decide) (by omega) (fun cz_15 => ?_) (fun cz_15 => ?_)
  · have hbzb : ¬ bt2 = 0 := by omega
    refine lv_aload_n hx hb dX11_same_55 rfl (lv_at hl 0 rfl) ?_
    refine lv_iload_n hx hb dX11_same_56 rfl (lv_at hl 1 rfl) ?_
    refine lv_iload_n hx hb dX11_same_57 rfl (lv_at hl 2 rfl) ?_
    refine ck_Vi (As := [.int (nI n0), .int (nI s1)]) (rest := []) (wr := [(ab, .inl (N.2 0, 4, .inl sb)), (al, .inl (N.2 0, 25, .inl lo)), (aw, .inl (N.2 0, 1500, .inl bk)), (am, .inl (N.2 0, 200, .inl md))]) C0 hP hD hS (c_X11_tellsWalks l N mm an ak ab az as_ ae ao ar aw al am af ac ke kn fd mn sz st s1 ct1 nu1 n0 (by omega) hsz1 hst1 (by omega) (by omega) (by omega)) myX11_tellsWalks k5_18 ⟨Nat.le_of_ble_eq_true rfl, Nat.le_of_ble_eq_true rfl⟩ [0, 2, 3] [1, 4, 5, 6] ⟨⟨rfl, rfl⟩, by decide, by decide, by decide⟩ 0 rfl rfl rfl rfl hl.1 rfl (Nat.le_of_ble_eq_true rfl) dX11_same_58 ⟨Nat.le_of_ble_eq_true rfl, Nat.le_of_ble_eq_true rfl⟩ (fun r_16 u0 H locs hw0 hP hD hS => ?_)
    have hw_17 : r_16 = (b2i (ckWithin nu1 ct1 (2 * (n0 - 1) - 1))) := hw0
    subst hw_17
    have hP : va_P N.1 vwCl [(ab, .inl (N.2 0, 4, .inl sb)), (al, .inl (N.2 0, 25, .inl lo)), (aw, .inl (N.2 0, 1500, .inl bk)), (am, .inl (N.2 0, 200, .inl md)), (mm, .inr (11, [.ref an, .ref ak, .int (nI ke), .int (nI kn), .int fd, .ref ab, .ref az, .ref as_, .ref ae, .ref ao, .ref ar, .ref aw, .ref al, .ref am, .int (nI mn), .ref af, .ref ac])), (az, .inl (N.2 0, 4, .inl sz)), (as_, .inl (N.2 0, 160, .inl st))] H := hP
    have hD : va_D Ag [(ab, .inl (N.2 0, 4, .inl sb)), (al, .inl (N.2 0, 25, .inl lo)), (aw, .inl (N.2 0, 1500, .inl bk)), (am, .inl (N.2 0, 200, .inl md)), (mm, .inr (11, [.ref an, .ref ak, .int (nI ke), .int (nI kn), .int fd, .ref ab, .ref az, .ref as_, .ref ae, .ref ao, .ref ar, .ref aw, .ref al, .ref am, .int (nI mn), .ref af, .ref ac])), (az, .inl (N.2 0, 4, .inl sz)), (as_, .inl (N.2 0, 160, .inl st))] := hD
    refine ck_ifeq (b := ckWithin nu1 ct1 (2 * (n0 - 1) - 1)) (tgt := 73) hx hb dX11_same_61 (by decide) (fun cz_18 => ?_) (fun cz_18 => ?_)
    · have qwi1 := cz_18
      refine lv_aload_n hx hb dX11_same_73 rfl (lv_at hl 0 rfl) ?_
      refine lv_ldc (own := RX11) (v := (-100001)) hx hb hown (hg _ k4_81) dX11_same_74 ?_
      refine ck_Vi (As := [.int (-100001)]) (rest := []) (wr := [(ab, .inl (N.2 0, 4, .inl sb)), (al, .inl (N.2 0, 25, .inl lo)), (aw, .inl (N.2 0, 1500, .inl bk)), (am, .inl (N.2 0, 200, .inl md)), (az, .inl (N.2 0, 4, .inl sz)), (as_, .inl (N.2 0, 160, .inl st))]) C0 hP hD hS (c_X11_finds l N mm an ak ab az as_ ae ao ar aw al am af ac ke kn fd mn (-100001) ) myX11_finds k4_67 ⟨Nat.le_of_ble_eq_true rfl, Nat.le_of_ble_eq_true rfl⟩ [4] [0, 1, 2, 3, 5, 6] ⟨⟨rfl, rfl⟩, by decide, by decide, by decide⟩ 4 rfl rfl rfl rfl hl.1 rfl (Nat.le_of_ble_eq_true rfl) dX11_same_76 ⟨Nat.le_of_ble_eq_true rfl, Nat.le_of_ble_eq_true rfl⟩ (fun r_19 u0 H locs hw0 hP hD hS => ?_)
      have hw_20 : r_19 = (-100001) := hw0
      subst hw_20
      have hP : va_P N.1 vwCl [(ab, .inl (N.2 0, 4, .inl sb)), (al, .inl (N.2 0, 25, .inl lo)), (aw, .inl (N.2 0, 1500, .inl bk)), (am, .inl (N.2 0, 200, .inl md)), (az, .inl (N.2 0, 4, .inl sz)), (as_, .inl (N.2 0, 160, .inl st)), (mm, .inr (11, [.ref an, .ref ak, .int (nI ke), .int (nI kn), .int (fd + nI 1), .ref ab, .ref az, .ref as_, .ref ae, .ref ao, .ref ar, .ref aw, .ref al, .ref am, .int (nI mn), .ref af, .ref ac]))] H := hP
      have hD : va_D Ag [(ab, .inl (N.2 0, 4, .inl sb)), (al, .inl (N.2 0, 25, .inl lo)), (aw, .inl (N.2 0, 1500, .inl bk)), (am, .inl (N.2 0, 200, .inl md)), (az, .inl (N.2 0, 4, .inl sz)), (as_, .inl (N.2 0, 160, .inl st)), (mm, .inr (11, [.ref an, .ref ak, .int (nI ke), .int (nI kn), .int (fd + nI 1), .ref ab, .ref az, .ref as_, .ref ae, .ref ao, .ref ar, .ref aw, .ref al, .ref am, .int (nI mn), .ref af, .ref ac]))] := hD
      exact ck_iret hx hb hrt hlk ⟨(fd + nI 1), lo, bk, md, mn⟩ (ckRd_f (by simp [saF, saO, hx1, exn, hbza, hbzb, qwi1]) (by decide)) (hP.sub [6, 0, 4, 5, 1, 2, 3] rfl) (hD.sub [6, 0, 4, 5, 1, 2, 3] (by decide) rfl) hS ⟨Nat.le_of_ble_eq_true rfl, Nat.le_of_ble_eq_true rfl⟩ dX11_same_79
    have qwi1 := cz_18
    refine lv_aload_n hx hb dX11_same_64 rfl (lv_at hl 0 rfl) ?_
    refine lv_iload_n hx hb dX11_same_65 rfl (lv_at hl 1 rfl) ?_
    refine lv_iload_n hx hb dX11_same_66 rfl (lv_at hl 3 rfl) ?_
    refine ck_Vi (As := [.int (nI n0), .int (nI s2)]) (rest := []) (wr := [(ab, .inl (N.2 0, 4, .inl sb)), (al, .inl (N.2 0, 25, .inl lo)), (aw, .inl (N.2 0, 1500, .inl bk)), (am, .inl (N.2 0, 200, .inl md))]) C0 hP hD hS (c_X11_tellsWalks l N mm an ak ab az as_ ae ao ar aw al am af ac ke kn fd mn sz st s2 ct2 nu2 n0 (by omega) hsz2 hst2 (by omega) (by omega) (by omega)) myX11_tellsWalks k5_18 ⟨Nat.le_of_ble_eq_true rfl, Nat.le_of_ble_eq_true rfl⟩ [4, 5, 6] [0, 1, 2, 3] ⟨⟨rfl, rfl⟩, by decide, by decide, by decide⟩ 4 rfl rfl rfl rfl hl.1 rfl (Nat.le_of_ble_eq_true rfl) dX11_same_67 ⟨Nat.le_of_ble_eq_true rfl, Nat.le_of_ble_eq_true rfl⟩ (fun r_21 u0 H locs hw0 hP hD hS => ?_)
    have hw_22 : r_21 = (b2i (ckWithin nu2 ct2 (2 * (n0 - 1) - 1))) := hw0
    subst hw_22
    have hP : va_P N.1 vwCl [(ab, .inl (N.2 0, 4, .inl sb)), (al, .inl (N.2 0, 25, .inl lo)), (aw, .inl (N.2 0, 1500, .inl bk)), (am, .inl (N.2 0, 200, .inl md)), (mm, .inr (11, [.ref an, .ref ak, .int (nI ke), .int (nI kn), .int fd, .ref ab, .ref az, .ref as_, .ref ae, .ref ao, .ref ar, .ref aw, .ref al, .ref am, .int (nI mn), .ref af, .ref ac])), (az, .inl (N.2 0, 4, .inl sz)), (as_, .inl (N.2 0, 160, .inl st))] H := hP
    have hD : va_D Ag [(ab, .inl (N.2 0, 4, .inl sb)), (al, .inl (N.2 0, 25, .inl lo)), (aw, .inl (N.2 0, 1500, .inl bk)), (am, .inl (N.2 0, 200, .inl md)), (mm, .inr (11, [.ref an, .ref ak, .int (nI ke), .int (nI kn), .int fd, .ref ab, .ref az, .ref as_, .ref ae, .ref ao, .ref ar, .ref aw, .ref al, .ref am, .int (nI mn), .ref af, .ref ac])), (az, .inl (N.2 0, 4, .inl sz)), (as_, .inl (N.2 0, 160, .inl st))] := hD
    refine ck_ifne (b := ckWithin nu2 ct2 (2 * (n0 - 1) - 1)) (tgt := 80) hx hb dX11_same_70 (by decide) (fun cz_23 => ?_) (fun cz_23 => ?_)
    · have qwi2 := cz_23
      refine lv_aload_n hx hb dX11_same_80 rfl (lv_at hl 0 rfl) ?_
      refine lv_iload_n hx hb dX11_same_81 rfl (lv_at hl 1 rfl) ?_
      refine lv_iload_n hx hb dX11_same_82 rfl (lv_at hl 2 rfl) ?_
      refine lv_iconst (v := (nI 2)) hx hb dX11_same_83 (by decide) ?_
      refine ck_Vi (As := [.int (nI n0), .int (nI s1), .int (nI 2)]) (rest := []) (wr := [(ab, .inl (N.2 0, 4, .inl sb))]) C0 hP hD hS (c_X11_does l N mm an ak ab az as_ ae ao ar aw al am af ac ke kn fd mn sz st lo bk md s1 ct1 nu1 n0 2 (by omega) hsz1 hst1 (by omega) (by omega) (by omega) (by omega) (by omega) (within_ix (by omega) qwi1)) myX11_does k5_22 ⟨Nat.le_of_ble_eq_true rfl, Nat.le_of_ble_eq_true rfl⟩ [4, 5, 6, 1, 2, 3] [0] ⟨⟨rfl, rfl⟩, by decide, by decide, by decide⟩ 4 rfl rfl rfl rfl hl.1 rfl (Nat.le_of_ble_eq_true rfl) dX11_same_84 ⟨Nat.le_of_ble_eq_true rfl, Nat.le_of_ble_eq_true rfl⟩ (fun r_24 u0 H locs hw0 hP hD hS => ?_)
      obtain ⟨lo_a, bk_a, md_a, mn_a⟩ := u0
      have hw_25 : (r_24 = (b2i ((folK nu1 ct1).isSome))) ∧ ((∀ wz, folK nu1 ct1 = some wz → mB lo_a bk_a 2 n0 wz) ∧ (∀ j, ¬ (5 * 2 ≤ j ∧ j < 5 * 2 + 5) → ¬ (5 ≤ j ∧ j < 10) → lo_a j = lo j) ∧ (∀ j, ¬ (300 * 2 ≤ j ∧ j < 300 * 2 + 300) → ¬ (300 ≤ j ∧ j < 600) → bk_a j = bk j)) := hw0
      obtain ⟨hv_26, hw_25⟩ := hw_25
      subst hv_26
      have hP : va_P N.1 vwCl [(ab, .inl (N.2 0, 4, .inl sb)), (mm, .inr (11, [.ref an, .ref ak, .int (nI ke), .int (nI kn), .int fd, .ref ab, .ref az, .ref as_, .ref ae, .ref ao, .ref ar, .ref aw, .ref al, .ref am, .int (nI mn_a), .ref af, .ref ac])), (az, .inl (N.2 0, 4, .inl sz)), (as_, .inl (N.2 0, 160, .inl st)), (al, .inl (N.2 0, 25, .inl lo_a)), (aw, .inl (N.2 0, 1500, .inl bk_a)), (am, .inl (N.2 0, 200, .inl md_a))] H := hP
      have hD : va_D Ag [(ab, .inl (N.2 0, 4, .inl sb)), (mm, .inr (11, [.ref an, .ref ak, .int (nI ke), .int (nI kn), .int fd, .ref ab, .ref az, .ref as_, .ref ae, .ref ao, .ref ar, .ref aw, .ref al, .ref am, .int (nI mn_a), .ref af, .ref ac])), (az, .inl (N.2 0, 4, .inl sz)), (as_, .inl (N.2 0, 160, .inl st)), (al, .inl (N.2 0, 25, .inl lo_a)), (aw, .inl (N.2 0, 1500, .inl bk_a)), (am, .inl (N.2 0, 200, .inl md_a))] := hD
      obtain ⟨hfa, -, -⟩ := hw_25
      refine ck_ifeq (b := (folK nu1 ct1).isSome) (tgt := 100) hx hb dX11_same_87 (by decide) (fun cz_27 => ?_) (fun cz_27 => ?_)
      · have qis1 := cz_27
        refine lv_aload_n hx hb dX11_same_100 rfl (lv_at hl 0 rfl) ?_
        refine lv_ldc (own := RX11) (v := (-100005)) hx hb hown (hg _ k4_83) dX11_same_101 ?_
        refine ck_Vi (As := [.int (-100005)]) (rest := []) (wr := [(ab, .inl (N.2 0, 4, .inl sb)), (az, .inl (N.2 0, 4, .inl sz)), (as_, .inl (N.2 0, 160, .inl st)), (al, .inl (N.2 0, 25, .inl lo_a)), (aw, .inl (N.2 0, 1500, .inl bk_a)), (am, .inl (N.2 0, 200, .inl md_a))]) C0 hP hD hS (c_X11_finds l N mm an ak ab az as_ ae ao ar aw al am af ac ke kn fd mn_a (-100005) ) myX11_finds k4_67 ⟨Nat.le_of_ble_eq_true rfl, Nat.le_of_ble_eq_true rfl⟩ [1] [0, 2, 3, 4, 5, 6] ⟨⟨rfl, rfl⟩, by decide, by decide, by decide⟩ 1 rfl rfl rfl rfl hl.1 rfl (Nat.le_of_ble_eq_true rfl) dX11_same_103 ⟨Nat.le_of_ble_eq_true rfl, Nat.le_of_ble_eq_true rfl⟩ (fun r_28 u0 H locs hw0 hP hD hS => ?_)
        have hw_29 : r_28 = (-100005) := hw0
        subst hw_29
        have hP : va_P N.1 vwCl [(ab, .inl (N.2 0, 4, .inl sb)), (az, .inl (N.2 0, 4, .inl sz)), (as_, .inl (N.2 0, 160, .inl st)), (al, .inl (N.2 0, 25, .inl lo_a)), (aw, .inl (N.2 0, 1500, .inl bk_a)), (am, .inl (N.2 0, 200, .inl md_a)), (mm, .inr (11, [.ref an, .ref ak, .int (nI ke), .int (nI kn), .int (fd + nI 1), .ref ab, .ref az, .ref as_, .ref ae, .ref ao, .ref ar, .ref aw, .ref al, .ref am, .int (nI mn_a), .ref af, .ref ac]))] H := hP
        have hD : va_D Ag [(ab, .inl (N.2 0, 4, .inl sb)), (az, .inl (N.2 0, 4, .inl sz)), (as_, .inl (N.2 0, 160, .inl st)), (al, .inl (N.2 0, 25, .inl lo_a)), (aw, .inl (N.2 0, 1500, .inl bk_a)), (am, .inl (N.2 0, 200, .inl md_a)), (mm, .inr (11, [.ref an, .ref ak, .int (nI ke), .int (nI kn), .int (fd + nI 1), .ref ab, .ref az, .ref as_, .ref ae, .ref ao, .ref ar, .ref aw, .ref al, .ref am, .int (nI mn_a), .ref af, .ref ac]))] := hD
        exact ck_iret hx hb hrt hlk ⟨(fd + nI 1), lo_a, bk_a, md_a, mn_a⟩ (ckRd_f (by simp [saF, saO, hx1, exn, hbza, hbzb, qwi1, qwi2, qis1]) (by decide)) (hP.sub [6, 0, 1, 2, 3, 4, 5] rfl) (hD.sub [6, 0, 1, 2, 3, 4, 5] (by decide) rfl) hS ⟨Nat.le_of_ble_eq_true rfl, Nat.le_of_ble_eq_true rfl⟩ dX11_same_106
      have qis1 := cz_27
      refine lv_aload_n hx hb dX11_same_90 rfl (lv_at hl 0 rfl) ?_
      refine lv_iload_n hx hb dX11_same_91 rfl (lv_at hl 1 rfl) ?_
      refine lv_iload_n hx hb dX11_same_92 rfl (lv_at hl 3 rfl) ?_
      refine lv_iconst (v := (nI 3)) hx hb dX11_same_93 (by decide) ?_
      refine ck_Vi (As := [.int (nI n0), .int (nI s2), .int (nI 3)]) (rest := []) (wr := [(ab, .inl (N.2 0, 4, .inl sb))]) C0 hP hD hS (c_X11_does l N mm an ak ab az as_ ae ao ar aw al am af ac ke kn fd mn_a sz st lo_a bk_a md_a s2 ct2 nu2 n0 3 (by omega) hsz2 hst2 (by omega) (by omega) (by omega) (by omega) (by omega) (within_ix (by omega) qwi2)) myX11_does k5_22 ⟨Nat.le_of_ble_eq_true rfl, Nat.le_of_ble_eq_true rfl⟩ [1, 2, 3, 4, 5, 6] [0] ⟨⟨rfl, rfl⟩, by decide, by decide, by decide⟩ 1 rfl rfl rfl rfl hl.1 rfl (Nat.le_of_ble_eq_true rfl) dX11_same_94 ⟨Nat.le_of_ble_eq_true rfl, Nat.le_of_ble_eq_true rfl⟩ (fun r_30 u0 H locs hw0 hP hD hS => ?_)
      obtain ⟨lo_b, bk_b, md_b, mn_b⟩ := u0
      have hw_31 : (r_30 = (b2i ((folK nu2 ct2).isSome))) ∧ ((∀ wz, folK nu2 ct2 = some wz → mB lo_b bk_b 3 n0 wz) ∧ (∀ j, ¬ (5 * 3 ≤ j ∧ j < 5 * 3 + 5) → ¬ (5 ≤ j ∧ j < 10) → lo_b j = lo_a j) ∧ (∀ j, ¬ (300 * 3 ≤ j ∧ j < 300 * 3 + 300) → ¬ (300 ≤ j ∧ j < 600) → bk_b j = bk_a j)) := hw0
      obtain ⟨hv_32, hw_31⟩ := hw_31
      subst hv_32
      have hP : va_P N.1 vwCl [(ab, .inl (N.2 0, 4, .inl sb)), (mm, .inr (11, [.ref an, .ref ak, .int (nI ke), .int (nI kn), .int fd, .ref ab, .ref az, .ref as_, .ref ae, .ref ao, .ref ar, .ref aw, .ref al, .ref am, .int (nI mn_b), .ref af, .ref ac])), (az, .inl (N.2 0, 4, .inl sz)), (as_, .inl (N.2 0, 160, .inl st)), (al, .inl (N.2 0, 25, .inl lo_b)), (aw, .inl (N.2 0, 1500, .inl bk_b)), (am, .inl (N.2 0, 200, .inl md_b))] H := hP
      have hD : va_D Ag [(ab, .inl (N.2 0, 4, .inl sb)), (mm, .inr (11, [.ref an, .ref ak, .int (nI ke), .int (nI kn), .int fd, .ref ab, .ref az, .ref as_, .ref ae, .ref ao, .ref ar, .ref aw, .ref al, .ref am, .int (nI mn_b), .ref af, .ref ac])), (az, .inl (N.2 0, 4, .inl sz)), (as_, .inl (N.2 0, 160, .inl st)), (al, .inl (N.2 0, 25, .inl lo_b)), (aw, .inl (N.2 0, 1500, .inl bk_b)), (am, .inl (N.2 0, 200, .inl md_b))] := hD
      obtain ⟨hfb, hkl, hkb⟩ := hw_31
      refine ck_ifne (b := (folK nu2 ct2).isSome) (tgt := 107) hx hb dX11_same_97 (by decide) (fun cz_33 => ?_) (fun cz_33 => ?_)
      · have qis2 := cz_33
        obtain ⟨ua, hua⟩ := Option.isSome_iff_exists.mp qis1
        obtain ⟨ub, hub⟩ := Option.isSome_iff_exists.mp qis2
        have hBa : mB lo_b bk_b 2 n0 ua := ckWd_congr (hfa ua hua) (fun p hp => hkl _ (by omega) (by omega)) (fun p k hp hk => hkb _ (by omega) (by omega))
        have hBb := hfb ub hub
        refine lv_iconst (v := (nI 0)) hx hb dX11_same_107 (by decide) ?_
        refine lv_istore (lv' := [(4, .int (nI 0)), (0, .ref mm), (1, .int (nI n0)), (2, .int (nI s1)), (3, .int (nI s2))]) hx hb dX11_same_108 hl (by decide) rfl (fun ls hl => ?_)
        have lp_110 : ∀ (dz : Nat) (p : Nat) (hdz : n0 - p = dz) (hp : p ≤ n0) (hz : ∀ q, q < p → ua q = ub q) (H : Heap) (locs : List Loc) (ls : Array Slot), va_P N.1 vwCl [(mm, .inr (11, [.ref an, .ref ak, .int (nI ke), .int (nI kn), .int fd, .ref ab, .ref az, .ref as_, .ref ae, .ref ao, .ref ar, .ref aw, .ref al, .ref am, .int (nI mn_b), .ref af, .ref ac])), (ab, .inl (N.2 0, 4, .inl sb)), (az, .inl (N.2 0, 4, .inl sz)), (as_, .inl (N.2 0, 160, .inl st)), (al, .inl (N.2 0, 25, .inl lo_b)), (aw, .inl (N.2 0, 1500, .inl bk_b)), (am, .inl (N.2 0, 200, .inl md_b))] H → va_D Ag [(mm, .inr (11, [.ref an, .ref ak, .int (nI ke), .int (nI kn), .int fd, .ref ab, .ref az, .ref as_, .ref ae, .ref ao, .ref ar, .ref aw, .ref al, .ref am, .int (nI mn_b), .ref af, .ref ac])), (ab, .inl (N.2 0, 4, .inl sb)), (az, .inl (N.2 0, 4, .inl sz)), (as_, .inl (N.2 0, 160, .inl st)), (al, .inl (N.2 0, 25, .inl lo_b)), (aw, .inl (N.2 0, 1500, .inl bk_b)), (am, .inl (N.2 0, 200, .inl md_b))] → va_S Ag sg.heap H locs → lv_has ls 6 [(4, .int (nI p)), (0, .ref mm), (1, .int (nI n0)), (2, .int (nI s1)), (3, .int (nI s2))] → W pg l eg { frames := 7, cells := 0, slots := 0, locals := 179 } sg mg ([.ref mm, .int (nI n0), .int (nI s1), .int (nI s2)]).toArray blw mth cg H locs 0 0 (ckQi N Ag blw sg ([.ref mm, .int (nI n0), .int (nI s1), .int (nI s2)]).toArray { frames := 7, cells := 0, slots := 0, locals := 179 } (fun (r : Int32) (u : Int32 × (Nat → Int32) × (Nat → Int32) × (Nat → Int32) × Nat) => ckRd (saF bt1 bt2 ct1 ct2 nu1 nu2 (nI n0)) (saR ct1 ct2 nu1 nu2 (nI n0)) fd r u.1) (fun (u : Int32 × (Nat → Int32) × (Nat → Int32) × (Nat → Int32) × Nat) => [(mm, .inr (11, [.ref an, .ref ak, .int (nI ke), .int (nI kn), .int u.1, .ref ab, .ref az, .ref as_, .ref ae, .ref ao, .ref ar, .ref aw, .ref al, .ref am, .int (nI u.2.2.2.2), .ref af, .ref ac])), (ab, .inl (N.2 0, 4, .inl sb)), (az, .inl (N.2 0, 4, .inl sz)), (as_, .inl (N.2 0, 160, .inl st)), (al, .inl (N.2 0, 25, .inl u.2.1)), (aw, .inl (N.2 0, 1500, .inl u.2.2.1)), (am, .inl (N.2 0, 200, .inl u.2.2.2.1))])) (F0 mg 110 ls []) := by
          intro dz
          induction dz using Nat.strongRecOn with
          | _ dz ih_110 =>
            intro p hdz hp hz H locs ls hP hD hS hl
            subst hdz
            refine lv_iload hx hb dX11_same_110 (lv_at hl 0 rfl) ?_
            refine lv_iload_n hx hb dX11_same_112 rfl (lv_at hl 2 rfl) ?_
            refine ck_ic_ge (tgt := 210) hx hb dX11_same_113 (by decide) (by omega) (by omega) (fun cz_34 => ?_) (fun cz_34 => ?_)
            · refine lv_iconst (v := (nI 1)) hx hb dX11_same_210 (by decide) ?_
              exact ck_iret hx hb hrt hlk ⟨fd, lo_b, bk_b, md_b, mn_b⟩ (ckRd_ok (by simp [saF, saO, hx1, exn, hbza, hbzb, qwi1, qwi2, qis1, qis2]) (by rw [saR, exn, hua, hub]; show _ = b2i (decide (∀ q, q < n0 → ua q = ub q)); rw [decide_eq_true (fun q hq => hz q (by omega))]; rfl)) hP hD hS ⟨Nat.le_of_ble_eq_true rfl, Nat.le_of_ble_eq_true rfl⟩ dX11_same_211
            have hl60 := (hBa p (by omega)).2.1
            have hl61 := (hBb p (by omega)).2.1
            refine lv_aload_n hx hb dX11_same_116 rfl (lv_at hl 1 rfl) ?_
            refine va_get (ci := 11) (v := .ref al) (C := RX11) (T := TX11) (N := 17) hx hb hg inX11 hown hE.1 hP 0 rfl rfl 12 (by decide) (hg _ k4_22) (fun _ h9 => h9) rfl dX11_same_117 ?_
            refine lv_bipush (v := (nI 10)) hx hb dX11_same_120 (by decide) ?_
            refine lv_iload hx hb dX11_same_122 (lv_at hl 0 rfl) ?_
            refine lv_iadd hx hb dX11_same_124 ?_
            refine ck_top (y := (nI (10 + p))) (nI_add _ _) ?_
            refine ck_iald hx hb hE hP 4 rfl (by omega) (by decide) dX11_same_125 ?_
            refine ck_top (y := (nI ((ua p).length))) ((congrArg lo_b (by omega)).trans (hBa p (by omega)).1) ?_
            refine lv_aload_n hx hb dX11_same_126 rfl (lv_at hl 1 rfl) ?_
            refine va_get (ci := 11) (v := .ref al) (C := RX11) (T := TX11) (N := 17) hx hb hg inX11 hown hE.1 hP 0 rfl rfl 12 (by decide) (hg _ k4_22) (fun _ h9 => h9) rfl dX11_same_127 ?_
            refine lv_bipush (v := (nI 15)) hx hb dX11_same_130 (by decide) ?_
            refine lv_iload hx hb dX11_same_132 (lv_at hl 0 rfl) ?_
            refine lv_iadd hx hb dX11_same_134 ?_
            refine ck_top (y := (nI (15 + p))) (nI_add _ _) ?_
            refine ck_iald hx hb hE hP 4 rfl (by omega) (by decide) dX11_same_135 ?_
            refine ck_top (y := (nI ((ub p).length))) ((congrArg lo_b (by omega)).trans (hBb p (by omega)).1) ?_
            refine ck_ic_eq (tgt := 141) hx hb dX11_same_136 (by decide) (by omega) (by omega) (fun cz_35 => ?_) (fun cz_35 => ?_)
            · have hle := cz_35
              refine lv_iconst (v := (nI 0)) hx hb dX11_same_141 (by decide) ?_
              refine lv_istore (lv' := [(5, .int (nI 0)), (4, .int (nI p)), (0, .ref mm), (1, .int (nI n0)), (2, .int (nI s1)), (3, .int (nI s2))]) hx hb dX11_same_142 hl (by decide) rfl (fun ls hl => ?_)
              have lp_144 : ∀ (dz : Nat) (k : Nat) (hdz : (ua p).length - k = dz) (hk : k ≤ (ua p).length) (hzz : ∀ j, j < k → (ua p).getD j 0 = (ub p).getD j 0) (H : Heap) (locs : List Loc) (ls : Array Slot), va_P N.1 vwCl [(mm, .inr (11, [.ref an, .ref ak, .int (nI ke), .int (nI kn), .int fd, .ref ab, .ref az, .ref as_, .ref ae, .ref ao, .ref ar, .ref aw, .ref al, .ref am, .int (nI mn_b), .ref af, .ref ac])), (ab, .inl (N.2 0, 4, .inl sb)), (az, .inl (N.2 0, 4, .inl sz)), (as_, .inl (N.2 0, 160, .inl st)), (al, .inl (N.2 0, 25, .inl lo_b)), (aw, .inl (N.2 0, 1500, .inl bk_b)), (am, .inl (N.2 0, 200, .inl md_b))] H → va_D Ag [(mm, .inr (11, [.ref an, .ref ak, .int (nI ke), .int (nI kn), .int fd, .ref ab, .ref az, .ref as_, .ref ae, .ref ao, .ref ar, .ref aw, .ref al, .ref am, .int (nI mn_b), .ref af, .ref ac])), (ab, .inl (N.2 0, 4, .inl sb)), (az, .inl (N.2 0, 4, .inl sz)), (as_, .inl (N.2 0, 160, .inl st)), (al, .inl (N.2 0, 25, .inl lo_b)), (aw, .inl (N.2 0, 1500, .inl bk_b)), (am, .inl (N.2 0, 200, .inl md_b))] → va_S Ag sg.heap H locs → lv_has ls 6 [(5, .int (nI k)), (4, .int (nI p)), (0, .ref mm), (1, .int (nI n0)), (2, .int (nI s1)), (3, .int (nI s2))] → W pg l eg { frames := 7, cells := 0, slots := 0, locals := 179 } sg mg ([.ref mm, .int (nI n0), .int (nI s1), .int (nI s2)]).toArray blw mth cg H locs 0 0 (ckQi N Ag blw sg ([.ref mm, .int (nI n0), .int (nI s1), .int (nI s2)]).toArray { frames := 7, cells := 0, slots := 0, locals := 179 } (fun (r : Int32) (u : Int32 × (Nat → Int32) × (Nat → Int32) × (Nat → Int32) × Nat) => ckRd (saF bt1 bt2 ct1 ct2 nu1 nu2 (nI n0)) (saR ct1 ct2 nu1 nu2 (nI n0)) fd r u.1) (fun (u : Int32 × (Nat → Int32) × (Nat → Int32) × (Nat → Int32) × Nat) => [(mm, .inr (11, [.ref an, .ref ak, .int (nI ke), .int (nI kn), .int u.1, .ref ab, .ref az, .ref as_, .ref ae, .ref ao, .ref ar, .ref aw, .ref al, .ref am, .int (nI u.2.2.2.2), .ref af, .ref ac])), (ab, .inl (N.2 0, 4, .inl sb)), (az, .inl (N.2 0, 4, .inl sz)), (as_, .inl (N.2 0, 160, .inl st)), (al, .inl (N.2 0, 25, .inl u.2.1)), (aw, .inl (N.2 0, 1500, .inl u.2.2.1)), (am, .inl (N.2 0, 200, .inl u.2.2.2.1))])) (F0 mg 144 ls []) := by
                intro dz
                induction dz using Nat.strongRecOn with
                | _ dz ih_144 =>
                  intro k hdz hk hzz H locs ls hP hD hS hl
                  subst hdz
                  refine lv_iload hx hb dX11_same_144 (lv_at hl 0 rfl) ?_
                  refine lv_aload_n hx hb dX11_same_146 rfl (lv_at hl 2 rfl) ?_
                  refine va_get (ci := 11) (v := .ref al) (C := RX11) (T := TX11) (N := 17) hx hb hg inX11 hown hE.1 hP 0 rfl rfl 12 (by decide) (hg _ k4_22) (fun _ h9 => h9) rfl dX11_same_147 ?_
                  refine lv_bipush (v := (nI 10)) hx hb dX11_same_150 (by decide) ?_
                  refine lv_iload hx hb dX11_same_152 (lv_at hl 1 rfl) ?_
                  refine lv_iadd hx hb dX11_same_154 ?_
                  refine ck_top (y := (nI (10 + p))) (nI_add _ _) ?_
                  refine ck_iald hx hb hE hP 4 rfl (by omega) (by decide) dX11_same_155 ?_
                  refine ck_top (y := (nI ((ua p).length))) ((congrArg lo_b (by omega)).trans (hBa p (by omega)).1) ?_
                  refine ck_ic_ge (tgt := 204) hx hb dX11_same_156 (by decide) (by omega) (by omega) (fun cz_36 => ?_) (fun cz_36 => ?_)
                  · refine lv_iinc (v := (nI (p + 1))) (lv' := [(4, .int (nI (p + 1))), (5, .int (nI k)), (0, .ref mm), (1, .int (nI n0)), (2, .int (nI s1)), (3, .int (nI s2))]) hx hb dX11_same_204 hl (k := 1) rfl (nI_1 _) (by decide) rfl (fun ls hl => ?_)
                    refine lv_goto (tgt := 110) hx hb dX11_same_207 (by decide) ?_
                    exact ih_110 _ (by omega) (p + 1) rfl (by omega) (lt_s hz (list_eq hle (fun j hj => hzz j (by omega)))) _ _ ls hP hD hS (lv_sub hl [0, 2, 3, 4, 5] rfl)
                  refine lv_aload_n hx hb dX11_same_159 rfl (lv_at hl 2 rfl) ?_
                  refine va_get (ci := 11) (v := .ref aw) (C := RX11) (T := TX11) (N := 17) hx hb hg inX11 hown hE.1 hP 0 rfl rfl 11 (by decide) (hg _ k4_21) (fun _ h9 => h9) rfl dX11_same_160 ?_
                  refine lv_sipush (v := (nI 600)) hx hb dX11_same_163 (by decide) ?_
                  refine lv_bipush (v := (nI 60)) hx hb dX11_same_166 (by decide) ?_
                  refine lv_iload hx hb dX11_same_168 (lv_at hl 1 rfl) ?_
                  refine lv_imul hx hb dX11_same_170 ?_
                  refine ck_top (y := (nI (60 * p))) (pk_mul _ _) ?_
                  refine lv_iadd hx hb dX11_same_171 ?_
                  refine ck_top (y := (nI (600 + (60 * p)))) (nI_add _ _) ?_
                  refine lv_iload hx hb dX11_same_172 (lv_at hl 0 rfl) ?_
                  refine lv_iadd hx hb dX11_same_174 ?_
                  refine ck_top (y := (nI (600 + (60 * p) + k))) (nI_add _ _) ?_
                  refine ck_iald hx hb hE hP 5 rfl (by omega) (by decide) dX11_same_175 ?_
                  refine ck_top (y := (nI ((ua p).getD k 0))) ((congrArg bk_b (by omega)).trans ((hBa p (by omega)).2.2.2 k (by omega))) ?_
                  refine lv_aload_n hx hb dX11_same_176 rfl (lv_at hl 2 rfl) ?_
                  refine va_get (ci := 11) (v := .ref aw) (C := RX11) (T := TX11) (N := 17) hx hb hg inX11 hown hE.1 hP 0 rfl rfl 11 (by decide) (hg _ k4_21) (fun _ h9 => h9) rfl dX11_same_177 ?_
                  refine lv_sipush (v := (nI 900)) hx hb dX11_same_180 (by decide) ?_
                  refine lv_bipush (v := (nI 60)) hx hb dX11_same_183 (by decide) ?_
                  refine lv_iload hx hb dX11_same_185 (lv_at hl 1 rfl) ?_
                  refine lv_imul hx hb dX11_same_187 ?_
                  refine ck_top (y := (nI (60 * p))) (pk_mul _ _) ?_
                  refine lv_iadd hx hb dX11_same_188 ?_
                  refine ck_top (y := (nI (900 + (60 * p)))) (nI_add _ _) ?_
                  refine lv_iload hx hb dX11_same_189 (lv_at hl 0 rfl) ?_
                  refine lv_iadd hx hb dX11_same_191 ?_
                  refine ck_top (y := (nI (900 + (60 * p) + k))) (nI_add _ _) ?_
                  refine ck_iald hx hb hE hP 5 rfl (by omega) (by decide) dX11_same_192 ?_
                  refine ck_top (y := (nI ((ub p).getD k 0))) ((congrArg bk_b (by omega)).trans ((hBb p (by omega)).2.2.2 k (by omega))) ?_
                  refine ck_ic_eq (tgt := 198) hx hb dX11_same_193 (by decide) (Nat.lt_trans (L20_getD (hBa p (by omega)).2.2.1 (by omega)) (by decide)) (Nat.lt_trans (L20_getD (hBb p (by omega)).2.2.1 (by omega)) (by decide)) (fun cz_37 => ?_) (fun cz_37 => ?_)
                  · refine lv_iinc (v := (nI (k + 1))) (lv' := [(5, .int (nI (k + 1))), (4, .int (nI p)), (0, .ref mm), (1, .int (nI n0)), (2, .int (nI s1)), (3, .int (nI s2))]) hx hb dX11_same_198 hl (k := 0) rfl (nI_1 _) (by decide) rfl (fun ls hl => ?_)
                    refine lv_goto (tgt := 144) hx hb dX11_same_201 (by decide) ?_
                    exact ih_144 _ (by omega) (k + 1) rfl (by omega) (lt_s hzz cz_37) _ _ ls hP hD hS hl
                  refine lv_iconst (v := (nI 0)) hx hb dX11_same_196 (by decide) ?_
                  exact ck_iret hx hb hrt hlk ⟨fd, lo_b, bk_b, md_b, mn_b⟩ (ckRd_ok (by simp [saF, saO, hx1, exn, hbza, hbzb, qwi1, qwi2, qis1, qis2]) (by rw [saR, exn, hua, hub]; show _ = b2i (decide (∀ q, q < n0 → ua q = ub q)); rw [decide_eq_false (fun hh => cz_37 (by rw [hh p (by omega)]))]; rfl)) hP hD hS ⟨Nat.le_of_ble_eq_true rfl, Nat.le_of_ble_eq_true rfl⟩ dX11_same_197
              exact lp_144 _ 0 rfl (by omega) (fun q hq => absurd hq (Nat.not_lt_zero q)) _ _ ls hP hD hS hl
            refine lv_iconst (v := (nI 0)) hx hb dX11_same_139 (by decide) ?_
            exact ck_iret hx hb hrt hlk ⟨fd, lo_b, bk_b, md_b, mn_b⟩ (ckRd_ok (by simp [saF, saO, hx1, exn, hbza, hbzb, qwi1, qwi2, qis1, qis2]) (by rw [saR, exn, hua, hub]; show _ = b2i (decide (∀ q, q < n0 → ua q = ub q)); rw [decide_eq_false (fun hh => cz_35 (by rw [hh p (by omega)]))]; rfl)) hP hD hS ⟨Nat.le_of_ble_eq_true rfl, Nat.le_of_ble_eq_true rfl⟩ dX11_same_140
        exact lp_110 _ 0 rfl (by omega) (fun q hq => absurd hq (Nat.not_lt_zero q)) _ _ ls (hP.sub [1, 0, 2, 3, 4, 5, 6] rfl) (hD.sub [1, 0, 2, 3, 4, 5, 6] (by decide) rfl) hS hl
      have qis2 := cz_33
      refine lv_aload_n hx hb dX11_same_100 rfl (lv_at hl 0 rfl) ?_
      refine lv_ldc (own := RX11) (v := (-100005)) hx hb hown (hg _ k4_83) dX11_same_101 ?_
      refine ck_Vi (As := [.int (-100005)]) (rest := []) (wr := [(ab, .inl (N.2 0, 4, .inl sb)), (az, .inl (N.2 0, 4, .inl sz)), (as_, .inl (N.2 0, 160, .inl st)), (al, .inl (N.2 0, 25, .inl lo_b)), (aw, .inl (N.2 0, 1500, .inl bk_b)), (am, .inl (N.2 0, 200, .inl md_b))]) C0 hP hD hS (c_X11_finds l N mm an ak ab az as_ ae ao ar aw al am af ac ke kn fd mn_b (-100005) ) myX11_finds k4_67 ⟨Nat.le_of_ble_eq_true rfl, Nat.le_of_ble_eq_true rfl⟩ [1] [0, 2, 3, 4, 5, 6] ⟨⟨rfl, rfl⟩, by decide, by decide, by decide⟩ 1 rfl rfl rfl rfl hl.1 rfl (Nat.le_of_ble_eq_true rfl) dX11_same_103 ⟨Nat.le_of_ble_eq_true rfl, Nat.le_of_ble_eq_true rfl⟩ (fun r_38 u0 H locs hw0 hP hD hS => ?_)
      have hw_39 : r_38 = (-100005) := hw0
      subst hw_39
      have hP : va_P N.1 vwCl [(ab, .inl (N.2 0, 4, .inl sb)), (az, .inl (N.2 0, 4, .inl sz)), (as_, .inl (N.2 0, 160, .inl st)), (al, .inl (N.2 0, 25, .inl lo_b)), (aw, .inl (N.2 0, 1500, .inl bk_b)), (am, .inl (N.2 0, 200, .inl md_b)), (mm, .inr (11, [.ref an, .ref ak, .int (nI ke), .int (nI kn), .int (fd + nI 1), .ref ab, .ref az, .ref as_, .ref ae, .ref ao, .ref ar, .ref aw, .ref al, .ref am, .int (nI mn_b), .ref af, .ref ac]))] H := hP
      have hD : va_D Ag [(ab, .inl (N.2 0, 4, .inl sb)), (az, .inl (N.2 0, 4, .inl sz)), (as_, .inl (N.2 0, 160, .inl st)), (al, .inl (N.2 0, 25, .inl lo_b)), (aw, .inl (N.2 0, 1500, .inl bk_b)), (am, .inl (N.2 0, 200, .inl md_b)), (mm, .inr (11, [.ref an, .ref ak, .int (nI ke), .int (nI kn), .int (fd + nI 1), .ref ab, .ref az, .ref as_, .ref ae, .ref ao, .ref ar, .ref aw, .ref al, .ref am, .int (nI mn_b), .ref af, .ref ac]))] := hD
      exact ck_iret hx hb hrt hlk ⟨(fd + nI 1), lo_b, bk_b, md_b, mn_b⟩ (ckRd_f (by simp [saF, saO, hx1, exn, hbza, hbzb, qwi1, qwi2, qis1, qis2]) (by decide)) (hP.sub [6, 0, 1, 2, 3, 4, 5] rfl) (hD.sub [6, 0, 1, 2, 3, 4, 5] (by decide) rfl) hS ⟨Nat.le_of_ble_eq_true rfl, Nat.le_of_ble_eq_true rfl⟩ dX11_same_106
    have qwi2 := cz_23
    refine lv_aload_n hx hb dX11_same_73 rfl (lv_at hl 0 rfl) ?_
    refine lv_ldc (own := RX11) (v := (-100001)) hx hb hown (hg _ k4_81) dX11_same_74 ?_
    refine ck_Vi (As := [.int (-100001)]) (rest := []) (wr := [(ab, .inl (N.2 0, 4, .inl sb)), (al, .inl (N.2 0, 25, .inl lo)), (aw, .inl (N.2 0, 1500, .inl bk)), (am, .inl (N.2 0, 200, .inl md)), (az, .inl (N.2 0, 4, .inl sz)), (as_, .inl (N.2 0, 160, .inl st))]) C0 hP hD hS (c_X11_finds l N mm an ak ab az as_ ae ao ar aw al am af ac ke kn fd mn (-100001) ) myX11_finds k4_67 ⟨Nat.le_of_ble_eq_true rfl, Nat.le_of_ble_eq_true rfl⟩ [4] [0, 1, 2, 3, 5, 6] ⟨⟨rfl, rfl⟩, by decide, by decide, by decide⟩ 4 rfl rfl rfl rfl hl.1 rfl (Nat.le_of_ble_eq_true rfl) dX11_same_76 ⟨Nat.le_of_ble_eq_true rfl, Nat.le_of_ble_eq_true rfl⟩ (fun r_40 u0 H locs hw0 hP hD hS => ?_)
    have hw_41 : r_40 = (-100001) := hw0
    subst hw_41
    have hP : va_P N.1 vwCl [(ab, .inl (N.2 0, 4, .inl sb)), (al, .inl (N.2 0, 25, .inl lo)), (aw, .inl (N.2 0, 1500, .inl bk)), (am, .inl (N.2 0, 200, .inl md)), (az, .inl (N.2 0, 4, .inl sz)), (as_, .inl (N.2 0, 160, .inl st)), (mm, .inr (11, [.ref an, .ref ak, .int (nI ke), .int (nI kn), .int (fd + nI 1), .ref ab, .ref az, .ref as_, .ref ae, .ref ao, .ref ar, .ref aw, .ref al, .ref am, .int (nI mn), .ref af, .ref ac]))] H := hP
    have hD : va_D Ag [(ab, .inl (N.2 0, 4, .inl sb)), (al, .inl (N.2 0, 25, .inl lo)), (aw, .inl (N.2 0, 1500, .inl bk)), (am, .inl (N.2 0, 200, .inl md)), (az, .inl (N.2 0, 4, .inl sz)), (as_, .inl (N.2 0, 160, .inl st)), (mm, .inr (11, [.ref an, .ref ak, .int (nI ke), .int (nI kn), .int (fd + nI 1), .ref ab, .ref az, .ref as_, .ref ae, .ref ao, .ref ar, .ref aw, .ref al, .ref am, .int (nI mn), .ref af, .ref ac]))] := hD
    exact ck_iret hx hb hrt hlk ⟨(fd + nI 1), lo, bk, md, mn⟩ (ckRd_f (by simp [saF, saO, hx1, exn, hbza, hbzb, qwi1, qwi2]) (by decide)) (hP.sub [6, 0, 4, 5, 1, 2, 3] rfl) (hD.sub [6, 0, 4, 5, 1, 2, 3] (by decide) rfl) hS ⟨Nat.le_of_ble_eq_true rfl, Nat.le_of_ble_eq_true rfl⟩ dX11_same_79
  have hbzb : bt2 = 0 := by omega
  refine lv_aload_n hx hb dX11_same_48 rfl (lv_at hl 0 rfl) ?_
  refine lv_ldc (own := RX11) (v := (-100002)) hx hb hown (hg _ k5_17) dX11_same_49 ?_
  refine ck_Vi (As := [.int (-100002)]) (rest := []) (wr := [(ab, .inl (N.2 0, 4, .inl sb)), (az, .inl (N.2 0, 4, .inl sz)), (as_, .inl (N.2 0, 160, .inl st)), (al, .inl (N.2 0, 25, .inl lo)), (aw, .inl (N.2 0, 1500, .inl bk)), (am, .inl (N.2 0, 200, .inl md))]) C0 hP hD hS (c_X11_finds l N mm an ak ab az as_ ae ao ar aw al am af ac ke kn fd mn (-100002) ) myX11_finds k4_67 ⟨Nat.le_of_ble_eq_true rfl, Nat.le_of_ble_eq_true rfl⟩ [0] [1, 2, 3, 4, 5, 6] ⟨⟨rfl, rfl⟩, by decide, by decide, by decide⟩ 0 rfl rfl rfl rfl hl.1 rfl (Nat.le_of_ble_eq_true rfl) dX11_same_51 ⟨Nat.le_of_ble_eq_true rfl, Nat.le_of_ble_eq_true rfl⟩ (fun r_42 u0 H locs hw0 hP hD hS => ?_)
  have hw_43 : r_42 = (-100002) := hw0
  subst hw_43
  have hP : va_P N.1 vwCl [(ab, .inl (N.2 0, 4, .inl sb)), (az, .inl (N.2 0, 4, .inl sz)), (as_, .inl (N.2 0, 160, .inl st)), (al, .inl (N.2 0, 25, .inl lo)), (aw, .inl (N.2 0, 1500, .inl bk)), (am, .inl (N.2 0, 200, .inl md)), (mm, .inr (11, [.ref an, .ref ak, .int (nI ke), .int (nI kn), .int (fd + nI 1), .ref ab, .ref az, .ref as_, .ref ae, .ref ao, .ref ar, .ref aw, .ref al, .ref am, .int (nI mn), .ref af, .ref ac]))] H := hP
  have hD : va_D Ag [(ab, .inl (N.2 0, 4, .inl sb)), (az, .inl (N.2 0, 4, .inl sz)), (as_, .inl (N.2 0, 160, .inl st)), (al, .inl (N.2 0, 25, .inl lo)), (aw, .inl (N.2 0, 1500, .inl bk)), (am, .inl (N.2 0, 200, .inl md)), (mm, .inr (11, [.ref an, .ref ak, .int (nI ke), .int (nI kn), .int (fd + nI 1), .ref ab, .ref az, .ref as_, .ref ae, .ref ao, .ref ar, .ref aw, .ref al, .ref am, .int (nI mn), .ref af, .ref ac]))] := hD
  exact ck_iret hx hb hrt hlk ⟨(fd + nI 1), lo, bk, md, mn⟩ (ckRd_f (by simp [saF, saO, hx1, exn, hbza, hbzb]) (by decide)) (hP.sub [6, 0, 1, 2, 3, 4, 5] rfl) (hD.sub [6, 0, 1, 2, 3, 4, 5] (by decide) rfl) hS ⟨Nat.le_of_ble_eq_true rfl, Nat.le_of_ble_eq_true rfl⟩ dX11_same_54
set_option maxHeartbeats 4000000 in
set_option maxRecDepth 100000 in
/-- X11_same -/
theorem c_X11_same_f (l : Launch) (N : ckN) (mm : Nat) (an : Nat) (ak : Nat) (ab : Nat) (az : Nat) (as_ : Nat) (ae : Nat) (ao : Nat) (ar : Nat) (aw : Nat) (al : Nat) (am : Nat) (af : Nat) (ac : Nat) (ke : Nat) (kn : Nat) (fd : Int32) (mn : Nat) (x : Int32) (y : Int32) (z : Int32) (hbad : (ckIn y (nI 0) (nI 3) && ckIn z (nI 0) (nI 3)) = false) : ckI l yX11_same cX11_same 6 (some FieldType.int) { frames := 4, cells := 0, slots := 0, locals := 102 } N [.ref mm, .int x, .int y, .int z] [(mm, .inr (11, [.ref an, .ref ak, .int (nI ke), .int (nI kn), .int fd, .ref ab, .ref az, .ref as_, .ref ae, .ref ao, .ref ar, .ref aw, .ref al, .ref am, .int (nI mn), .ref af, .ref ac]))] (fun (r : Int32) (u : Int32) => ckRd (-100001) (0) fd r u) (fun (u : Int32) => [(mm, .inr (11, [.ref an, .ref ak, .int (nI ke), .int (nI kn), .int u, .ref ab, .ref az, .ref as_, .ref ae, .ref ao, .ref ar, .ref aw, .ref al, .ref am, .int (nI mn), .ref af, .ref ac]))]) := by
  refine ckI.of (by decide) (Nat.le_of_ble_eq_true rfl) ?_
  intro pg eg sg mg blw mth cg Ag ls hx hb hrt hml hown hlk hin hg hE hA hP hD hS hl
  have hown : sg.vm.findClass RX11 = some mg.cls := hown
  have hl : lv_has ls 6 [(0, .ref mm), (1, .int x), (2, .int y), (3, .int z)] := hl
  have C0 : ckC pg sg mg ([.ref mm, .int x, .int y, .int z]).toArray cg cX11_same 6 RX11 N Ag := ⟨⟨hx, hb, hml, hown, hg⟩, hE, hA⟩
  generalize hHe : sg.heap = H at hP
  have hS : va_S Ag sg.heap H [] := hHe ▸ hS
  refine lv_iload_n hx hb dX11_same_0 rfl (lv_at hl 1 rfl) ?_
  refine lv_iconst (v := (nI 2)) hx hb dX11_same_1 (by decide) ?_
  refine lv_iconst (v := (nI 5)) hx hb dX11_same_2 (by decide) ?_
  refine ck_Si (As := [.int x, .int (nI 2), .int (nI 5)]) (rest := []) (wr := [(mm, .inr (11, [.ref an, .ref ak, .int (nI ke), .int (nI kn), .int fd, .ref ab, .ref az, .ref as_, .ref ae, .ref ao, .ref ar, .ref aw, .ref al, .ref am, .int (nI mn), .ref af, .ref ac]))]) C0 hP hD hS (c_X11_in l N x (nI 2) (nI 5) ) myX11_in k4_75 ⟨Nat.le_of_ble_eq_true rfl, Nat.le_of_ble_eq_true rfl⟩ [] [0] ⟨⟨rfl, rfl⟩, by decide, by decide, by decide⟩ rfl hl.1 rfl (Nat.le_of_ble_eq_true rfl) dX11_same_3 ⟨Nat.le_of_ble_eq_true rfl, Nat.le_of_ble_eq_true rfl⟩ (fun r_1 u0 H locs hw0 hP hD hS => ?_)
  have hw_2 : r_1 = (b2i (ckIn x (nI 2) (nI 5))) := hw0
  subst hw_2
  have hP : va_P N.1 vwCl [(mm, .inr (11, [.ref an, .ref ak, .int (nI ke), .int (nI kn), .int fd, .ref ab, .ref az, .ref as_, .ref ae, .ref ao, .ref ar, .ref aw, .ref al, .ref am, .int (nI mn), .ref af, .ref ac]))] H := hP
  have hD : va_D Ag [(mm, .inr (11, [.ref an, .ref ak, .int (nI ke), .int (nI kn), .int fd, .ref ab, .ref az, .ref as_, .ref ae, .ref ao, .ref ar, .ref aw, .ref al, .ref am, .int (nI mn), .ref af, .ref ac]))] := hD
  refine ck_ifeq (b := ckIn x (nI 2) (nI 5)) (tgt := 23) hx hb dX11_same_6 (by decide) (fun cz_3 => ?_) (fun cz_3 => ?_)
  · refine lv_aload_n hx hb dX11_same_23 rfl (lv_at hl 0 rfl) ?_
    refine lv_ldc (own := RX11) (v := (-100001)) hx hb hown (hg _ k4_81) dX11_same_24 ?_
    refine ck_Vi (As := [.int (-100001)]) (rest := []) (wr := []) C0 hP hD hS (c_X11_finds l N mm an ak ab az as_ ae ao ar aw al am af ac ke kn fd mn (-100001) ) myX11_finds k4_67 ⟨Nat.le_of_ble_eq_true rfl, Nat.le_of_ble_eq_true rfl⟩ [0] [] ⟨⟨rfl, rfl⟩, by decide, by decide, by decide⟩ 0 rfl rfl rfl rfl hl.1 rfl (Nat.le_of_ble_eq_true rfl) dX11_same_26 ⟨Nat.le_of_ble_eq_true rfl, Nat.le_of_ble_eq_true rfl⟩ (fun r_4 u0 H locs hw0 hP hD hS => ?_)
    have hw_5 : r_4 = (-100001) := hw0
    subst hw_5
    have hP : va_P N.1 vwCl [(mm, .inr (11, [.ref an, .ref ak, .int (nI ke), .int (nI kn), .int (fd + nI 1), .ref ab, .ref az, .ref as_, .ref ae, .ref ao, .ref ar, .ref aw, .ref al, .ref am, .int (nI mn), .ref af, .ref ac]))] H := hP
    have hD : va_D Ag [(mm, .inr (11, [.ref an, .ref ak, .int (nI ke), .int (nI kn), .int (fd + nI 1), .ref ab, .ref az, .ref as_, .ref ae, .ref ao, .ref ar, .ref aw, .ref al, .ref am, .int (nI mn), .ref af, .ref ac]))] := hD
    exact ck_iret hx hb hrt hlk ((fd + nI 1)) (ckRd_f rfl (by decide)) hP hD hS ⟨Nat.le_of_ble_eq_true rfl, Nat.le_of_ble_eq_true rfl⟩ dX11_same_29
  refine lv_iload_n hx hb dX11_same_9 rfl (lv_at hl 2 rfl) ?_
  refine ck_Si (As := [.int y]) (rest := []) (wr := [(mm, .inr (11, [.ref an, .ref ak, .int (nI ke), .int (nI kn), .int fd, .ref ab, .ref az, .ref as_, .ref ae, .ref ao, .ref ar, .ref aw, .ref al, .ref am, .int (nI mn), .ref af, .ref ac]))]) C0 hP hD hS (c_X11_isSheet l N y ) myX11_isSheet k5_14 ⟨Nat.le_of_ble_eq_true rfl, Nat.le_of_ble_eq_true rfl⟩ [] [0] ⟨⟨rfl, rfl⟩, by decide, by decide, by decide⟩ rfl hl.1 rfl (Nat.le_of_ble_eq_true rfl) dX11_same_10 ⟨Nat.le_of_ble_eq_true rfl, Nat.le_of_ble_eq_true rfl⟩ (fun r_6 u0 H locs hw0 hP hD hS => ?_)
  have hw_7 : r_6 = (b2i (ckIn y (nI 0) (nI 3))) := hw0
  subst hw_7
  have hP : va_P N.1 vwCl [(mm, .inr (11, [.ref an, .ref ak, .int (nI ke), .int (nI kn), .int fd, .ref ab, .ref az, .ref as_, .ref ae, .ref ao, .ref ar, .ref aw, .ref al, .ref am, .int (nI mn), .ref af, .ref ac]))] H := hP
  have hD : va_D Ag [(mm, .inr (11, [.ref an, .ref ak, .int (nI ke), .int (nI kn), .int fd, .ref ab, .ref az, .ref as_, .ref ae, .ref ao, .ref ar, .ref aw, .ref al, .ref am, .int (nI mn), .ref af, .ref ac]))] := hD
  refine ck_ifeq (b := ckIn y (nI 0) (nI 3)) (tgt := 23) hx hb dX11_same_13 (by decide) (fun cz_8 => ?_) (fun cz_8 => ?_)
  · refine lv_aload_n hx hb dX11_same_23 rfl (lv_at hl 0 rfl) ?_
    refine lv_ldc (own := RX11) (v := (-100001)) hx hb hown (hg _ k4_81) dX11_same_24 ?_
    refine ck_Vi (As := [.int (-100001)]) (rest := []) (wr := []) C0 hP hD hS (c_X11_finds l N mm an ak ab az as_ ae ao ar aw al am af ac ke kn fd mn (-100001) ) myX11_finds k4_67 ⟨Nat.le_of_ble_eq_true rfl, Nat.le_of_ble_eq_true rfl⟩ [0] [] ⟨⟨rfl, rfl⟩, by decide, by decide, by decide⟩ 0 rfl rfl rfl rfl hl.1 rfl (Nat.le_of_ble_eq_true rfl) dX11_same_26 ⟨Nat.le_of_ble_eq_true rfl, Nat.le_of_ble_eq_true rfl⟩ (fun r_9 u0 H locs hw0 hP hD hS => ?_)
    have hw_10 : r_9 = (-100001) := hw0
    subst hw_10
    have hP : va_P N.1 vwCl [(mm, .inr (11, [.ref an, .ref ak, .int (nI ke), .int (nI kn), .int (fd + nI 1), .ref ab, .ref az, .ref as_, .ref ae, .ref ao, .ref ar, .ref aw, .ref al, .ref am, .int (nI mn), .ref af, .ref ac]))] H := hP
    have hD : va_D Ag [(mm, .inr (11, [.ref an, .ref ak, .int (nI ke), .int (nI kn), .int (fd + nI 1), .ref ab, .ref az, .ref as_, .ref ae, .ref ao, .ref ar, .ref aw, .ref al, .ref am, .int (nI mn), .ref af, .ref ac]))] := hD
    exact ck_iret hx hb hrt hlk ((fd + nI 1)) (ckRd_f rfl (by decide)) hP hD hS ⟨Nat.le_of_ble_eq_true rfl, Nat.le_of_ble_eq_true rfl⟩ dX11_same_29
  refine lv_iload_n hx hb dX11_same_16 rfl (lv_at hl 3 rfl) ?_
  refine ck_Si (As := [.int z]) (rest := []) (wr := [(mm, .inr (11, [.ref an, .ref ak, .int (nI ke), .int (nI kn), .int fd, .ref ab, .ref az, .ref as_, .ref ae, .ref ao, .ref ar, .ref aw, .ref al, .ref am, .int (nI mn), .ref af, .ref ac]))]) C0 hP hD hS (c_X11_isSheet l N z ) myX11_isSheet k5_14 ⟨Nat.le_of_ble_eq_true rfl, Nat.le_of_ble_eq_true rfl⟩ [] [0] ⟨⟨rfl, rfl⟩, by decide, by decide, by decide⟩ rfl hl.1 rfl (Nat.le_of_ble_eq_true rfl) dX11_same_17 ⟨Nat.le_of_ble_eq_true rfl, Nat.le_of_ble_eq_true rfl⟩ (fun r_11 u0 H locs hw0 hP hD hS => ?_)
  have hw_12 : r_11 = (b2i (ckIn z (nI 0) (nI 3))) := hw0
  subst hw_12
  have hP : va_P N.1 vwCl [(mm, .inr (11, [.ref an, .ref ak, .int (nI ke), .int (nI kn), .int fd, .ref ab, .ref az, .ref as_, .ref ae, .ref ao, .ref ar, .ref aw, .ref al, .ref am, .int (nI mn), .ref af, .ref ac]))] H := hP
  have hD : va_D Ag [(mm, .inr (11, [.ref an, .ref ak, .int (nI ke), .int (nI kn), .int fd, .ref ab, .ref az, .ref as_, .ref ae, .ref ao, .ref ar, .ref aw, .ref al, .ref am, .int (nI mn), .ref af, .ref ac]))] := hD
  refine ck_ifne (b := ckIn z (nI 0) (nI 3)) (tgt := 30) hx hb dX11_same_20 (by decide) (fun cz_13 => absurd cz_13 (by intro q; rw [cz_8, q] at hbad; cases hbad)) (fun cz_13 => ?_)
  refine lv_aload_n hx hb dX11_same_23 rfl (lv_at hl 0 rfl) ?_
  refine lv_ldc (own := RX11) (v := (-100001)) hx hb hown (hg _ k4_81) dX11_same_24 ?_
  refine ck_Vi (As := [.int (-100001)]) (rest := []) (wr := []) C0 hP hD hS (c_X11_finds l N mm an ak ab az as_ ae ao ar aw al am af ac ke kn fd mn (-100001) ) myX11_finds k4_67 ⟨Nat.le_of_ble_eq_true rfl, Nat.le_of_ble_eq_true rfl⟩ [0] [] ⟨⟨rfl, rfl⟩, by decide, by decide, by decide⟩ 0 rfl rfl rfl rfl hl.1 rfl (Nat.le_of_ble_eq_true rfl) dX11_same_26 ⟨Nat.le_of_ble_eq_true rfl, Nat.le_of_ble_eq_true rfl⟩ (fun r_14 u0 H locs hw0 hP hD hS => ?_)
  have hw_15 : r_14 = (-100001) := hw0
  subst hw_15
  have hP : va_P N.1 vwCl [(mm, .inr (11, [.ref an, .ref ak, .int (nI ke), .int (nI kn), .int (fd + nI 1), .ref ab, .ref az, .ref as_, .ref ae, .ref ao, .ref ar, .ref aw, .ref al, .ref am, .int (nI mn), .ref af, .ref ac]))] H := hP
  have hD : va_D Ag [(mm, .inr (11, [.ref an, .ref ak, .int (nI ke), .int (nI kn), .int (fd + nI 1), .ref ab, .ref az, .ref as_, .ref ae, .ref ao, .ref ar, .ref aw, .ref al, .ref am, .int (nI mn), .ref af, .ref ac]))] := hD
  exact ck_iret hx hb hrt hlk ((fd + nI 1)) (ckRd_f rfl (by decide)) hP hD hS ⟨Nat.le_of_ble_eq_true rfl, Nat.le_of_ble_eq_true rfl⟩ dX11_same_29
