/-! the model's sheets, its beginning -/
def pvW (b : Nat) (v : Int32) : Int32 := if b = 8 then v.toInt8.toInt32 else if b = 16 then v.toInt16.toInt32 else v
set_option maxHeartbeats 4000000 in
set_option maxRecDepth 100000 in
/-- X11_put -/
theorem c_X11_put_k (l : Launch) (N : ckN) (mm : Nat) (an : Nat) (ak : Nat) (ab : Nat) (az : Nat) (as_ : Nat) (ae : Nat) (ao : Nat) (ar : Nat) (aw : Nat) (al : Nat) (am : Nat) (af : Nat) (ac : Nat) (ke : Nat) (kn : Nat) (fd : Int32) (mn : Nat) (sb : Nat → Int32) (sz : Nat → Int32) (st : Nat → Int32) (s1 : Nat) (bt1 : Nat) (ct1 : Nat) (nu1 : Nat → Int32) (y : Int32) (z : Int32) (hs1 : s1 < 4) (hsb1 : sb s1 = nI bt1) (hsz1 : sz s1 = nI ct1) (hst1 : ∀ k, k < ct1 → st (40 * s1 + k) = nu1 k) (hc1 : ct1 ≤ 40) (hb1 : bt1 ≤ 32) : ckI l yX11_put cX11_put 4 (some FieldType.int) { frames := 4, cells := 0, slots := 0, locals := 102 } N [.ref mm, .int (nI s1), .int y, .int z] [(mm, .inr (11, [.ref an, .ref ak, .int (nI ke), .int (nI kn), .int fd, .ref ab, .ref az, .ref as_, .ref ae, .ref ao, .ref ar, .ref aw, .ref al, .ref am, .int (nI mn), .ref af, .ref ac])), (ab, .inl (N.2 0, 4, .inl sb)), (az, .inl (N.2 0, 4, .inl sz)), (as_, .inl (N.2 0, 160, .inl st))] (fun (r : Int32) (u : Int32 × (Nat → Int32)) => (ckRd (puF bt1 ct1 y) (0) fd r u.1) ∧ ((puF bt1 ct1 y = 0 ∧ u.2 = upd st (40 * s1 + ix y) (pvW bt1 z)) ∨ (puF bt1 ct1 y ≠ 0 ∧ u.2 = st))) (fun (u : Int32 × (Nat → Int32)) => [(mm, .inr (11, [.ref an, .ref ak, .int (nI ke), .int (nI kn), .int u.1, .ref ab, .ref az, .ref as_, .ref ae, .ref ao, .ref ar, .ref aw, .ref al, .ref am, .int (nI mn), .ref af, .ref ac])), (ab, .inl (N.2 0, 4, .inl sb)), (az, .inl (N.2 0, 4, .inl sz)), (as_, .inl (N.2 0, 160, .inl u.2))]) := by
  refine ckI.of (by decide) (Nat.le_of_ble_eq_true rfl) ?_
  intro pg eg sg mg blw mth cg Ag ls hx hb hrt hml hown hlk hin hg hE hA hP hD hS hl
  have hown : sg.vm.findClass RX11 = some mg.cls := hown
  have hl : lv_has ls 4 [(0, .ref mm), (1, .int (nI s1)), (2, .int y), (3, .int z)] := hl
  have C0 : ckC pg sg mg ([.ref mm, .int (nI s1), .int y, .int z]).toArray cg cX11_put 4 RX11 N Ag := ⟨⟨hx, hb, hml, hown, hg⟩, hE, hA⟩
  generalize hHe : sg.heap = H at hP
  have hS : va_S Ag sg.heap H [] := hHe ▸ hS
  have hk1 : ckIn (nI s1) (nI 0) (nI 3) = true := ckIn_in (by omega) (by omega) (by decide)
  refine lv_iload_n hx hb dX11_put_0 rfl (lv_at hl 1 rfl) ?_
  refine ck_Si (As := [.int (nI s1)]) (rest := []) (wr := [(mm, .inr (11, [.ref an, .ref ak, .int (nI ke), .int (nI kn), .int fd, .ref ab, .ref az, .ref as_, .ref ae, .ref ao, .ref ar, .ref aw, .ref al, .ref am, .int (nI mn), .ref af, .ref ac])), (ab, .inl (N.2 0, 4, .inl sb)), (az, .inl (N.2 0, 4, .inl sz)), (as_, .inl (N.2 0, 160, .inl st))]) C0 hP hD hS (c_X11_isSheet l N (nI s1) ) myX11_isSheet k5_14 ⟨Nat.le_of_ble_eq_true rfl, Nat.le_of_ble_eq_true rfl⟩ [] [0, 1, 2, 3] ⟨⟨rfl, rfl⟩, by decide, by decide, by decide⟩ rfl hl.1 rfl (Nat.le_of_ble_eq_true rfl) dX11_put_1 ⟨Nat.le_of_ble_eq_true rfl, Nat.le_of_ble_eq_true rfl⟩ (fun r_1 u0 H locs hw0 hP hD hS => ?_)
  have hw_2 : r_1 = (b2i (ckIn (nI s1) (nI 0) (nI 3))) := hw0
  subst hw_2
  have hP : va_P N.1 vwCl [(mm, .inr (11, [.ref an, .ref ak, .int (nI ke), .int (nI kn), .int fd, .ref ab, .ref az, .ref as_, .ref ae, .ref ao, .ref ar, .ref aw, .ref al, .ref am, .int (nI mn), .ref af, .ref ac])), (ab, .inl (N.2 0, 4, .inl sb)), (az, .inl (N.2 0, 4, .inl sz)), (as_, .inl (N.2 0, 160, .inl st))] H := hP
  have hD : va_D Ag [(mm, .inr (11, [.ref an, .ref ak, .int (nI ke), .int (nI kn), .int fd, .ref ab, .ref az, .ref as_, .ref ae, .ref ao, .ref ar, .ref aw, .ref al, .ref am, .int (nI mn), .ref af, .ref ac])), (ab, .inl (N.2 0, 4, .inl sb)), (az, .inl (N.2 0, 4, .inl sz)), (as_, .inl (N.2 0, 160, .inl st))] := hD
  refine ck_ifne (b := ckIn (nI s1) (nI 0) (nI 3)) (tgt := 14) hx hb dX11_put_4 (by decide) (fun cz_3 => ?_) (fun cz_3 => absurd cz_3 (by rw [hk1]; decide))
  refine lv_aload_n hx hb dX11_put_14 rfl (lv_at hl 0 rfl) ?_
  refine va_get (ci := 11) (v := .ref ab) (C := RX11) (T := TX11) (N := 17) hx hb hg inX11 hown hE.1 hP 0 rfl rfl 5 (by decide) (hg _ k4_15) (fun _ h9 => h9) rfl dX11_put_15 ?_
  refine lv_iload_n hx hb dX11_put_18 rfl (lv_at hl 1 rfl) ?_
  refine ck_iald hx hb hE hP 1 rfl (by omega) (by decide) dX11_put_19 ?_
  refine ck_top (y := (nI bt1)) hsb1 ?_
  refine ck_if0_ne (tgt := 30) hx hb dX11_put_20 (by decide) (by omega) (fun cz_4 => ?_) (fun cz_4 => ?_)
  · have hbz : ¬ bt1 = 0 := by omega
    refine lv_iload_n hx hb dX11_put_30 rfl (lv_at hl 2 rfl) ?_
    refine lv_iconst (v := (nI 0)) hx hb dX11_put_31 (by decide) ?_
    refine lv_aload_n hx hb dX11_put_32 rfl (lv_at hl 0 rfl) ?_
    refine va_get (ci := 11) (v := .ref az) (C := RX11) (T := TX11) (N := 17) hx hb hg inX11 hown hE.1 hP 0 rfl rfl 6 (by decide) (hg _ k4_16) (fun _ h9 => h9) rfl dX11_put_33 ?_
    refine lv_iload_n hx hb dX11_put_36 rfl (lv_at hl 1 rfl) ?_
    refine ck_iald hx hb hE hP 2 rfl (by omega) (by decide) dX11_put_37 ?_
    refine ck_top (y := (nI ct1)) hsz1 ?_
    refine lv_iconst (v := (nI 1)) hx hb dX11_put_38 (by decide) ?_
    refine lv_isub hx hb dX11_put_39 ?_
    refine ck_Si (As := [.int y, .int (nI 0), .int ((nI ct1) - (nI 1))]) (rest := []) (wr := [(mm, .inr (11, [.ref an, .ref ak, .int (nI ke), .int (nI kn), .int fd, .ref ab, .ref az, .ref as_, .ref ae, .ref ao, .ref ar, .ref aw, .ref al, .ref am, .int (nI mn), .ref af, .ref ac])), (ab, .inl (N.2 0, 4, .inl sb)), (az, .inl (N.2 0, 4, .inl sz)), (as_, .inl (N.2 0, 160, .inl st))]) C0 hP hD hS (c_X11_in l N y (nI 0) ((nI ct1) - (nI 1)) ) myX11_in k4_75 ⟨Nat.le_of_ble_eq_true rfl, Nat.le_of_ble_eq_true rfl⟩ [] [0, 1, 2, 3] ⟨⟨rfl, rfl⟩, by decide, by decide, by decide⟩ rfl hl.1 rfl (Nat.le_of_ble_eq_true rfl) dX11_put_40 ⟨Nat.le_of_ble_eq_true rfl, Nat.le_of_ble_eq_true rfl⟩ (fun r_5 u0 H locs hw0 hP hD hS => ?_)
    have hw_6 : r_5 = (b2i (ckIn y (nI 0) ((nI ct1) - (nI 1)))) := hw0
    subst hw_6
    have hP : va_P N.1 vwCl [(mm, .inr (11, [.ref an, .ref ak, .int (nI ke), .int (nI kn), .int fd, .ref ab, .ref az, .ref as_, .ref ae, .ref ao, .ref ar, .ref aw, .ref al, .ref am, .int (nI mn), .ref af, .ref ac])), (ab, .inl (N.2 0, 4, .inl sb)), (az, .inl (N.2 0, 4, .inl sz)), (as_, .inl (N.2 0, 160, .inl st))] H := hP
    have hD : va_D Ag [(mm, .inr (11, [.ref an, .ref ak, .int (nI ke), .int (nI kn), .int fd, .ref ab, .ref az, .ref as_, .ref ae, .ref ao, .ref ar, .ref aw, .ref al, .ref am, .int (nI mn), .ref af, .ref ac])), (ab, .inl (N.2 0, 4, .inl sb)), (az, .inl (N.2 0, 4, .inl sz)), (as_, .inl (N.2 0, 160, .inl st))] := hD
    refine ck_ifne (b := ckIn y (nI 0) ((nI ct1) - (nI 1))) (tgt := 53) hx hb dX11_put_43 (by decide) (fun cz_7 => ?_) (fun cz_7 => ?_)
    · have hq : ckLt y ct1 = true := (ckIn_m1 (by omega)).symm.trans cz_7
      have hq0 := hq
      obtain ⟨k, hk, rfl⟩ := (ckLt_t (by omega)).mp hq
      have exk : ix (nI k) = k := ix_nI (by omega)
      refine lv_aload_n hx hb dX11_put_53 rfl (lv_at hl 0 rfl) ?_
      refine va_get (ci := 11) (v := .ref as_) (C := RX11) (T := TX11) (N := 17) hx hb hg inX11 hown hE.1 hP 0 rfl rfl 7 (by decide) (hg _ k4_17) (fun _ h9 => h9) rfl dX11_put_54 ?_
      refine lv_bipush (v := (nI 40)) hx hb dX11_put_57 (by decide) ?_
      refine lv_iload_n hx hb dX11_put_59 rfl (lv_at hl 1 rfl) ?_
      refine lv_imul hx hb dX11_put_60 ?_
      refine ck_top (y := (nI (40 * s1))) (pk_mul _ _) ?_
      refine lv_iload_n hx hb dX11_put_61 rfl (lv_at hl 2 rfl) ?_
      refine lv_iadd hx hb dX11_put_62 ?_
      refine ck_top (y := (nI (40 * s1 + k))) (nI_add _ _) ?_
      refine lv_aload_n hx hb dX11_put_63 rfl (lv_at hl 0 rfl) ?_
      refine va_get (ci := 11) (v := .ref ab) (C := RX11) (T := TX11) (N := 17) hx hb hg inX11 hown hE.1 hP 0 rfl rfl 5 (by decide) (hg _ k4_15) (fun _ h9 => h9) rfl dX11_put_64 ?_
      refine lv_iload_n hx hb dX11_put_67 rfl (lv_at hl 1 rfl) ?_
      refine ck_iald hx hb hE hP 1 rfl (by omega) (by decide) dX11_put_68 ?_
      refine ck_top (y := (nI bt1)) hsb1 ?_
      refine lv_bipush (v := (nI 8)) hx hb dX11_put_69 (by decide) ?_
      refine ck_ic_ne (tgt := 79) hx hb dX11_put_71 (by decide) (by omega) (by omega) (fun cz_8 => ?_) (fun cz_8 => ?_)
      · have h8 : ¬ bt1 = 8 := by omega
        refine lv_aload_n hx hb dX11_put_79 rfl (lv_at hl 0 rfl) ?_
        refine va_get (ci := 11) (v := .ref ab) (C := RX11) (T := TX11) (N := 17) hx hb hg inX11 hown hE.1 hP 0 rfl rfl 5 (by decide) (hg _ k4_15) (fun _ h9 => h9) rfl dX11_put_80 ?_
        refine lv_iload_n hx hb dX11_put_83 rfl (lv_at hl 1 rfl) ?_
        refine ck_iald hx hb hE hP 1 rfl (by omega) (by decide) dX11_put_84 ?_
        refine ck_top (y := (nI bt1)) hsb1 ?_
        refine lv_bipush (v := (nI 16)) hx hb dX11_put_85 (by decide) ?_
        refine ck_ic_ne (tgt := 95) hx hb dX11_put_87 (by decide) (by omega) (by omega) (fun cz_9 => ?_) (fun cz_9 => ?_)
        · have h16 : ¬ bt1 = 16 := by omega
          refine lv_iload_n hx hb dX11_put_95 rfl (lv_at hl 3 rfl) ?_
          refine ck_iast hx hb hE hP hD hS 3 rfl (by omega) (by decide) dX11_put_96 (ws1 := [(mm, .inr (11, [.ref an, .ref ak, .int (nI ke), .int (nI kn), .int fd, .ref ab, .ref az, .ref as_, .ref ae, .ref ao, .ref ar, .ref aw, .ref al, .ref am, .int (nI mn), .ref af, .ref ac])), (ab, .inl (N.2 0, 4, .inl sb)), (az, .inl (N.2 0, 4, .inl sz)), (as_, .inl (N.2 0, 160, .inl (upd st (40 * s1 + k) z)))]) rfl (fun H locs hP hD hS => ?_)
          refine lv_iconst (v := (nI 0)) hx hb dX11_put_97 (by decide) ?_
          exact ck_iret hx hb hrt hlk ⟨fd, upd st (40 * s1 + k) z⟩ (by have he : puF bt1 ct1 (nI k) = 0 := (by simp [puF, hbz, hq0]); exact ⟨ckRd_ok he rfl, Or.inl ⟨he, (by rw [exk, pvW, if_neg h8, if_neg h16])⟩⟩) hP hD hS ⟨Nat.le_of_ble_eq_true rfl, Nat.le_of_ble_eq_true rfl⟩ dX11_put_98
        have h16 : bt1 = 16 := by omega
        refine lv_iload_n hx hb dX11_put_90 rfl (lv_at hl 3 rfl) ?_
        refine lv_i2s (v := z.toInt16.toInt32) hx hb dX11_put_91 rfl ?_
        refine lv_goto (tgt := 96) hx hb dX11_put_92 (by decide) ?_
        refine ck_iast hx hb hE hP hD hS 3 rfl (by omega) (by decide) dX11_put_96 (ws1 := [(mm, .inr (11, [.ref an, .ref ak, .int (nI ke), .int (nI kn), .int fd, .ref ab, .ref az, .ref as_, .ref ae, .ref ao, .ref ar, .ref aw, .ref al, .ref am, .int (nI mn), .ref af, .ref ac])), (ab, .inl (N.2 0, 4, .inl sb)), (az, .inl (N.2 0, 4, .inl sz)), (as_, .inl (N.2 0, 160, .inl (upd st (40 * s1 + k) z.toInt16.toInt32)))]) rfl (fun H locs hP hD hS => ?_)
        refine lv_iconst (v := (nI 0)) hx hb dX11_put_97 (by decide) ?_
        exact ck_iret hx hb hrt hlk ⟨fd, upd st (40 * s1 + k) z.toInt16.toInt32⟩ (by have he : puF bt1 ct1 (nI k) = 0 := (by simp [puF, hbz, hq0]); exact ⟨ckRd_ok he rfl, Or.inl ⟨he, (by rw [exk, pvW, if_neg h8, if_pos h16])⟩⟩) hP hD hS ⟨Nat.le_of_ble_eq_true rfl, Nat.le_of_ble_eq_true rfl⟩ dX11_put_98
      have h8 : bt1 = 8 := by omega
      refine lv_iload_n hx hb dX11_put_74 rfl (lv_at hl 3 rfl) ?_
      refine lv_i2b (v := z.toInt8.toInt32) hx hb dX11_put_75 rfl ?_
      refine lv_goto (tgt := 96) hx hb dX11_put_76 (by decide) ?_
      refine ck_iast hx hb hE hP hD hS 3 rfl (by omega) (by decide) dX11_put_96 (ws1 := [(mm, .inr (11, [.ref an, .ref ak, .int (nI ke), .int (nI kn), .int fd, .ref ab, .ref az, .ref as_, .ref ae, .ref ao, .ref ar, .ref aw, .ref al, .ref am, .int (nI mn), .ref af, .ref ac])), (ab, .inl (N.2 0, 4, .inl sb)), (az, .inl (N.2 0, 4, .inl sz)), (as_, .inl (N.2 0, 160, .inl (upd st (40 * s1 + k) z.toInt8.toInt32)))]) rfl (fun H locs hP hD hS => ?_)
      refine lv_iconst (v := (nI 0)) hx hb dX11_put_97 (by decide) ?_
      exact ck_iret hx hb hrt hlk ⟨fd, upd st (40 * s1 + k) z.toInt8.toInt32⟩ (by have he : puF bt1 ct1 (nI k) = 0 := (by simp [puF, hbz, hq0]); exact ⟨ckRd_ok he rfl, Or.inl ⟨he, (by rw [exk, pvW, if_pos h8])⟩⟩) hP hD hS ⟨Nat.le_of_ble_eq_true rfl, Nat.le_of_ble_eq_true rfl⟩ dX11_put_98
    have hq : ckLt y ct1 = false := (ckIn_m1 (by omega)).symm.trans cz_7
    refine lv_aload_n hx hb dX11_put_46 rfl (lv_at hl 0 rfl) ?_
    refine lv_ldc (own := RX11) (v := (-100001)) hx hb hown (hg _ k4_81) dX11_put_47 ?_
    refine ck_Vi (As := [.int (-100001)]) (rest := []) (wr := [(ab, .inl (N.2 0, 4, .inl sb)), (az, .inl (N.2 0, 4, .inl sz)), (as_, .inl (N.2 0, 160, .inl st))]) C0 hP hD hS (c_X11_finds l N mm an ak ab az as_ ae ao ar aw al am af ac ke kn fd mn (-100001) ) myX11_finds k4_67 ⟨Nat.le_of_ble_eq_true rfl, Nat.le_of_ble_eq_true rfl⟩ [0] [1, 2, 3] ⟨⟨rfl, rfl⟩, by decide, by decide, by decide⟩ 0 rfl rfl rfl rfl hl.1 rfl (Nat.le_of_ble_eq_true rfl) dX11_put_49 ⟨Nat.le_of_ble_eq_true rfl, Nat.le_of_ble_eq_true rfl⟩ (fun r_10 u0 H locs hw0 hP hD hS => ?_)
    have hw_11 : r_10 = (-100001) := hw0
    subst hw_11
    have hP : va_P N.1 vwCl [(ab, .inl (N.2 0, 4, .inl sb)), (az, .inl (N.2 0, 4, .inl sz)), (as_, .inl (N.2 0, 160, .inl st)), (mm, .inr (11, [.ref an, .ref ak, .int (nI ke), .int (nI kn), .int (fd + nI 1), .ref ab, .ref az, .ref as_, .ref ae, .ref ao, .ref ar, .ref aw, .ref al, .ref am, .int (nI mn), .ref af, .ref ac]))] H := hP
    have hD : va_D Ag [(ab, .inl (N.2 0, 4, .inl sb)), (az, .inl (N.2 0, 4, .inl sz)), (as_, .inl (N.2 0, 160, .inl st)), (mm, .inr (11, [.ref an, .ref ak, .int (nI ke), .int (nI kn), .int (fd + nI 1), .ref ab, .ref az, .ref as_, .ref ae, .ref ao, .ref ar, .ref aw, .ref al, .ref am, .int (nI mn), .ref af, .ref ac]))] := hD
    exact ck_iret hx hb hrt hlk ⟨(fd + nI 1), st⟩ (by have he : puF bt1 ct1 y = (-100001) := (by simp [puF, hbz, hq]); exact ⟨ckRd_f he (by decide), Or.inr ⟨fun q => absurd (he.symm.trans q) (by decide), rfl⟩⟩) (hP.sub [3, 0, 1, 2] rfl) (hD.sub [3, 0, 1, 2] (by decide) rfl) hS ⟨Nat.le_of_ble_eq_true rfl, Nat.le_of_ble_eq_true rfl⟩ dX11_put_52
  have hbz : bt1 = 0 := by omega
  refine lv_aload_n hx hb dX11_put_23 rfl (lv_at hl 0 rfl) ?_
  refine lv_ldc (own := RX11) (v := (-100002)) hx hb hown (hg _ k5_17) dX11_put_24 ?_
  refine ck_Vi (As := [.int (-100002)]) (rest := []) (wr := [(ab, .inl (N.2 0, 4, .inl sb)), (az, .inl (N.2 0, 4, .inl sz)), (as_, .inl (N.2 0, 160, .inl st))]) C0 hP hD hS (c_X11_finds l N mm an ak ab az as_ ae ao ar aw al am af ac ke kn fd mn (-100002) ) myX11_finds k4_67 ⟨Nat.le_of_ble_eq_true rfl, Nat.le_of_ble_eq_true rfl⟩ [0] [1, 2, 3] ⟨⟨rfl, rfl⟩, by decide, by decide, by decide⟩ 0 rfl rfl rfl rfl hl.1 rfl (Nat.le_of_ble_eq_true rfl) dX11_put_26 ⟨Nat.le_of_ble_eq_true rfl, Nat.le_of_ble_eq_true rfl⟩ (fun r_12 u0 H locs hw0 hP hD hS => ?_)
  have hw_13 : r_12 = (-100002) := hw0
  subst hw_13
  have hP : va_P N.1 vwCl [(ab, .inl (N.2 0, 4, .inl sb)), (az, .inl (N.2 0, 4, .inl sz)), (as_, .inl (N.2 0, 160, .inl st)), (mm, .inr (11, [.ref an, .ref ak, .int (nI ke), .int (nI kn), .int (fd + nI 1), .ref ab, .ref az, .ref as_, .ref ae, .ref ao, .ref ar, .ref aw, .ref al, .ref am, .int (nI mn), .ref af, .ref ac]))] H := hP
  have hD : va_D Ag [(ab, .inl (N.2 0, 4, .inl sb)), (az, .inl (N.2 0, 4, .inl sz)), (as_, .inl (N.2 0, 160, .inl st)), (mm, .inr (11, [.ref an, .ref ak, .int (nI ke), .int (nI kn), .int (fd + nI 1), .ref ab, .ref az, .ref as_, .ref ae, .ref ao, .ref ar, .ref aw, .ref al, .ref am, .int (nI mn), .ref af, .ref ac]))] := hD
  exact ck_iret hx hb hrt hlk ⟨(fd + nI 1), st⟩ (by have he : puF bt1 ct1 y = (-100002) := (by simp [puF, hbz]); exact ⟨ckRd_f he (by decide), Or.inr ⟨fun q => absurd (he.symm.trans q) (by decide), rfl⟩⟩) (hP.sub [3, 0, 1, 2] rfl) (hD.sub [3, 0, 1, 2] (by decide) rfl) hS ⟨Nat.le_of_ble_eq_true rfl, Nat.le_of_ble_eq_true rfl⟩ dX11_put_29
set_option maxHeartbeats 4000000 in
set_option maxRecDepth 100000 in
/-- X11_put -/
theorem c_X11_put_f (l : Launch) (N : ckN) (mm : Nat) (an : Nat) (ak : Nat) (ab : Nat) (az : Nat) (as_ : Nat) (ae : Nat) (ao : Nat) (ar : Nat) (aw : Nat) (al : Nat) (am : Nat) (af : Nat) (ac : Nat) (ke : Nat) (kn : Nat) (fd : Int32) (mn : Nat) (x : Int32) (y : Int32) (z : Int32) (hbad : ckIn x (nI 0) (nI 3) = false) : ckI l yX11_put cX11_put 4 (some FieldType.int) { frames := 4, cells := 0, slots := 0, locals := 102 } N [.ref mm, .int x, .int y, .int z] [(mm, .inr (11, [.ref an, .ref ak, .int (nI ke), .int (nI kn), .int fd, .ref ab, .ref az, .ref as_, .ref ae, .ref ao, .ref ar, .ref aw, .ref al, .ref am, .int (nI mn), .ref af, .ref ac]))] (fun (r : Int32) (u : Int32) => ckRd (-100001) (0) fd r u) (fun (u : Int32) => [(mm, .inr (11, [.ref an, .ref ak, .int (nI ke), .int (nI kn), .int u, .ref ab, .ref az, .ref as_, .ref ae, .ref ao, .ref ar, .ref aw, .ref al, .ref am, .int (nI mn), .ref af, .ref ac]))]) := by
  refine ckI.of (by decide) (Nat.le_of_ble_eq_true rfl) ?_
  intro pg eg sg mg blw mth cg Ag ls hx hb hrt hml hown hlk hin hg hE hA hP hD hS hl
  have hown : sg.vm.findClass RX11 = some mg.cls := hown
  have hl : lv_has ls 4 [(0, .ref mm), (1, .int x), (2, .int y), (3, .int z)] := hl
  have C0 : ckC pg sg mg ([.ref mm, .int x, .int y, .int z]).toArray cg cX11_put 4 RX11 N Ag := ⟨⟨hx, hb, hml, hown, hg⟩, hE, hA⟩
  generalize hHe : sg.heap = H at hP
  have hS : va_S Ag sg.heap H [] := hHe ▸ hS
  refine lv_iload_n hx hb dX11_put_0 rfl (lv_at hl 1 rfl) ?_
  refine ck_Si (As := [.int x]) (rest := []) (wr := [(mm, .inr (11, [.ref an, .ref ak, .int (nI ke), .int (nI kn), .int fd, .ref ab, .ref az, .ref as_, .ref ae, .ref ao, .ref ar, .ref aw, .ref al, .ref am, .int (nI mn), .ref af, .ref ac]))]) C0 hP hD hS (c_X11_isSheet l N x ) myX11_isSheet k5_14 ⟨Nat.le_of_ble_eq_true rfl, Nat.le_of_ble_eq_true rfl⟩ [] [0] ⟨⟨rfl, rfl⟩, by decide, by decide, by decide⟩ rfl hl.1 rfl (Nat.le_of_ble_eq_true rfl) dX11_put_1 ⟨Nat.le_of_ble_eq_true rfl, Nat.le_of_ble_eq_true rfl⟩ (fun r_1 u0 H locs hw0 hP hD hS => ?_)
  have hw_2 : r_1 = (b2i (ckIn x (nI 0) (nI 3))) := hw0
  subst hw_2
  have hP : va_P N.1 vwCl [(mm, .inr (11, [.ref an, .ref ak, .int (nI ke), .int (nI kn), .int fd, .ref ab, .ref az, .ref as_, .ref ae, .ref ao, .ref ar, .ref aw, .ref al, .ref am, .int (nI mn), .ref af, .ref ac]))] H := hP
  have hD : va_D Ag [(mm, .inr (11, [.ref an, .ref ak, .int (nI ke), .int (nI kn), .int fd, .ref ab, .ref az, .ref as_, .ref ae, .ref ao, .ref ar, .ref aw, .ref al, .ref am, .int (nI mn), .ref af, .ref ac]))] := hD
  refine ck_ifne (b := ckIn x (nI 0) (nI 3)) (tgt := 14) hx hb dX11_put_4 (by decide) (fun cz_3 => absurd cz_3 (by rw [hbad]; decide)) (fun cz_3 => ?_)
  refine lv_aload_n hx hb dX11_put_7 rfl (lv_at hl 0 rfl) ?_
  refine lv_ldc (own := RX11) (v := (-100001)) hx hb hown (hg _ k4_81) dX11_put_8 ?_
  refine ck_Vi (As := [.int (-100001)]) (rest := []) (wr := []) C0 hP hD hS (c_X11_finds l N mm an ak ab az as_ ae ao ar aw al am af ac ke kn fd mn (-100001) ) myX11_finds k4_67 ⟨Nat.le_of_ble_eq_true rfl, Nat.le_of_ble_eq_true rfl⟩ [0] [] ⟨⟨rfl, rfl⟩, by decide, by decide, by decide⟩ 0 rfl rfl rfl rfl hl.1 rfl (Nat.le_of_ble_eq_true rfl) dX11_put_10 ⟨Nat.le_of_ble_eq_true rfl, Nat.le_of_ble_eq_true rfl⟩ (fun r_4 u0 H locs hw0 hP hD hS => ?_)
  have hw_5 : r_4 = (-100001) := hw0
  subst hw_5
  have hP : va_P N.1 vwCl [(mm, .inr (11, [.ref an, .ref ak, .int (nI ke), .int (nI kn), .int (fd + nI 1), .ref ab, .ref az, .ref as_, .ref ae, .ref ao, .ref ar, .ref aw, .ref al, .ref am, .int (nI mn), .ref af, .ref ac]))] H := hP
  have hD : va_D Ag [(mm, .inr (11, [.ref an, .ref ak, .int (nI ke), .int (nI kn), .int (fd + nI 1), .ref ab, .ref az, .ref as_, .ref ae, .ref ao, .ref ar, .ref aw, .ref al, .ref am, .int (nI mn), .ref af, .ref ac]))] := hD
  exact ck_iret hx hb hrt hlk ((fd + nI 1)) (ckRd_f rfl (by decide)) hP hD hS ⟨Nat.le_of_ble_eq_true rfl, Nat.le_of_ble_eq_true rfl⟩ dX11_put_13
set_option maxHeartbeats 4000000 in
set_option maxRecDepth 100000 in
/-- X11_sheet -/
theorem c_X11_sheet_k (l : Launch) (N : ckN) (mm : Nat) (an : Nat) (ak : Nat) (ab : Nat) (az : Nat) (as_ : Nat) (ae : Nat) (ao : Nat) (ar : Nat) (aw : Nat) (al : Nat) (am : Nat) (af : Nat) (ac : Nat) (ke : Nat) (kn : Nat) (fd : Int32) (mn : Nat) (sb : Nat → Int32) (sz : Nat → Int32) (st : Nat → Int32) (s1 : Nat) (y : Int32) (z : Int32) (hs1 : s1 < 4) : ckI l yX11_sheet cX11_sheet 5 (some FieldType.int) { frames := 4, cells := 0, slots := 0, locals := 102 } N [.ref mm, .int (nI s1), .int y, .int z] [(mm, .inr (11, [.ref an, .ref ak, .int (nI ke), .int (nI kn), .int fd, .ref ab, .ref az, .ref as_, .ref ae, .ref ao, .ref ar, .ref aw, .ref al, .ref am, .int (nI mn), .ref af, .ref ac])), (ab, .inl (N.2 0, 4, .inl sb)), (az, .inl (N.2 0, 4, .inl sz)), (as_, .inl (N.2 0, 160, .inl st))] (fun (r : Int32) (u : Int32 × (Nat → Int32) × (Nat → Int32) × (Nat → Int32)) => (ckRd (shF y z) (nI (shC y z)) fd r u.1) ∧ ((shF y z = 0 ∧ (y = 0 ∨ y = nI 8 ∨ y = nI 16 ∨ y = nI 32) ∧ u.2.1 = upd sb s1 y ∧ u.2.2.1 = upd sz s1 (nI (shC y z)) ∧ shC y z ≤ 40 ∧ (∀ q, q < 40 → u.2.2.2 (40 * s1 + q) = 0) ∧ (∀ j, ¬ (40 * s1 ≤ j ∧ j < 40 * s1 + 40) → u.2.2.2 j = st j)) ∨ (shF y z ≠ 0 ∧ u.2.1 = sb ∧ u.2.2.1 = sz ∧ u.2.2.2 = st))) (fun (u : Int32 × (Nat → Int32) × (Nat → Int32) × (Nat → Int32)) => [(mm, .inr (11, [.ref an, .ref ak, .int (nI ke), .int (nI kn), .int u.1, .ref ab, .ref az, .ref as_, .ref ae, .ref ao, .ref ar, .ref aw, .ref al, .ref am, .int (nI mn), .ref af, .ref ac])), (ab, .inl (N.2 0, 4, .inl u.2.1)), (az, .inl (N.2 0, 4, .inl u.2.2.1)), (as_, .inl (N.2 0, 160, .inl u.2.2.2))]) := by
  refine ckI.of (by decide) (Nat.le_of_ble_eq_true rfl) ?_
  intro pg eg sg mg blw mth cg Ag ls hx hb hrt hml hown hlk hin hg hE hA hP hD hS hl
  have hown : sg.vm.findClass RX11 = some mg.cls := hown
  have hl : lv_has ls 5 [(0, .ref mm), (1, .int (nI s1)), (2, .int y), (3, .int z)] := hl
  have C0 : ckC pg sg mg ([.ref mm, .int (nI s1), .int y, .int z]).toArray cg cX11_sheet 5 RX11 N Ag := ⟨⟨hx, hb, hml, hown, hg⟩, hE, hA⟩
  generalize hHe : sg.heap = H at hP
  have hS : va_S Ag sg.heap H [] := hHe ▸ hS
  have hk1 : ckIn (nI s1) (nI 0) (nI 3) = true := ckIn_in (by omega) (by omega) (by decide)
  refine lv_iload_n hx hb dX11_sheet_0 rfl (lv_at hl 1 rfl) ?_
  refine ck_Si (As := [.int (nI s1)]) (rest := []) (wr := [(mm, .inr (11, [.ref an, .ref ak, .int (nI ke), .int (nI kn), .int fd, .ref ab, .ref az, .ref as_, .ref ae, .ref ao, .ref ar, .ref aw, .ref al, .ref am, .int (nI mn), .ref af, .ref ac])), (ab, .inl (N.2 0, 4, .inl sb)), (az, .inl (N.2 0, 4, .inl sz)), (as_, .inl (N.2 0, 160, .inl st))]) C0 hP hD hS (c_X11_isSheet l N (nI s1) ) myX11_isSheet k5_14 ⟨Nat.le_of_ble_eq_true rfl, Nat.le_of_ble_eq_true rfl⟩ [] [0, 1, 2, 3] ⟨⟨rfl, rfl⟩, by decide, by decide, by decide⟩ rfl hl.1 rfl (Nat.le_of_ble_eq_true rfl) dX11_sheet_1 ⟨Nat.le_of_ble_eq_true rfl, Nat.le_of_ble_eq_true rfl⟩ (fun r_1 u0 H locs hw0 hP hD hS => ?_)
  have hw_2 : r_1 = (b2i (ckIn (nI s1) (nI 0) (nI 3))) := hw0
  subst hw_2
  have hP : va_P N.1 vwCl [(mm, .inr (11, [.ref an, .ref ak, .int (nI ke), .int (nI kn), .int fd, .ref ab, .ref az, .ref as_, .ref ae, .ref ao, .ref ar, .ref aw, .ref al, .ref am, .int (nI mn), .ref af, .ref ac])), (ab, .inl (N.2 0, 4, .inl sb)), (az, .inl (N.2 0, 4, .inl sz)), (as_, .inl (N.2 0, 160, .inl st))] H := hP
  have hD : va_D Ag [(mm, .inr (11, [.ref an, .ref ak, .int (nI ke), .int (nI kn), .int fd, .ref ab, .ref az, .ref as_, .ref ae, .ref ao, .ref ar, .ref aw, .ref al, .ref am, .int (nI mn), .ref af, .ref ac])), (ab, .inl (N.2 0, 4, .inl sb)), (az, .inl (N.2 0, 4, .inl sz)), (as_, .inl (N.2 0, 160, .inl st))] := hD
  refine ck_ifeq (b := ckIn (nI s1) (nI 0) (nI 3)) (tgt := 29) hx hb dX11_sheet_4 (by decide) (fun cz_3 => absurd cz_3 (by rw [hk1]; decide)) (fun cz_3 => ?_)
  refine lv_iload_n hx hb dX11_sheet_7 rfl (lv_at hl 2 rfl) ?_
  refine lv_if_eq (tgt := 36) hx hb dX11_sheet_8 (by decide) (fun cz_4 => ?_) (fun cz_4 => ?_)
  · have hy : y = 0 ∨ y = nI 8 ∨ y = nI 16 ∨ y = nI 32 := Or.inl cz_4
    refine lv_iload_n hx hb dX11_sheet_36 rfl (lv_at hl 3 rfl) ?_
    refine lv_if_ge (tgt := 47) hx hb dX11_sheet_37 (by decide) (fun cz_5 => ?_) (fun cz_5 => ?_)
    · have hz0 : ¬ z < 0 := Int32.not_lt.mpr cz_5
      refine lv_iload_n hx hb dX11_sheet_47 rfl (lv_at hl 3 rfl) ?_
      refine lv_bipush (v := (nI 40)) hx hb dX11_sheet_48 (by decide) ?_
      refine lv_icmp_le (tgt := 60) hx hb dX11_sheet_50 (by decide) (fun cz_6 => ?_) (fun cz_6 => ?_)
      · have hz1 := cz_6
        obtain ⟨z0, hz01, rfl⟩ := nI_of hz0
        have hz40 : z0 ≤ 40 := (nI_leI hz01 (by decide)).mp hz1
        refine lv_aload_n hx hb dX11_sheet_60 rfl (lv_at hl 0 rfl) ?_
        refine va_get (ci := 11) (v := .ref ab) (C := RX11) (T := TX11) (N := 17) hx hb hg inX11 hown hE.1 hP 0 rfl rfl 5 (by decide) (hg _ k4_15) (fun _ h9 => h9) rfl dX11_sheet_61 ?_
        refine lv_iload_n hx hb dX11_sheet_64 rfl (lv_at hl 1 rfl) ?_
        refine lv_iload_n hx hb dX11_sheet_65 rfl (lv_at hl 2 rfl) ?_
        refine ck_iast hx hb hE hP hD hS 1 rfl (by omega) (by decide) dX11_sheet_66 (ws1 := [(mm, .inr (11, [.ref an, .ref ak, .int (nI ke), .int (nI kn), .int fd, .ref ab, .ref az, .ref as_, .ref ae, .ref ao, .ref ar, .ref aw, .ref al, .ref am, .int (nI mn), .ref af, .ref ac])), (ab, .inl (N.2 0, 4, .inl (upd sb s1 y))), (az, .inl (N.2 0, 4, .inl sz)), (as_, .inl (N.2 0, 160, .inl st))]) rfl (fun H locs hP hD hS => ?_)
        refine lv_aload_n hx hb dX11_sheet_67 rfl (lv_at hl 0 rfl) ?_
        refine va_get (ci := 11) (v := .ref az) (C := RX11) (T := TX11) (N := 17) hx hb hg inX11 hown hE.1 hP 0 rfl rfl 6 (by decide) (hg _ k4_16) (fun _ h9 => h9) rfl dX11_sheet_68 ?_
        refine lv_iload_n hx hb dX11_sheet_71 rfl (lv_at hl 1 rfl) ?_
        refine lv_iload_n hx hb dX11_sheet_72 rfl (lv_at hl 2 rfl) ?_
        refine lv_if_ne (tgt := 80) hx hb dX11_sheet_73 (by decide) (fun cz_7 => ?_) (fun cz_7 => ?_)
        · have hsc : shC y (nI z0) = z0 := by rw [shC, if_neg cz_7, ix_nI hz01]
          refine lv_iload_n hx hb dX11_sheet_80 rfl (lv_at hl 3 rfl) ?_
          refine ck_iast hx hb hE hP hD hS 2 rfl (by omega) (by decide) dX11_sheet_81 (ws1 := [(mm, .inr (11, [.ref an, .ref ak, .int (nI ke), .int (nI kn), .int fd, .ref ab, .ref az, .ref as_, .ref ae, .ref ao, .ref ar, .ref aw, .ref al, .ref am, .int (nI mn), .ref af, .ref ac])), (ab, .inl (N.2 0, 4, .inl (upd sb s1 y))), (az, .inl (N.2 0, 4, .inl (upd sz s1 (nI z0)))), (as_, .inl (N.2 0, 160, .inl st))]) rfl (fun H locs hP hD hS => ?_)
          refine lv_iconst (v := (nI 0)) hx hb dX11_sheet_82 (by decide) ?_
          refine lv_istore (lv' := [(4, .int (nI 0)), (0, .ref mm), (1, .int (nI s1)), (2, .int y), (3, .int (nI z0))]) hx hb dX11_sheet_83 hl (by decide) rfl (fun ls hl => ?_)
          have lp_85 : ∀ (dz : Nat) (k : Nat) (st1 : Nat → Int32) (hdz : 40 - k = dz) (hk : k ≤ 40) (hze : ∀ q, q < k → st1 (40 * s1 + q) = 0) (hso : ∀ j, ¬ (40 * s1 ≤ j ∧ j < 40 * s1 + 40) → st1 j = st j) (H : Heap) (locs : List Loc) (ls : Array Slot), va_P N.1 vwCl [(mm, .inr (11, [.ref an, .ref ak, .int (nI ke), .int (nI kn), .int fd, .ref ab, .ref az, .ref as_, .ref ae, .ref ao, .ref ar, .ref aw, .ref al, .ref am, .int (nI mn), .ref af, .ref ac])), (ab, .inl (N.2 0, 4, .inl (upd sb s1 y))), (az, .inl (N.2 0, 4, .inl (upd sz s1 (nI z0)))), (as_, .inl (N.2 0, 160, .inl st1))] H → va_D Ag [(mm, .inr (11, [.ref an, .ref ak, .int (nI ke), .int (nI kn), .int fd, .ref ab, .ref az, .ref as_, .ref ae, .ref ao, .ref ar, .ref aw, .ref al, .ref am, .int (nI mn), .ref af, .ref ac])), (ab, .inl (N.2 0, 4, .inl (upd sb s1 y))), (az, .inl (N.2 0, 4, .inl (upd sz s1 (nI z0)))), (as_, .inl (N.2 0, 160, .inl st1))] → va_S Ag sg.heap H locs → lv_has ls 5 [(4, .int (nI k)), (0, .ref mm), (1, .int (nI s1)), (2, .int y), (3, .int (nI z0))] → W pg l eg { frames := 4, cells := 0, slots := 0, locals := 102 } sg mg ([.ref mm, .int (nI s1), .int y, .int (nI z0)]).toArray blw mth cg H locs 0 0 (ckQi N Ag blw sg ([.ref mm, .int (nI s1), .int y, .int (nI z0)]).toArray { frames := 4, cells := 0, slots := 0, locals := 102 } (fun (r : Int32) (u : Int32 × (Nat → Int32) × (Nat → Int32) × (Nat → Int32)) => (ckRd (shF y (nI z0)) (nI (shC y (nI z0))) fd r u.1) ∧ ((shF y (nI z0) = 0 ∧ (y = 0 ∨ y = nI 8 ∨ y = nI 16 ∨ y = nI 32) ∧ u.2.1 = upd sb s1 y ∧ u.2.2.1 = upd sz s1 (nI (shC y (nI z0))) ∧ shC y (nI z0) ≤ 40 ∧ (∀ q, q < 40 → u.2.2.2 (40 * s1 + q) = 0) ∧ (∀ j, ¬ (40 * s1 ≤ j ∧ j < 40 * s1 + 40) → u.2.2.2 j = st j)) ∨ (shF y (nI z0) ≠ 0 ∧ u.2.1 = sb ∧ u.2.2.1 = sz ∧ u.2.2.2 = st))) (fun (u : Int32 × (Nat → Int32) × (Nat → Int32) × (Nat → Int32)) => [(mm, .inr (11, [.ref an, .ref ak, .int (nI ke), .int (nI kn), .int u.1, .ref ab, .ref az, .ref as_, .ref ae, .ref ao, .ref ar, .ref aw, .ref al, .ref am, .int (nI mn), .ref af, .ref ac])), (ab, .inl (N.2 0, 4, .inl u.2.1)), (az, .inl (N.2 0, 4, .inl u.2.2.1)), (as_, .inl (N.2 0, 160, .inl u.2.2.2))])) (F0 mg 85 ls []) := by
            intro dz
            induction dz using Nat.strongRecOn with
            | _ dz ih_85 =>
              intro k st1 hdz hk hze hso H locs ls hP hD hS hl
              subst hdz
              refine lv_iload hx hb dX11_sheet_85 (lv_at hl 0 rfl) ?_
              refine lv_bipush (v := (nI 40)) hx hb dX11_sheet_87 (by decide) ?_
              refine ck_ic_ge (tgt := 111) hx hb dX11_sheet_89 (by decide) (by omega) (by omega) (fun cz_8 => ?_) (fun cz_8 => ?_)
              · refine lv_aload_n hx hb dX11_sheet_111 rfl (lv_at hl 1 rfl) ?_
                refine va_get (ci := 11) (v := .ref az) (C := RX11) (T := TX11) (N := 17) hx hb hg inX11 hown hE.1 hP 0 rfl rfl 6 (by decide) (hg _ k4_16) (fun _ h9 => h9) rfl dX11_sheet_112 ?_
                refine lv_iload_n hx hb dX11_sheet_115 rfl (lv_at hl 2 rfl) ?_
                refine ck_iald hx hb hE hP 2 rfl (by omega) (by decide) dX11_sheet_116 ?_
                exact ck_iret hx hb hrt hlk ⟨fd, upd sb s1 y, upd sz s1 (nI z0), st1⟩ (by have he := (((if_pos hy).trans ((if_neg (nI_pos hz01)).trans (if_pos hz1))) : shF y (nI z0) = 0); exact ⟨ckRd_ok he (pk_us.trans (congrArg nI hsc.symm)), Or.inl ⟨he, hy, rfl, (by rw [hsc]), (by omega), (fun q hq => hze q (by omega)), hso⟩⟩) hP hD hS ⟨Nat.le_of_ble_eq_true rfl, Nat.le_of_ble_eq_true rfl⟩ dX11_sheet_117
              refine lv_aload_n hx hb dX11_sheet_92 rfl (lv_at hl 1 rfl) ?_
              refine va_get (ci := 11) (v := .ref as_) (C := RX11) (T := TX11) (N := 17) hx hb hg inX11 hown hE.1 hP 0 rfl rfl 7 (by decide) (hg _ k4_17) (fun _ h9 => h9) rfl dX11_sheet_93 ?_
              refine lv_bipush (v := (nI 40)) hx hb dX11_sheet_96 (by decide) ?_
              refine lv_iload_n hx hb dX11_sheet_98 rfl (lv_at hl 2 rfl) ?_
              refine lv_imul hx hb dX11_sheet_99 ?_
              refine ck_top (y := (nI (40 * s1))) (pk_mul _ _) ?_
              refine lv_iload hx hb dX11_sheet_100 (lv_at hl 0 rfl) ?_
              refine lv_iadd hx hb dX11_sheet_102 ?_
              refine ck_top (y := (nI (40 * s1 + k))) (nI_add _ _) ?_
              refine lv_iconst (v := (nI 0)) hx hb dX11_sheet_103 (by decide) ?_
              refine ck_iast hx hb hE hP hD hS 3 rfl (by omega) (by decide) dX11_sheet_104 (ws1 := [(mm, .inr (11, [.ref an, .ref ak, .int (nI ke), .int (nI kn), .int fd, .ref ab, .ref az, .ref as_, .ref ae, .ref ao, .ref ar, .ref aw, .ref al, .ref am, .int (nI mn), .ref af, .ref ac])), (ab, .inl (N.2 0, 4, .inl (upd sb s1 y))), (az, .inl (N.2 0, 4, .inl (upd sz s1 (nI z0)))), (as_, .inl (N.2 0, 160, .inl (upd st1 (40 * s1 + k) (nI 0))))]) rfl (fun H locs hP hD hS => ?_)
              refine lv_iinc (v := (nI (k + 1))) (lv' := [(4, .int (nI (k + 1))), (0, .ref mm), (1, .int (nI s1)), (2, .int y), (3, .int (nI z0))]) hx hb dX11_sheet_105 hl (k := 0) rfl (nI_1 _) (by decide) rfl (fun ls hl => ?_)
              refine lv_goto (tgt := 85) hx hb dX11_sheet_108 (by decide) ?_
              exact ih_85 _ (by omega) (k + 1) (upd st1 (40 * s1 + k) (nI 0)) rfl (by omega) (lt_s (fun q hq => (pk_un (by omega)).trans (hze q hq)) pk_us) (fun j hj => (pk_un (by omega)).trans (hso j hj)) _ _ ls hP hD hS hl
          exact lp_85 _ 0 st rfl (by omega) (fun q hq => absurd hq (Nat.not_lt_zero q)) (fun j hj => rfl) _ _ ls hP hD hS hl
        have hsc : shC y (nI z0) = 0 := by rw [shC, if_pos cz_7]
        refine lv_iconst (v := (nI 0)) hx hb dX11_sheet_76 (by decide) ?_
        refine lv_goto (tgt := 81) hx hb dX11_sheet_77 (by decide) ?_
        refine ck_iast hx hb hE hP hD hS 2 rfl (by omega) (by decide) dX11_sheet_81 (ws1 := [(mm, .inr (11, [.ref an, .ref ak, .int (nI ke), .int (nI kn), .int fd, .ref ab, .ref az, .ref as_, .ref ae, .ref ao, .ref ar, .ref aw, .ref al, .ref am, .int (nI mn), .ref af, .ref ac])), (ab, .inl (N.2 0, 4, .inl (upd sb s1 y))), (az, .inl (N.2 0, 4, .inl (upd sz s1 (nI 0)))), (as_, .inl (N.2 0, 160, .inl st))]) rfl (fun H locs hP hD hS => ?_)
        refine lv_iconst (v := (nI 0)) hx hb dX11_sheet_82 (by decide) ?_
        refine lv_istore (lv' := [(4, .int (nI 0)), (0, .ref mm), (1, .int (nI s1)), (2, .int y), (3, .int (nI z0))]) hx hb dX11_sheet_83 hl (by decide) rfl (fun ls hl => ?_)
        have lp_85 : ∀ (dz : Nat) (k : Nat) (st1 : Nat → Int32) (hdz : 40 - k = dz) (hk : k ≤ 40) (hze : ∀ q, q < k → st1 (40 * s1 + q) = 0) (hso : ∀ j, ¬ (40 * s1 ≤ j ∧ j < 40 * s1 + 40) → st1 j = st j) (H : Heap) (locs : List Loc) (ls : Array Slot), va_P N.1 vwCl [(mm, .inr (11, [.ref an, .ref ak, .int (nI ke), .int (nI kn), .int fd, .ref ab, .ref az, .ref as_, .ref ae, .ref ao, .ref ar, .ref aw, .ref al, .ref am, .int (nI mn), .ref af, .ref ac])), (ab, .inl (N.2 0, 4, .inl (upd sb s1 y))), (az, .inl (N.2 0, 4, .inl (upd sz s1 (nI 0)))), (as_, .inl (N.2 0, 160, .inl st1))] H → va_D Ag [(mm, .inr (11, [.ref an, .ref ak, .int (nI ke), .int (nI kn), .int fd, .ref ab, .ref az, .ref as_, .ref ae, .ref ao, .ref ar, .ref aw, .ref al, .ref am, .int (nI mn), .ref af, .ref ac])), (ab, .inl (N.2 0, 4, .inl (upd sb s1 y))), (az, .inl (N.2 0, 4, .inl (upd sz s1 (nI 0)))), (as_, .inl (N.2 0, 160, .inl st1))] → va_S Ag sg.heap H locs → lv_has ls 5 [(4, .int (nI k)), (0, .ref mm), (1, .int (nI s1)), (2, .int y), (3, .int (nI z0))] → W pg l eg { frames := 4, cells := 0, slots := 0, locals := 102 } sg mg ([.ref mm, .int (nI s1), .int y, .int (nI z0)]).toArray blw mth cg H locs 0 0 (ckQi N Ag blw sg ([.ref mm, .int (nI s1), .int y, .int (nI z0)]).toArray { frames := 4, cells := 0, slots := 0, locals := 102 } (fun (r : Int32) (u : Int32 × (Nat → Int32) × (Nat → Int32) × (Nat → Int32)) => (ckRd (shF y (nI z0)) (nI (shC y (nI z0))) fd r u.1) ∧ ((shF y (nI z0) = 0 ∧ (y = 0 ∨ y = nI 8 ∨ y = nI 16 ∨ y = nI 32) ∧ u.2.1 = upd sb s1 y ∧ u.2.2.1 = upd sz s1 (nI (shC y (nI z0))) ∧ shC y (nI z0) ≤ 40 ∧ (∀ q, q < 40 → u.2.2.2 (40 * s1 + q) = 0) ∧ (∀ j, ¬ (40 * s1 ≤ j ∧ j < 40 * s1 + 40) → u.2.2.2 j = st j)) ∨ (shF y (nI z0) ≠ 0 ∧ u.2.1 = sb ∧ u.2.2.1 = sz ∧ u.2.2.2 = st))) (fun (u : Int32 × (Nat → Int32) × (Nat → Int32) × (Nat → Int32)) => [(mm, .inr (11, [.ref an, .ref ak, .int (nI ke), .int (nI kn), .int u.1, .ref ab, .ref az, .ref as_, .ref ae, .ref ao, .ref ar, .ref aw, .ref al, .ref am, .int (nI mn), .ref af, .ref ac])), (ab, .inl (N.2 0, 4, .inl u.2.1)), (az, .inl (N.2 0, 4, .inl u.2.2.1)), (as_, .inl (N.2 0, 160, .inl u.2.2.2))])) (F0 mg 85 ls []) := by
          intro dz
          induction dz using Nat.strongRecOn with
          | _ dz ih_85 =>
            intro k st1 hdz hk hze hso H locs ls hP hD hS hl
            subst hdz
            refine lv_iload hx hb dX11_sheet_85 (lv_at hl 0 rfl) ?_
            refine lv_bipush (v := (nI 40)) hx hb dX11_sheet_87 (by decide) ?_
            refine ck_ic_ge (tgt := 111) hx hb dX11_sheet_89 (by decide) (by omega) (by omega) (fun cz_9 => ?_) (fun cz_9 => ?_)
            · refine lv_aload_n hx hb dX11_sheet_111 rfl (lv_at hl 1 rfl) ?_
              refine va_get (ci := 11) (v := .ref az) (C := RX11) (T := TX11) (N := 17) hx hb hg inX11 hown hE.1 hP 0 rfl rfl 6 (by decide) (hg _ k4_16) (fun _ h9 => h9) rfl dX11_sheet_112 ?_
              refine lv_iload_n hx hb dX11_sheet_115 rfl (lv_at hl 2 rfl) ?_
              refine ck_iald hx hb hE hP 2 rfl (by omega) (by decide) dX11_sheet_116 ?_
              exact ck_iret hx hb hrt hlk ⟨fd, upd sb s1 y, upd sz s1 (nI 0), st1⟩ (by have he := (((if_pos hy).trans ((if_neg (nI_pos hz01)).trans (if_pos hz1))) : shF y (nI z0) = 0); exact ⟨ckRd_ok he (pk_us.trans (congrArg nI hsc.symm)), Or.inl ⟨he, hy, rfl, (by rw [hsc]), (by omega), (fun q hq => hze q (by omega)), hso⟩⟩) hP hD hS ⟨Nat.le_of_ble_eq_true rfl, Nat.le_of_ble_eq_true rfl⟩ dX11_sheet_117
            refine lv_aload_n hx hb dX11_sheet_92 rfl (lv_at hl 1 rfl) ?_
            refine va_get (ci := 11) (v := .ref as_) (C := RX11) (T := TX11) (N := 17) hx hb hg inX11 hown hE.1 hP 0 rfl rfl 7 (by decide) (hg _ k4_17) (fun _ h9 => h9) rfl dX11_sheet_93 ?_
            refine lv_bipush (v := (nI 40)) hx hb dX11_sheet_96 (by decide) ?_
            refine lv_iload_n hx hb dX11_sheet_98 rfl (lv_at hl 2 rfl) ?_
            refine lv_imul hx hb dX11_sheet_99 ?_
            refine ck_top (y := (nI (40 * s1))) (pk_mul _ _) ?_
            refine lv_iload hx hb dX11_sheet_100 (lv_at hl 0 rfl) ?_
            refine lv_iadd hx hb dX11_sheet_102 ?_
            refine ck_top (y := (nI (40 * s1 + k))) (nI_add _ _) ?_
            refine lv_iconst (v := (nI 0)) hx hb dX11_sheet_103 (by decide) ?_
            refine ck_iast hx hb hE hP hD hS 3 rfl (by omega) (by decide) dX11_sheet_104 (ws1 := [(mm, .inr (11, [.ref an, .ref ak, .int (nI ke), .int (nI kn), .int fd, .ref ab, .ref az, .ref as_, .ref ae, .ref ao, .ref ar, .ref aw, .ref al, .ref am, .int (nI mn), .ref af, .ref ac])), (ab, .inl (N.2 0, 4, .inl (upd sb s1 y))), (az, .inl (N.2 0, 4, .inl (upd sz s1 (nI 0)))), (as_, .inl (N.2 0, 160, .inl (upd st1 (40 * s1 + k) (nI 0))))]) rfl (fun H locs hP hD hS => ?_)
            refine lv_iinc (v := (nI (k + 1))) (lv' := [(4, .int (nI (k + 1))), (0, .ref mm), (1, .int (nI s1)), (2, .int y), (3, .int (nI z0))]) hx hb dX11_sheet_105 hl (k := 0) rfl (nI_1 _) (by decide) rfl (fun ls hl => ?_)
            refine lv_goto (tgt := 85) hx hb dX11_sheet_108 (by decide) ?_
            exact ih_85 _ (by omega) (k + 1) (upd st1 (40 * s1 + k) (nI 0)) rfl (by omega) (lt_s (fun q hq => (pk_un (by omega)).trans (hze q hq)) pk_us) (fun j hj => (pk_un (by omega)).trans (hso j hj)) _ _ ls hP hD hS hl
        exact lp_85 _ 0 st rfl (by omega) (fun q hq => absurd hq (Nat.not_lt_zero q)) (fun j hj => rfl) _ _ ls hP hD hS hl
      have hz1 := cz_6
      refine lv_aload_n hx hb dX11_sheet_53 rfl (lv_at hl 0 rfl) ?_
      refine lv_ldc (own := RX11) (v := (-100001)) hx hb hown (hg _ k4_81) dX11_sheet_54 ?_
      refine ck_Vi (As := [.int (-100001)]) (rest := []) (wr := [(ab, .inl (N.2 0, 4, .inl sb)), (az, .inl (N.2 0, 4, .inl sz)), (as_, .inl (N.2 0, 160, .inl st))]) C0 hP hD hS (c_X11_finds l N mm an ak ab az as_ ae ao ar aw al am af ac ke kn fd mn (-100001) ) myX11_finds k4_67 ⟨Nat.le_of_ble_eq_true rfl, Nat.le_of_ble_eq_true rfl⟩ [0] [1, 2, 3] ⟨⟨rfl, rfl⟩, by decide, by decide, by decide⟩ 0 rfl rfl rfl rfl hl.1 rfl (Nat.le_of_ble_eq_true rfl) dX11_sheet_56 ⟨Nat.le_of_ble_eq_true rfl, Nat.le_of_ble_eq_true rfl⟩ (fun r_10 u0 H locs hw0 hP hD hS => ?_)
      have hw_11 : r_10 = (-100001) := hw0
      subst hw_11
      have hP : va_P N.1 vwCl [(ab, .inl (N.2 0, 4, .inl sb)), (az, .inl (N.2 0, 4, .inl sz)), (as_, .inl (N.2 0, 160, .inl st)), (mm, .inr (11, [.ref an, .ref ak, .int (nI ke), .int (nI kn), .int (fd + nI 1), .ref ab, .ref az, .ref as_, .ref ae, .ref ao, .ref ar, .ref aw, .ref al, .ref am, .int (nI mn), .ref af, .ref ac]))] H := hP
      have hD : va_D Ag [(ab, .inl (N.2 0, 4, .inl sb)), (az, .inl (N.2 0, 4, .inl sz)), (as_, .inl (N.2 0, 160, .inl st)), (mm, .inr (11, [.ref an, .ref ak, .int (nI ke), .int (nI kn), .int (fd + nI 1), .ref ab, .ref az, .ref as_, .ref ae, .ref ao, .ref ar, .ref aw, .ref al, .ref am, .int (nI mn), .ref af, .ref ac]))] := hD
      exact ck_iret hx hb hrt hlk ⟨(fd + nI 1), sb, sz, st⟩ (by have he := (((if_pos hy).trans ((if_neg hz0).trans (if_neg hz1))) : shF y z = (-100001)); exact ⟨ckRd_f he (by decide), Or.inr ⟨fun q => absurd (he.symm.trans q) (by decide), rfl, rfl, rfl⟩⟩) (hP.sub [3, 0, 1, 2] rfl) (hD.sub [3, 0, 1, 2] (by decide) rfl) hS ⟨Nat.le_of_ble_eq_true rfl, Nat.le_of_ble_eq_true rfl⟩ dX11_sheet_59
    have hz0 : z < 0 := Int32.not_le.mp cz_5
    refine lv_aload_n hx hb dX11_sheet_40 rfl (lv_at hl 0 rfl) ?_
    refine lv_ldc (own := RX11) (v := (-100003)) hx hb hown (hg _ k4_82) dX11_sheet_41 ?_
    refine ck_Vi (As := [.int (-100003)]) (rest := []) (wr := [(ab, .inl (N.2 0, 4, .inl sb)), (az, .inl (N.2 0, 4, .inl sz)), (as_, .inl (N.2 0, 160, .inl st))]) C0 hP hD hS (c_X11_finds l N mm an ak ab az as_ ae ao ar aw al am af ac ke kn fd mn (-100003) ) myX11_finds k4_67 ⟨Nat.le_of_ble_eq_true rfl, Nat.le_of_ble_eq_true rfl⟩ [0] [1, 2, 3] ⟨⟨rfl, rfl⟩, by decide, by decide, by decide⟩ 0 rfl rfl rfl rfl hl.1 rfl (Nat.le_of_ble_eq_true rfl) dX11_sheet_43 ⟨Nat.le_of_ble_eq_true rfl, Nat.le_of_ble_eq_true rfl⟩ (fun r_12 u0 H locs hw0 hP hD hS => ?_)
    have hw_13 : r_12 = (-100003) := hw0
    subst hw_13
    have hP : va_P N.1 vwCl [(ab, .inl (N.2 0, 4, .inl sb)), (az, .inl (N.2 0, 4, .inl sz)), (as_, .inl (N.2 0, 160, .inl st)), (mm, .inr (11, [.ref an, .ref ak, .int (nI ke), .int (nI kn), .int (fd + nI 1), .ref ab, .ref az, .ref as_, .ref ae, .ref ao, .ref ar, .ref aw, .ref al, .ref am, .int (nI mn), .ref af, .ref ac]))] H := hP
    have hD : va_D Ag [(ab, .inl (N.2 0, 4, .inl sb)), (az, .inl (N.2 0, 4, .inl sz)), (as_, .inl (N.2 0, 160, .inl st)), (mm, .inr (11, [.ref an, .ref ak, .int (nI ke), .int (nI kn), .int (fd + nI 1), .ref ab, .ref az, .ref as_, .ref ae, .ref ao, .ref ar, .ref aw, .ref al, .ref am, .int (nI mn), .ref af, .ref ac]))] := hD
    exact ck_iret hx hb hrt hlk ⟨(fd + nI 1), sb, sz, st⟩ (by have he := (((if_pos hy).trans (if_pos hz0)) : shF y z = (-100003)); exact ⟨ckRd_f he (by decide), Or.inr ⟨fun q => absurd (he.symm.trans q) (by decide), rfl, rfl, rfl⟩⟩) (hP.sub [3, 0, 1, 2] rfl) (hD.sub [3, 0, 1, 2] (by decide) rfl) hS ⟨Nat.le_of_ble_eq_true rfl, Nat.le_of_ble_eq_true rfl⟩ dX11_sheet_46
  refine lv_iload_n hx hb dX11_sheet_11 rfl (lv_at hl 2 rfl) ?_
  refine lv_bipush (v := (nI 8)) hx hb dX11_sheet_12 (by decide) ?_
  refine lv_icmp_eq (tgt := 36) hx hb dX11_sheet_14 (by decide) (fun cz_14 => ?_) (fun cz_14 => ?_)
  · have hy : y = 0 ∨ y = nI 8 ∨ y = nI 16 ∨ y = nI 32 := Or.inr (Or.inl cz_14)
    refine lv_iload_n hx hb dX11_sheet_36 rfl (lv_at hl 3 rfl) ?_
    refine lv_if_ge (tgt := 47) hx hb dX11_sheet_37 (by decide) (fun cz_15 => ?_) (fun cz_15 => ?_)
    · have hz0 : ¬ z < 0 := Int32.not_lt.mpr cz_15
      refine lv_iload_n hx hb dX11_sheet_47 rfl (lv_at hl 3 rfl) ?_
      refine lv_bipush (v := (nI 40)) hx hb dX11_sheet_48 (by decide) ?_
      refine lv_icmp_le (tgt := 60) hx hb dX11_sheet_50 (by decide) (fun cz_16 => ?_) (fun cz_16 => ?_)
      · have hz1 := cz_16
        obtain ⟨z0, hz01, rfl⟩ := nI_of hz0
        have hz40 : z0 ≤ 40 := (nI_leI hz01 (by decide)).mp hz1
        refine lv_aload_n hx hb dX11_sheet_60 rfl (lv_at hl 0 rfl) ?_
        refine va_get (ci := 11) (v := .ref ab) (C := RX11) (T := TX11) (N := 17) hx hb hg inX11 hown hE.1 hP 0 rfl rfl 5 (by decide) (hg _ k4_15) (fun _ h9 => h9) rfl dX11_sheet_61 ?_
        refine lv_iload_n hx hb dX11_sheet_64 rfl (lv_at hl 1 rfl) ?_
        refine lv_iload_n hx hb dX11_sheet_65 rfl (lv_at hl 2 rfl) ?_
        refine ck_iast hx hb hE hP hD hS 1 rfl (by omega) (by decide) dX11_sheet_66 (ws1 := [(mm, .inr (11, [.ref an, .ref ak, .int (nI ke), .int (nI kn), .int fd, .ref ab, .ref az, .ref as_, .ref ae, .ref ao, .ref ar, .ref aw, .ref al, .ref am, .int (nI mn), .ref af, .ref ac])), (ab, .inl (N.2 0, 4, .inl (upd sb s1 y))), (az, .inl (N.2 0, 4, .inl sz)), (as_, .inl (N.2 0, 160, .inl st))]) rfl (fun H locs hP hD hS => ?_)
        refine lv_aload_n hx hb dX11_sheet_67 rfl (lv_at hl 0 rfl) ?_
        refine va_get (ci := 11) (v := .ref az) (C := RX11) (T := TX11) (N := 17) hx hb hg inX11 hown hE.1 hP 0 rfl rfl 6 (by decide) (hg _ k4_16) (fun _ h9 => h9) rfl dX11_sheet_68 ?_
        refine lv_iload_n hx hb dX11_sheet_71 rfl (lv_at hl 1 rfl) ?_
        refine lv_iload_n hx hb dX11_sheet_72 rfl (lv_at hl 2 rfl) ?_
        refine lv_if_ne (tgt := 80) hx hb dX11_sheet_73 (by decide) (fun cz_17 => ?_) (fun cz_17 => ?_)
        · have hsc : shC y (nI z0) = z0 := by rw [shC, if_neg cz_17, ix_nI hz01]
          refine lv_iload_n hx hb dX11_sheet_80 rfl (lv_at hl 3 rfl) ?_
          refine ck_iast hx hb hE hP hD hS 2 rfl (by omega) (by decide) dX11_sheet_81 (ws1 := [(mm, .inr (11, [.ref an, .ref ak, .int (nI ke), .int (nI kn), .int fd, .ref ab, .ref az, .ref as_, .ref ae, .ref ao, .ref ar, .ref aw, .ref al, .ref am, .int (nI mn), .ref af, .ref ac])), (ab, .inl (N.2 0, 4, .inl (upd sb s1 y))), (az, .inl (N.2 0, 4, .inl (upd sz s1 (nI z0)))), (as_, .inl (N.2 0, 160, .inl st))]) rfl (fun H locs hP hD hS => ?_)
          refine lv_iconst (v := (nI 0)) hx hb dX11_sheet_82 (by decide) ?_
          refine lv_istore (lv' := [(4, .int (nI 0)), (0, .ref mm), (1, .int (nI s1)), (2, .int y), (3, .int (nI z0))]) hx hb dX11_sheet_83 hl (by decide) rfl (fun ls hl => ?_)
          have lp_85 : ∀ (dz : Nat) (k : Nat) (st1 : Nat → Int32) (hdz : 40 - k = dz) (hk : k ≤ 40) (hze : ∀ q, q < k → st1 (40 * s1 + q) = 0) (hso : ∀ j, ¬ (40 * s1 ≤ j ∧ j < 40 * s1 + 40) → st1 j = st j) (H : Heap) (locs : List Loc) (ls : Array Slot), va_P N.1 vwCl [(mm, .inr (11, [.ref an, .ref ak, .int (nI ke), .int (nI kn), .int fd, .ref ab, .ref az, .ref as_, .ref ae, .ref ao, .ref ar, .ref aw, .ref al, .ref am, .int (nI mn), .ref af, .ref ac])), (ab, .inl (N.2 0, 4, .inl (upd sb s1 y))), (az, .inl (N.2 0, 4, .inl (upd sz s1 (nI z0)))), (as_, .inl (N.2 0, 160, .inl st1))] H → va_D Ag [(mm, .inr (11, [.ref an, .ref ak, .int (nI ke), .int (nI kn), .int fd, .ref ab, .ref az, .ref as_, .ref ae, .ref ao, .ref ar, .ref aw, .ref al, .ref am, .int (nI mn), .ref af, .ref ac])), (ab, .inl (N.2 0, 4, .inl (upd sb s1 y))), (az, .inl (N.2 0, 4, .inl (upd sz s1 (nI z0)))), (as_, .inl (N.2 0, 160, .inl st1))] → va_S Ag sg.heap H locs → lv_has ls 5 [(4, .int (nI k)), (0, .ref mm), (1, .int (nI s1)), (2, .int y), (3, .int (nI z0))] → W pg l eg { frames := 4, cells := 0, slots := 0, locals := 102 } sg mg ([.ref mm, .int (nI s1), .int y, .int (nI z0)]).toArray blw mth cg H locs 0 0 (ckQi N Ag blw sg ([.ref mm, .int (nI s1), .int y, .int (nI z0)]).toArray { frames := 4, cells := 0, slots := 0, locals := 102 } (fun (r : Int32) (u : Int32 × (Nat → Int32) × (Nat → Int32) × (Nat → Int32)) => (ckRd (shF y (nI z0)) (nI (shC y (nI z0))) fd r u.1) ∧ ((shF y (nI z0) = 0 ∧ (y = 0 ∨ y = nI 8 ∨ y = nI 16 ∨ y = nI 32) ∧ u.2.1 = upd sb s1 y ∧ u.2.2.1 = upd sz s1 (nI (shC y (nI z0))) ∧ shC y (nI z0) ≤ 40 ∧ (∀ q, q < 40 → u.2.2.2 (40 * s1 + q) = 0) ∧ (∀ j, ¬ (40 * s1 ≤ j ∧ j < 40 * s1 + 40) → u.2.2.2 j = st j)) ∨ (shF y (nI z0) ≠ 0 ∧ u.2.1 = sb ∧ u.2.2.1 = sz ∧ u.2.2.2 = st))) (fun (u : Int32 × (Nat → Int32) × (Nat → Int32) × (Nat → Int32)) => [(mm, .inr (11, [.ref an, .ref ak, .int (nI ke), .int (nI kn), .int u.1, .ref ab, .ref az, .ref as_, .ref ae, .ref ao, .ref ar, .ref aw, .ref al, .ref am, .int (nI mn), .ref af, .ref ac])), (ab, .inl (N.2 0, 4, .inl u.2.1)), (az, .inl (N.2 0, 4, .inl u.2.2.1)), (as_, .inl (N.2 0, 160, .inl u.2.2.2))])) (F0 mg 85 ls []) := by
            intro dz
            induction dz using Nat.strongRecOn with
            | _ dz ih_85 =>
              intro k st1 hdz hk hze hso H locs ls hP hD hS hl
              subst hdz
              refine lv_iload hx hb dX11_sheet_85 (lv_at hl 0 rfl) ?_
              refine lv_bipush (v := (nI 40)) hx hb dX11_sheet_87 (by decide) ?_
              refine ck_ic_ge (tgt := 111) hx hb dX11_sheet_89 (by decide) (by omega) (by omega) (fun cz_18 => ?_) (fun cz_18 => ?_)
              · refine lv_aload_n hx hb dX11_sheet_111 rfl (lv_at hl 1 rfl) ?_
                refine va_get (ci := 11) (v := .ref az) (C := RX11) (T := TX11) (N := 17) hx hb hg inX11 hown hE.1 hP 0 rfl rfl 6 (by decide) (hg _ k4_16) (fun _ h9 => h9) rfl dX11_sheet_112 ?_
                refine lv_iload_n hx hb dX11_sheet_115 rfl (lv_at hl 2 rfl) ?_
                refine ck_iald hx hb hE hP 2 rfl (by omega) (by decide) dX11_sheet_116 ?_
                exact ck_iret hx hb hrt hlk ⟨fd, upd sb s1 y, upd sz s1 (nI z0), st1⟩ (by have he := (((if_pos hy).trans ((if_neg (nI_pos hz01)).trans (if_pos hz1))) : shF y (nI z0) = 0); exact ⟨ckRd_ok he (pk_us.trans (congrArg nI hsc.symm)), Or.inl ⟨he, hy, rfl, (by rw [hsc]), (by omega), (fun q hq => hze q (by omega)), hso⟩⟩) hP hD hS ⟨Nat.le_of_ble_eq_true rfl, Nat.le_of_ble_eq_true rfl⟩ dX11_sheet_117
              refine lv_aload_n hx hb dX11_sheet_92 rfl (lv_at hl 1 rfl) ?_
              refine va_get (ci := 11) (v := .ref as_) (C := RX11) (T := TX11) (N := 17) hx hb hg inX11 hown hE.1 hP 0 rfl rfl 7 (by decide) (hg _ k4_17) (fun _ h9 => h9) rfl dX11_sheet_93 ?_
              refine lv_bipush (v := (nI 40)) hx hb dX11_sheet_96 (by decide) ?_
              refine lv_iload_n hx hb dX11_sheet_98 rfl (lv_at hl 2 rfl) ?_
              refine lv_imul hx hb dX11_sheet_99 ?_
              refine ck_top (y := (nI (40 * s1))) (pk_mul _ _) ?_
              refine lv_iload hx hb dX11_sheet_100 (lv_at hl 0 rfl) ?_
              refine lv_iadd hx hb dX11_sheet_102 ?_
              refine ck_top (y := (nI (40 * s1 + k))) (nI_add _ _) ?_
              refine lv_iconst (v := (nI 0)) hx hb dX11_sheet_103 (by decide) ?_
              refine ck_iast hx hb hE hP hD hS 3 rfl (by omega) (by decide) dX11_sheet_104 (ws1 := [(mm, .inr (11, [.ref an, .ref ak, .int (nI ke), .int (nI kn), .int fd, .ref ab, .ref az, .ref as_, .ref ae, .ref ao, .ref ar, .ref aw, .ref al, .ref am, .int (nI mn), .ref af, .ref ac])), (ab, .inl (N.2 0, 4, .inl (upd sb s1 y))), (az, .inl (N.2 0, 4, .inl (upd sz s1 (nI z0)))), (as_, .inl (N.2 0, 160, .inl (upd st1 (40 * s1 + k) (nI 0))))]) rfl (fun H locs hP hD hS => ?_)
              refine lv_iinc (v := (nI (k + 1))) (lv' := [(4, .int (nI (k + 1))), (0, .ref mm), (1, .int (nI s1)), (2, .int y), (3, .int (nI z0))]) hx hb dX11_sheet_105 hl (k := 0) rfl (nI_1 _) (by decide) rfl (fun ls hl => ?_)
              refine lv_goto (tgt := 85) hx hb dX11_sheet_108 (by decide) ?_
              exact ih_85 _ (by omega) (k + 1) (upd st1 (40 * s1 + k) (nI 0)) rfl (by omega) (lt_s (fun q hq => (pk_un (by omega)).trans (hze q hq)) pk_us) (fun j hj => (pk_un (by omega)).trans (hso j hj)) _ _ ls hP hD hS hl
          exact lp_85 _ 0 st rfl (by omega) (fun q hq => absurd hq (Nat.not_lt_zero q)) (fun j hj => rfl) _ _ ls hP hD hS hl
        have hsc : shC y (nI z0) = 0 := by rw [shC, if_pos cz_17]
        refine lv_iconst (v := (nI 0)) hx hb dX11_sheet_76 (by decide) ?_
        refine lv_goto (tgt := 81) hx hb dX11_sheet_77 (by decide) ?_
        refine ck_iast hx hb hE hP hD hS 2 rfl (by omega) (by decide) dX11_sheet_81 (ws1 := [(mm, .inr (11, [.ref an, .ref ak, .int (nI ke), .int (nI kn), .int fd, .ref ab, .ref az, .ref as_, .ref ae, .ref ao, .ref ar, .ref aw, .ref al, .ref am, .int (nI mn), .ref af, .ref ac])), (ab, .inl (N.2 0, 4, .inl (upd sb s1 y))), (az, .inl (N.2 0, 4, .inl (upd sz s1 (nI 0)))), (as_, .inl (N.2 0, 160, .inl st))]) rfl (fun H locs hP hD hS => ?_)
        refine lv_iconst (v := (nI 0)) hx hb dX11_sheet_82 (by decide) ?_
        refine lv_istore (lv' := [(4, .int (nI 0)), (0, .ref mm), (1, .int (nI s1)), (2, .int y), (3, .int (nI z0))]) hx hb dX11_sheet_83 hl (by decide) rfl (fun ls hl => ?_)
        have lp_85 : ∀ (dz : Nat) (k : Nat) (st1 : Nat → Int32) (hdz : 40 - k = dz) (hk : k ≤ 40) (hze : ∀ q, q < k → st1 (40 * s1 + q) = 0) (hso : ∀ j, ¬ (40 * s1 ≤ j ∧ j < 40 * s1 + 40) → st1 j = st j) (H : Heap) (locs : List Loc) (ls : Array Slot), va_P N.1 vwCl [(mm, .inr (11, [.ref an, .ref ak, .int (nI ke), .int (nI kn), .int fd, .ref ab, .ref az, .ref as_, .ref ae, .ref ao, .ref ar, .ref aw, .ref al, .ref am, .int (nI mn), .ref af, .ref ac])), (ab, .inl (N.2 0, 4, .inl (upd sb s1 y))), (az, .inl (N.2 0, 4, .inl (upd sz s1 (nI 0)))), (as_, .inl (N.2 0, 160, .inl st1))] H → va_D Ag [(mm, .inr (11, [.ref an, .ref ak, .int (nI ke), .int (nI kn), .int fd, .ref ab, .ref az, .ref as_, .ref ae, .ref ao, .ref ar, .ref aw, .ref al, .ref am, .int (nI mn), .ref af, .ref ac])), (ab, .inl (N.2 0, 4, .inl (upd sb s1 y))), (az, .inl (N.2 0, 4, .inl (upd sz s1 (nI 0)))), (as_, .inl (N.2 0, 160, .inl st1))] → va_S Ag sg.heap H locs → lv_has ls 5 [(4, .int (nI k)), (0, .ref mm), (1, .int (nI s1)), (2, .int y), (3, .int (nI z0))] → W pg l eg { frames := 4, cells := 0, slots := 0, locals := 102 } sg mg ([.ref mm, .int (nI s1), .int y, .int (nI z0)]).toArray blw mth cg H locs 0 0 (ckQi N Ag blw sg ([.ref mm, .int (nI s1), .int y, .int (nI z0)]).toArray { frames := 4, cells := 0, slots := 0, locals := 102 } (fun (r : Int32) (u : Int32 × (Nat → Int32) × (Nat → Int32) × (Nat → Int32)) => (ckRd (shF y (nI z0)) (nI (shC y (nI z0))) fd r u.1) ∧ ((shF y (nI z0) = 0 ∧ (y = 0 ∨ y = nI 8 ∨ y = nI 16 ∨ y = nI 32) ∧ u.2.1 = upd sb s1 y ∧ u.2.2.1 = upd sz s1 (nI (shC y (nI z0))) ∧ shC y (nI z0) ≤ 40 ∧ (∀ q, q < 40 → u.2.2.2 (40 * s1 + q) = 0) ∧ (∀ j, ¬ (40 * s1 ≤ j ∧ j < 40 * s1 + 40) → u.2.2.2 j = st j)) ∨ (shF y (nI z0) ≠ 0 ∧ u.2.1 = sb ∧ u.2.2.1 = sz ∧ u.2.2.2 = st))) (fun (u : Int32 × (Nat → Int32) × (Nat → Int32) × (Nat → Int32)) => [(mm, .inr (11, [.ref an, .ref ak, .int (nI ke), .int (nI kn), .int u.1, .ref ab, .ref az, .ref as_, .ref ae, .ref ao, .ref ar, .ref aw, .ref al, .ref am, .int (nI mn), .ref af, .ref ac])), (ab, .inl (N.2 0, 4, .inl u.2.1)), (az, .inl (N.2 0, 4, .inl u.2.2.1)), (as_, .inl (N.2 0, 160, .inl u.2.2.2))])) (F0 mg 85 ls []) := by
          intro dz
          induction dz using Nat.strongRecOn with
          | _ dz ih_85 =>
            intro k st1 hdz hk hze hso H locs ls hP hD hS hl
            subst hdz
            refine lv_iload hx hb dX11_sheet_85 (lv_at hl 0 rfl) ?_
            refine lv_bipush (v := (nI 40)) hx hb dX11_sheet_87 (by decide) ?_
            refine ck_ic_ge (tgt := 111) hx hb dX11_sheet_89 (by decide) (by omega) (by omega) (fun cz_19 => ?_) (fun cz_19 => ?_)
            · refine lv_aload_n hx hb dX11_sheet_111 rfl (lv_at hl 1 rfl) ?_
              refine va_get (ci := 11) (v := .ref az) (C := RX11) (T := TX11) (N := 17) hx hb hg inX11 hown hE.1 hP 0 rfl rfl 6 (by decide) (hg _ k4_16) (fun _ h9 => h9) rfl dX11_sheet_112 ?_
              refine lv_iload_n hx hb dX11_sheet_115 rfl (lv_at hl 2 rfl) ?_
              refine ck_iald hx hb hE hP 2 rfl (by omega) (by decide) dX11_sheet_116 ?_
              exact ck_iret hx hb hrt hlk ⟨fd, upd sb s1 y, upd sz s1 (nI 0), st1⟩ (by have he := (((if_pos hy).trans ((if_neg (nI_pos hz01)).trans (if_pos hz1))) : shF y (nI z0) = 0); exact ⟨ckRd_ok he (pk_us.trans (congrArg nI hsc.symm)), Or.inl ⟨he, hy, rfl, (by rw [hsc]), (by omega), (fun q hq => hze q (by omega)), hso⟩⟩) hP hD hS ⟨Nat.le_of_ble_eq_true rfl, Nat.le_of_ble_eq_true rfl⟩ dX11_sheet_117
            refine lv_aload_n hx hb dX11_sheet_92 rfl (lv_at hl 1 rfl) ?_
            refine va_get (ci := 11) (v := .ref as_) (C := RX11) (T := TX11) (N := 17) hx hb hg inX11 hown hE.1 hP 0 rfl rfl 7 (by decide) (hg _ k4_17) (fun _ h9 => h9) rfl dX11_sheet_93 ?_
            refine lv_bipush (v := (nI 40)) hx hb dX11_sheet_96 (by decide) ?_
            refine lv_iload_n hx hb dX11_sheet_98 rfl (lv_at hl 2 rfl) ?_
            refine lv_imul hx hb dX11_sheet_99 ?_
            refine ck_top (y := (nI (40 * s1))) (pk_mul _ _) ?_
            refine lv_iload hx hb dX11_sheet_100 (lv_at hl 0 rfl) ?_
            refine lv_iadd hx hb dX11_sheet_102 ?_
            refine ck_top (y := (nI (40 * s1 + k))) (nI_add _ _) ?_
            refine lv_iconst (v := (nI 0)) hx hb dX11_sheet_103 (by decide) ?_
            refine ck_iast hx hb hE hP hD hS 3 rfl (by omega) (by decide) dX11_sheet_104 (ws1 := [(mm, .inr (11, [.ref an, .ref ak, .int (nI ke), .int (nI kn), .int fd, .ref ab, .ref az, .ref as_, .ref ae, .ref ao, .ref ar, .ref aw, .ref al, .ref am, .int (nI mn), .ref af, .ref ac])), (ab, .inl (N.2 0, 4, .inl (upd sb s1 y))), (az, .inl (N.2 0, 4, .inl (upd sz s1 (nI 0)))), (as_, .inl (N.2 0, 160, .inl (upd st1 (40 * s1 + k) (nI 0))))]) rfl (fun H locs hP hD hS => ?_)
            refine lv_iinc (v := (nI (k + 1))) (lv' := [(4, .int (nI (k + 1))), (0, .ref mm), (1, .int (nI s1)), (2, .int y), (3, .int (nI z0))]) hx hb dX11_sheet_105 hl (k := 0) rfl (nI_1 _) (by decide) rfl (fun ls hl => ?_)
            refine lv_goto (tgt := 85) hx hb dX11_sheet_108 (by decide) ?_
            exact ih_85 _ (by omega) (k + 1) (upd st1 (40 * s1 + k) (nI 0)) rfl (by omega) (lt_s (fun q hq => (pk_un (by omega)).trans (hze q hq)) pk_us) (fun j hj => (pk_un (by omega)).trans (hso j hj)) _ _ ls hP hD hS hl
        exact lp_85 _ 0 st rfl (by omega) (fun q hq => absurd hq (Nat.not_lt_zero q)) (fun j hj => rfl) _ _ ls hP hD hS hl
      have hz1 := cz_16
      refine lv_aload_n hx hb dX11_sheet_53 rfl (lv_at hl 0 rfl) ?_
      refine lv_ldc (own := RX11) (v := (-100001)) hx hb hown (hg _ k4_81) dX11_sheet_54 ?_
      refine ck_Vi (As := [.int (-100001)]) (rest := []) (wr := [(ab, .inl (N.2 0, 4, .inl sb)), (az, .inl (N.2 0, 4, .inl sz)), (as_, .inl (N.2 0, 160, .inl st))]) C0 hP hD hS (c_X11_finds l N mm an ak ab az as_ ae ao ar aw al am af ac ke kn fd mn (-100001) ) myX11_finds k4_67 ⟨Nat.le_of_ble_eq_true rfl, Nat.le_of_ble_eq_true rfl⟩ [0] [1, 2, 3] ⟨⟨rfl, rfl⟩, by decide, by decide, by decide⟩ 0 rfl rfl rfl rfl hl.1 rfl (Nat.le_of_ble_eq_true rfl) dX11_sheet_56 ⟨Nat.le_of_ble_eq_true rfl, Nat.le_of_ble_eq_true rfl⟩ (fun r_20 u0 H locs hw0 hP hD hS => ?_)
      have hw_21 : r_20 = (-100001) := hw0
      subst hw_21
      have hP : va_P N.1 vwCl [(ab, .inl (N.2 0, 4, .inl sb)), (az, .inl (N.2 0, 4, .inl sz)), (as_, .inl (N.2 0, 160, .inl st)), (mm, .inr (11, [.ref an, .ref ak, .int (nI ke), .int (nI kn), .int (fd + nI 1), .ref ab, .ref az, .ref as_, .ref ae, .ref ao, .ref ar, .ref aw, .ref al, .ref am, .int (nI mn), .ref af, .ref ac]))] H := hP
      have hD : va_D Ag [(ab, .inl (N.2 0, 4, .inl sb)), (az, .inl (N.2 0, 4, .inl sz)), (as_, .inl (N.2 0, 160, .inl st)), (mm, .inr (11, [.ref an, .ref ak, .int (nI ke), .int (nI kn), .int (fd + nI 1), .ref ab, .ref az, .ref as_, .ref ae, .ref ao, .ref ar, .ref aw, .ref al, .ref am, .int (nI mn), .ref af, .ref ac]))] := hD
      exact ck_iret hx hb hrt hlk ⟨(fd + nI 1), sb, sz, st⟩ (by have he := (((if_pos hy).trans ((if_neg hz0).trans (if_neg hz1))) : shF y z = (-100001)); exact ⟨ckRd_f he (by decide), Or.inr ⟨fun q => absurd (he.symm.trans q) (by decide), rfl, rfl, rfl⟩⟩) (hP.sub [3, 0, 1, 2] rfl) (hD.sub [3, 0, 1, 2] (by decide) rfl) hS ⟨Nat.le_of_ble_eq_true rfl, Nat.le_of_ble_eq_true rfl⟩ dX11_sheet_59
    have hz0 : z < 0 := Int32.not_le.mp cz_15
    refine lv_aload_n hx hb dX11_sheet_40 rfl (lv_at hl 0 rfl) ?_
    refine lv_ldc (own := RX11) (v := (-100003)) hx hb hown (hg _ k4_82) dX11_sheet_41 ?_
    refine ck_Vi (As := [.int (-100003)]) (rest := []) (wr := [(ab, .inl (N.2 0, 4, .inl sb)), (az, .inl (N.2 0, 4, .inl sz)), (as_, .inl (N.2 0, 160, .inl st))]) C0 hP hD hS (c_X11_finds l N mm an ak ab az as_ ae ao ar aw al am af ac ke kn fd mn (-100003) ) myX11_finds k4_67 ⟨Nat.le_of_ble_eq_true rfl, Nat.le_of_ble_eq_true rfl⟩ [0] [1, 2, 3] ⟨⟨rfl, rfl⟩, by decide, by decide, by decide⟩ 0 rfl rfl rfl rfl hl.1 rfl (Nat.le_of_ble_eq_true rfl) dX11_sheet_43 ⟨Nat.le_of_ble_eq_true rfl, Nat.le_of_ble_eq_true rfl⟩ (fun r_22 u0 H locs hw0 hP hD hS => ?_)
    have hw_23 : r_22 = (-100003) := hw0
    subst hw_23
    have hP : va_P N.1 vwCl [(ab, .inl (N.2 0, 4, .inl sb)), (az, .inl (N.2 0, 4, .inl sz)), (as_, .inl (N.2 0, 160, .inl st)), (mm, .inr (11, [.ref an, .ref ak, .int (nI ke), .int (nI kn), .int (fd + nI 1), .ref ab, .ref az, .ref as_, .ref ae, .ref ao, .ref ar, .ref aw, .ref al, .ref am, .int (nI mn), .ref af, .ref ac]))] H := hP
    have hD : va_D Ag [(ab, .inl (N.2 0, 4, .inl sb)), (az, .inl (N.2 0, 4, .inl sz)), (as_, .inl (N.2 0, 160, .inl st)), (mm, .inr (11, [.ref an, .ref ak, .int (nI ke), .int (nI kn), .int (fd + nI 1), .ref ab, .ref az, .ref as_, .ref ae, .ref ao, .ref ar, .ref aw, .ref al, .ref am, .int (nI mn), .ref af, .ref ac]))] := hD
    exact ck_iret hx hb hrt hlk ⟨(fd + nI 1), sb, sz, st⟩ (by have he := (((if_pos hy).trans (if_pos hz0)) : shF y z = (-100003)); exact ⟨ckRd_f he (by decide), Or.inr ⟨fun q => absurd (he.symm.trans q) (by decide), rfl, rfl, rfl⟩⟩) (hP.sub [3, 0, 1, 2] rfl) (hD.sub [3, 0, 1, 2] (by decide) rfl) hS ⟨Nat.le_of_ble_eq_true rfl, Nat.le_of_ble_eq_true rfl⟩ dX11_sheet_46
  refine lv_iload_n hx hb dX11_sheet_17 rfl (lv_at hl 2 rfl) ?_
  refine lv_bipush (v := (nI 16)) hx hb dX11_sheet_18 (by decide) ?_
  refine lv_icmp_eq (tgt := 36) hx hb dX11_sheet_20 (by decide) (fun cz_24 => ?_) (fun cz_24 => ?_)
  · have hy : y = 0 ∨ y = nI 8 ∨ y = nI 16 ∨ y = nI 32 := Or.inr (Or.inr (Or.inl cz_24))
    refine lv_iload_n hx hb dX11_sheet_36 rfl (lv_at hl 3 rfl) ?_
    refine lv_if_ge (tgt := 47) hx hb dX11_sheet_37 (by decide) (fun cz_25 => ?_) (fun cz_25 => ?_)
    · have hz0 : ¬ z < 0 := Int32.not_lt.mpr cz_25
      refine lv_iload_n hx hb dX11_sheet_47 rfl (lv_at hl 3 rfl) ?_
      refine lv_bipush (v := (nI 40)) hx hb dX11_sheet_48 (by decide) ?_
      refine lv_icmp_le (tgt := 60) hx hb dX11_sheet_50 (by decide) (fun cz_26 => ?_) (fun cz_26 => ?_)
      · have hz1 := cz_26
        obtain ⟨z0, hz01, rfl⟩ := nI_of hz0
        have hz40 : z0 ≤ 40 := (nI_leI hz01 (by decide)).mp hz1
        refine lv_aload_n hx hb dX11_sheet_60 rfl (lv_at hl 0 rfl) ?_
        refine va_get (ci := 11) (v := .ref ab) (C := RX11) (T := TX11) (N := 17) hx hb hg inX11 hown hE.1 hP 0 rfl rfl 5 (by decide) (hg _ k4_15) (fun _ h9 => h9) rfl dX11_sheet_61 ?_
        refine lv_iload_n hx hb dX11_sheet_64 rfl (lv_at hl 1 rfl) ?_
        refine lv_iload_n hx hb dX11_sheet_65 rfl (lv_at hl 2 rfl) ?_
        refine ck_iast hx hb hE hP hD hS 1 rfl (by omega) (by decide) dX11_sheet_66 (ws1 := [(mm, .inr (11, [.ref an, .ref ak, .int (nI ke), .int (nI kn), .int fd, .ref ab, .ref az, .ref as_, .ref ae, .ref ao, .ref ar, .ref aw, .ref al, .ref am, .int (nI mn), .ref af, .ref ac])), (ab, .inl (N.2 0, 4, .inl (upd sb s1 y))), (az, .inl (N.2 0, 4, .inl sz)), (as_, .inl (N.2 0, 160, .inl st))]) rfl (fun H locs hP hD hS => ?_)
        refine lv_aload_n hx hb dX11_sheet_67 rfl (lv_at hl 0 rfl) ?_
        refine va_get (ci := 11) (v := .ref az) (C := RX11) (T := TX11) (N := 17) hx hb hg inX11 hown hE.1 hP 0 rfl rfl 6 (by decide) (hg _ k4_16) (fun _ h9 => h9) rfl dX11_sheet_68 ?_
        refine lv_iload_n hx hb dX11_sheet_71 rfl (lv_at hl 1 rfl) ?_
        refine lv_iload_n hx hb dX11_sheet_72 rfl (lv_at hl 2 rfl) ?_
        refine lv_if_ne (tgt := 80) hx hb dX11_sheet_73 (by decide) (fun cz_27 => ?_) (fun cz_27 => ?_)
        · have hsc : shC y (nI z0) = z0 := by rw [shC, if_neg cz_27, ix_nI hz01]
          refine lv_iload_n hx hb dX11_sheet_80 rfl (lv_at hl 3 rfl) ?_
          refine ck_iast hx hb hE hP hD hS 2 rfl (by omega) (by decide) dX11_sheet_81 (ws1 := [(mm, .inr (11, [.ref an, .ref ak, .int (nI ke), .int (nI kn), .int fd, .ref ab, .ref az, .ref as_, .ref ae, .ref ao, .ref ar, .ref aw, .ref al, .ref am, .int (nI mn), .ref af, .ref ac])), (ab, .inl (N.2 0, 4, .inl (upd sb s1 y))), (az, .inl (N.2 0, 4, .inl (upd sz s1 (nI z0)))), (as_, .inl (N.2 0, 160, .inl st))]) rfl (fun H locs hP hD hS => ?_)
          refine lv_iconst (v := (nI 0)) hx hb dX11_sheet_82 (by decide) ?_
          refine lv_istore (lv' := [(4, .int (nI 0)), (0, .ref mm), (1, .int (nI s1)), (2, .int y), (3, .int (nI z0))]) hx hb dX11_sheet_83 hl (by decide) rfl (fun ls hl => ?_)
          have lp_85 : ∀ (dz : Nat) (k : Nat) (st1 : Nat → Int32) (hdz : 40 - k = dz) (hk : k ≤ 40) (hze : ∀ q, q < k → st1 (40 * s1 + q) = 0) (hso : ∀ j, ¬ (40 * s1 ≤ j ∧ j < 40 * s1 + 40) → st1 j = st j) (H : Heap) (locs : List Loc) (ls : Array Slot), va_P N.1 vwCl [(mm, .inr (11, [.ref an, .ref ak, .int (nI ke), .int (nI kn), .int fd, .ref ab, .ref az, .ref as_, .ref ae, .ref ao, .ref ar, .ref aw, .ref al, .ref am, .int (nI mn), .ref af, .ref ac])), (ab, .inl (N.2 0, 4, .inl (upd sb s1 y))), (az, .inl (N.2 0, 4, .inl (upd sz s1 (nI z0)))), (as_, .inl (N.2 0, 160, .inl st1))] H → va_D Ag [(mm, .inr (11, [.ref an, .ref ak, .int (nI ke), .int (nI kn), .int fd, .ref ab, .ref az, .ref as_, .ref ae, .ref ao, .ref ar, .ref aw, .ref al, .ref am, .int (nI mn), .ref af, .ref ac])), (ab, .inl (N.2 0, 4, .inl (upd sb s1 y))), (az, .inl (N.2 0, 4, .inl (upd sz s1 (nI z0)))), (as_, .inl (N.2 0, 160, .inl st1))] → va_S Ag sg.heap H locs → lv_has ls 5 [(4, .int (nI k)), (0, .ref mm), (1, .int (nI s1)), (2, .int y), (3, .int (nI z0))] → W pg l eg { frames := 4, cells := 0, slots := 0, locals := 102 } sg mg ([.ref mm, .int (nI s1), .int y, .int (nI z0)]).toArray blw mth cg H locs 0 0 (ckQi N Ag blw sg ([.ref mm, .int (nI s1), .int y, .int (nI z0)]).toArray { frames := 4, cells := 0, slots := 0, locals := 102 } (fun (r : Int32) (u : Int32 × (Nat → Int32) × (Nat → Int32) × (Nat → Int32)) => (ckRd (shF y (nI z0)) (nI (shC y (nI z0))) fd r u.1) ∧ ((shF y (nI z0) = 0 ∧ (y = 0 ∨ y = nI 8 ∨ y = nI 16 ∨ y = nI 32) ∧ u.2.1 = upd sb s1 y ∧ u.2.2.1 = upd sz s1 (nI (shC y (nI z0))) ∧ shC y (nI z0) ≤ 40 ∧ (∀ q, q < 40 → u.2.2.2 (40 * s1 + q) = 0) ∧ (∀ j, ¬ (40 * s1 ≤ j ∧ j < 40 * s1 + 40) → u.2.2.2 j = st j)) ∨ (shF y (nI z0) ≠ 0 ∧ u.2.1 = sb ∧ u.2.2.1 = sz ∧ u.2.2.2 = st))) (fun (u : Int32 × (Nat → Int32) × (Nat → Int32) × (Nat → Int32)) => [(mm, .inr (11, [.ref an, .ref ak, .int (nI ke), .int (nI kn), .int u.1, .ref ab, .ref az, .ref as_, .ref ae, .ref ao, .ref ar, .ref aw, .ref al, .ref am, .int (nI mn), .ref af, .ref ac])), (ab, .inl (N.2 0, 4, .inl u.2.1)), (az, .inl (N.2 0, 4, .inl u.2.2.1)), (as_, .inl (N.2 0, 160, .inl u.2.2.2))])) (F0 mg 85 ls []) := by
            intro dz
            induction dz using Nat.strongRecOn with
            | _ dz ih_85 =>
              intro k st1 hdz hk hze hso H locs ls hP hD hS hl
              subst hdz
              refine lv_iload hx hb dX11_sheet_85 (lv_at hl 0 rfl) ?_
              refine lv_bipush (v := (nI 40)) hx hb dX11_sheet_87 (by decide) ?_
              refine ck_ic_ge (tgt := 111) hx hb dX11_sheet_89 (by decide) (by omega) (by omega) (fun cz_28 => ?_) (fun cz_28 => ?_)
              · refine lv_aload_n hx hb dX11_sheet_111 rfl (lv_at hl 1 rfl) ?_
                refine va_get (ci := 11) (v := .ref az) (C := RX11) (T := TX11) (N := 17) hx hb hg inX11 hown hE.1 hP 0 rfl rfl 6 (by decide) (hg _ k4_16) (fun _ h9 => h9) rfl dX11_sheet_112 ?_
                refine lv_iload_n hx hb dX11_sheet_115 rfl (lv_at hl 2 rfl) ?_
                refine ck_iald hx hb hE hP 2 rfl (by omega) (by decide) dX11_sheet_116 ?_
                exact ck_iret hx hb hrt hlk ⟨fd, upd sb s1 y, upd sz s1 (nI z0), st1⟩ (by have he := (((if_pos hy).trans ((if_neg (nI_pos hz01)).trans (if_pos hz1))) : shF y (nI z0) = 0); exact ⟨ckRd_ok he (pk_us.trans (congrArg nI hsc.symm)), Or.inl ⟨he, hy, rfl, (by rw [hsc]), (by omega), (fun q hq => hze q (by omega)), hso⟩⟩) hP hD hS ⟨Nat.le_of_ble_eq_true rfl, Nat.le_of_ble_eq_true rfl⟩ dX11_sheet_117
              refine lv_aload_n hx hb dX11_sheet_92 rfl (lv_at hl 1 rfl) ?_
              refine va_get (ci := 11) (v := .ref as_) (C := RX11) (T := TX11) (N := 17) hx hb hg inX11 hown hE.1 hP 0 rfl rfl 7 (by decide) (hg _ k4_17) (fun _ h9 => h9) rfl dX11_sheet_93 ?_
              refine lv_bipush (v := (nI 40)) hx hb dX11_sheet_96 (by decide) ?_
              refine lv_iload_n hx hb dX11_sheet_98 rfl (lv_at hl 2 rfl) ?_
              refine lv_imul hx hb dX11_sheet_99 ?_
              refine ck_top (y := (nI (40 * s1))) (pk_mul _ _) ?_
              refine lv_iload hx hb dX11_sheet_100 (lv_at hl 0 rfl) ?_
              refine lv_iadd hx hb dX11_sheet_102 ?_
              refine ck_top (y := (nI (40 * s1 + k))) (nI_add _ _) ?_
              refine lv_iconst (v := (nI 0)) hx hb dX11_sheet_103 (by decide) ?_
              refine ck_iast hx hb hE hP hD hS 3 rfl (by omega) (by decide) dX11_sheet_104 (ws1 := [(mm, .inr (11, [.ref an, .ref ak, .int (nI ke), .int (nI kn), .int fd, .ref ab, .ref az, .ref as_, .ref ae, .ref ao, .ref ar, .ref aw, .ref al, .ref am, .int (nI mn), .ref af, .ref ac])), (ab, .inl (N.2 0, 4, .inl (upd sb s1 y))), (az, .inl (N.2 0, 4, .inl (upd sz s1 (nI z0)))), (as_, .inl (N.2 0, 160, .inl (upd st1 (40 * s1 + k) (nI 0))))]) rfl (fun H locs hP hD hS => ?_)
              refine lv_iinc (v := (nI (k + 1))) (lv' := [(4, .int (nI (k + 1))), (0, .ref mm), (1, .int (nI s1)), (2, .int y), (3, .int (nI z0))]) hx hb dX11_sheet_105 hl (k := 0) rfl (nI_1 _) (by decide) rfl (fun ls hl => ?_)
              refine lv_goto (tgt := 85) hx hb dX11_sheet_108 (by decide) ?_
              exact ih_85 _ (by omega) (k + 1) (upd st1 (40 * s1 + k) (nI 0)) rfl (by omega) (lt_s (fun q hq => (pk_un (by omega)).trans (hze q hq)) pk_us) (fun j hj => (pk_un (by omega)).trans (hso j hj)) _ _ ls hP hD hS hl
          exact lp_85 _ 0 st rfl (by omega) (fun q hq => absurd hq (Nat.not_lt_zero q)) (fun j hj => rfl) _ _ ls hP hD hS hl
        have hsc : shC y (nI z0) = 0 := by rw [shC, if_pos cz_27]
        refine lv_iconst (v := (nI 0)) hx hb dX11_sheet_76 (by decide) ?_
        refine lv_goto (tgt := 81) hx hb dX11_sheet_77 (by decide) ?_
        refine ck_iast hx hb hE hP hD hS 2 rfl (by omega) (by decide) dX11_sheet_81 (ws1 := [(mm, .inr (11, [.ref an, .ref ak, .int (nI ke), .int (nI kn), .int fd, .ref ab, .ref az, .ref as_, .ref ae, .ref ao, .ref ar, .ref aw, .ref al, .ref am, .int (nI mn), .ref af, .ref ac])), (ab, .inl (N.2 0, 4, .inl (upd sb s1 y))), (az, .inl (N.2 0, 4, .inl (upd sz s1 (nI 0)))), (as_, .inl (N.2 0, 160, .inl st))]) rfl (fun H locs hP hD hS => ?_)
        refine lv_iconst (v := (nI 0)) hx hb dX11_sheet_82 (by decide) ?_
        refine lv_istore (lv' := [(4, .int (nI 0)), (0, .ref mm), (1, .int (nI s1)), (2, .int y), (3, .int (nI z0))]) hx hb dX11_sheet_83 hl (by decide) rfl (fun ls hl => ?_)
        have lp_85 : ∀ (dz : Nat) (k : Nat) (st1 : Nat → Int32) (hdz : 40 - k = dz) (hk : k ≤ 40) (hze : ∀ q, q < k → st1 (40 * s1 + q) = 0) (hso : ∀ j, ¬ (40 * s1 ≤ j ∧ j < 40 * s1 + 40) → st1 j = st j) (H : Heap) (locs : List Loc) (ls : Array Slot), va_P N.1 vwCl [(mm, .inr (11, [.ref an, .ref ak, .int (nI ke), .int (nI kn), .int fd, .ref ab, .ref az, .ref as_, .ref ae, .ref ao, .ref ar, .ref aw, .ref al, .ref am, .int (nI mn), .ref af, .ref ac])), (ab, .inl (N.2 0, 4, .inl (upd sb s1 y))), (az, .inl (N.2 0, 4, .inl (upd sz s1 (nI 0)))), (as_, .inl (N.2 0, 160, .inl st1))] H → va_D Ag [(mm, .inr (11, [.ref an, .ref ak, .int (nI ke), .int (nI kn), .int fd, .ref ab, .ref az, .ref as_, .ref ae, .ref ao, .ref ar, .ref aw, .ref al, .ref am, .int (nI mn), .ref af, .ref ac])), (ab, .inl (N.2 0, 4, .inl (upd sb s1 y))), (az, .inl (N.2 0, 4, .inl (upd sz s1 (nI 0)))), (as_, .inl (N.2 0, 160, .inl st1))] → va_S Ag sg.heap H locs → lv_has ls 5 [(4, .int (nI k)), (0, .ref mm), (1, .int (nI s1)), (2, .int y), (3, .int (nI z0))] → W pg l eg { frames := 4, cells := 0, slots := 0, locals := 102 } sg mg ([.ref mm, .int (nI s1), .int y, .int (nI z0)]).toArray blw mth cg H locs 0 0 (ckQi N Ag blw sg ([.ref mm, .int (nI s1), .int y, .int (nI z0)]).toArray { frames := 4, cells := 0, slots := 0, locals := 102 } (fun (r : Int32) (u : Int32 × (Nat → Int32) × (Nat → Int32) × (Nat → Int32)) => (ckRd (shF y (nI z0)) (nI (shC y (nI z0))) fd r u.1) ∧ ((shF y (nI z0) = 0 ∧ (y = 0 ∨ y = nI 8 ∨ y = nI 16 ∨ y = nI 32) ∧ u.2.1 = upd sb s1 y ∧ u.2.2.1 = upd sz s1 (nI (shC y (nI z0))) ∧ shC y (nI z0) ≤ 40 ∧ (∀ q, q < 40 → u.2.2.2 (40 * s1 + q) = 0) ∧ (∀ j, ¬ (40 * s1 ≤ j ∧ j < 40 * s1 + 40) → u.2.2.2 j = st j)) ∨ (shF y (nI z0) ≠ 0 ∧ u.2.1 = sb ∧ u.2.2.1 = sz ∧ u.2.2.2 = st))) (fun (u : Int32 × (Nat → Int32) × (Nat → Int32) × (Nat → Int32)) => [(mm, .inr (11, [.ref an, .ref ak, .int (nI ke), .int (nI kn), .int u.1, .ref ab, .ref az, .ref as_, .ref ae, .ref ao, .ref ar, .ref aw, .ref al, .ref am, .int (nI mn), .ref af, .ref ac])), (ab, .inl (N.2 0, 4, .inl u.2.1)), (az, .inl (N.2 0, 4, .inl u.2.2.1)), (as_, .inl (N.2 0, 160, .inl u.2.2.2))])) (F0 mg 85 ls []) := by
          intro dz
          induction dz using Nat.strongRecOn with
          | _ dz ih_85 =>
            intro k st1 hdz hk hze hso H locs ls hP hD hS hl
            subst hdz
            refine lv_iload hx hb dX11_sheet_85 (lv_at hl 0 rfl) ?_
            refine lv_bipush (v := (nI 40)) hx hb dX11_sheet_87 (by decide) ?_
            refine ck_ic_ge (tgt := 111) hx hb dX11_sheet_89 (by decide) (by omega) (by omega) (fun cz_29 => ?_) (fun cz_29 => ?_)
            · refine lv_aload_n hx hb dX11_sheet_111 rfl (lv_at hl 1 rfl) ?_
              refine va_get (ci := 11) (v := .ref az) (C := RX11) (T := TX11) (N := 17) hx hb hg inX11 hown hE.1 hP 0 rfl rfl 6 (by decide) (hg _ k4_16) (fun _ h9 => h9) rfl dX11_sheet_112 ?_
              refine lv_iload_n hx hb dX11_sheet_115 rfl (lv_at hl 2 rfl) ?_
              refine ck_iald hx hb hE hP 2 rfl (by omega) (by decide) dX11_sheet_116 ?_
              exact ck_iret hx hb hrt hlk ⟨fd, upd sb s1 y, upd sz s1 (nI 0), st1⟩ (by have he := (((if_pos hy).trans ((if_neg (nI_pos hz01)).trans (if_pos hz1))) : shF y (nI z0) = 0); exact ⟨ckRd_ok he (pk_us.trans (congrArg nI hsc.symm)), Or.inl ⟨he, hy, rfl, (by rw [hsc]), (by omega), (fun q hq => hze q (by omega)), hso⟩⟩) hP hD hS ⟨Nat.le_of_ble_eq_true rfl, Nat.le_of_ble_eq_true rfl⟩ dX11_sheet_117
            refine lv_aload_n hx hb dX11_sheet_92 rfl (lv_at hl 1 rfl) ?_
            refine va_get (ci := 11) (v := .ref as_) (C := RX11) (T := TX11) (N := 17) hx hb hg inX11 hown hE.1 hP 0 rfl rfl 7 (by decide) (hg _ k4_17) (fun _ h9 => h9) rfl dX11_sheet_93 ?_
            refine lv_bipush (v := (nI 40)) hx hb dX11_sheet_96 (by decide) ?_
            refine lv_iload_n hx hb dX11_sheet_98 rfl (lv_at hl 2 rfl) ?_
            refine lv_imul hx hb dX11_sheet_99 ?_
            refine ck_top (y := (nI (40 * s1))) (pk_mul _ _) ?_
            refine lv_iload hx hb dX11_sheet_100 (lv_at hl 0 rfl) ?_
            refine lv_iadd hx hb dX11_sheet_102 ?_
            refine ck_top (y := (nI (40 * s1 + k))) (nI_add _ _) ?_
            refine lv_iconst (v := (nI 0)) hx hb dX11_sheet_103 (by decide) ?_
            refine ck_iast hx hb hE hP hD hS 3 rfl (by omega) (by decide) dX11_sheet_104 (ws1 := [(mm, .inr (11, [.ref an, .ref ak, .int (nI ke), .int (nI kn), .int fd, .ref ab, .ref az, .ref as_, .ref ae, .ref ao, .ref ar, .ref aw, .ref al, .ref am, .int (nI mn), .ref af, .ref ac])), (ab, .inl (N.2 0, 4, .inl (upd sb s1 y))), (az, .inl (N.2 0, 4, .inl (upd sz s1 (nI 0)))), (as_, .inl (N.2 0, 160, .inl (upd st1 (40 * s1 + k) (nI 0))))]) rfl (fun H locs hP hD hS => ?_)
            refine lv_iinc (v := (nI (k + 1))) (lv' := [(4, .int (nI (k + 1))), (0, .ref mm), (1, .int (nI s1)), (2, .int y), (3, .int (nI z0))]) hx hb dX11_sheet_105 hl (k := 0) rfl (nI_1 _) (by decide) rfl (fun ls hl => ?_)
            refine lv_goto (tgt := 85) hx hb dX11_sheet_108 (by decide) ?_
            exact ih_85 _ (by omega) (k + 1) (upd st1 (40 * s1 + k) (nI 0)) rfl (by omega) (lt_s (fun q hq => (pk_un (by omega)).trans (hze q hq)) pk_us) (fun j hj => (pk_un (by omega)).trans (hso j hj)) _ _ ls hP hD hS hl
        exact lp_85 _ 0 st rfl (by omega) (fun q hq => absurd hq (Nat.not_lt_zero q)) (fun j hj => rfl) _ _ ls hP hD hS hl
      have hz1 := cz_26
      refine lv_aload_n hx hb dX11_sheet_53 rfl (lv_at hl 0 rfl) ?_
      refine lv_ldc (own := RX11) (v := (-100001)) hx hb hown (hg _ k4_81) dX11_sheet_54 ?_
      refine ck_Vi (As := [.int (-100001)]) (rest := []) (wr := [(ab, .inl (N.2 0, 4, .inl sb)), (az, .inl (N.2 0, 4, .inl sz)), (as_, .inl (N.2 0, 160, .inl st))]) C0 hP hD hS (c_X11_finds l N mm an ak ab az as_ ae ao ar aw al am af ac ke kn fd mn (-100001) ) myX11_finds k4_67 ⟨Nat.le_of_ble_eq_true rfl, Nat.le_of_ble_eq_true rfl⟩ [0] [1, 2, 3] ⟨⟨rfl, rfl⟩, by decide, by decide, by decide⟩ 0 rfl rfl rfl rfl hl.1 rfl (Nat.le_of_ble_eq_true rfl) dX11_sheet_56 ⟨Nat.le_of_ble_eq_true rfl, Nat.le_of_ble_eq_true rfl⟩ (fun r_30 u0 H locs hw0 hP hD hS => ?_)
      have hw_31 : r_30 = (-100001) := hw0
      subst hw_31
      have hP : va_P N.1 vwCl [(ab, .inl (N.2 0, 4, .inl sb)), (az, .inl (N.2 0, 4, .inl sz)), (as_, .inl (N.2 0, 160, .inl st)), (mm, .inr (11, [.ref an, .ref ak, .int (nI ke), .int (nI kn), .int (fd + nI 1), .ref ab, .ref az, .ref as_, .ref ae, .ref ao, .ref ar, .ref aw, .ref al, .ref am, .int (nI mn), .ref af, .ref ac]))] H := hP
      have hD : va_D Ag [(ab, .inl (N.2 0, 4, .inl sb)), (az, .inl (N.2 0, 4, .inl sz)), (as_, .inl (N.2 0, 160, .inl st)), (mm, .inr (11, [.ref an, .ref ak, .int (nI ke), .int (nI kn), .int (fd + nI 1), .ref ab, .ref az, .ref as_, .ref ae, .ref ao, .ref ar, .ref aw, .ref al, .ref am, .int (nI mn), .ref af, .ref ac]))] := hD
      exact ck_iret hx hb hrt hlk ⟨(fd + nI 1), sb, sz, st⟩ (by have he := (((if_pos hy).trans ((if_neg hz0).trans (if_neg hz1))) : shF y z = (-100001)); exact ⟨ckRd_f he (by decide), Or.inr ⟨fun q => absurd (he.symm.trans q) (by decide), rfl, rfl, rfl⟩⟩) (hP.sub [3, 0, 1, 2] rfl) (hD.sub [3, 0, 1, 2] (by decide) rfl) hS ⟨Nat.le_of_ble_eq_true rfl, Nat.le_of_ble_eq_true rfl⟩ dX11_sheet_59
    have hz0 : z < 0 := Int32.not_le.mp cz_25
    refine lv_aload_n hx hb dX11_sheet_40 rfl (lv_at hl 0 rfl) ?_
    refine lv_ldc (own := RX11) (v := (-100003)) hx hb hown (hg _ k4_82) dX11_sheet_41 ?_
    refine ck_Vi (As := [.int (-100003)]) (rest := []) (wr := [(ab, .inl (N.2 0, 4, .inl sb)), (az, .inl (N.2 0, 4, .inl sz)), (as_, .inl (N.2 0, 160, .inl st))]) C0 hP hD hS (c_X11_finds l N mm an ak ab az as_ ae ao ar aw al am af ac ke kn fd mn (-100003) ) myX11_finds k4_67 ⟨Nat.le_of_ble_eq_true rfl, Nat.le_of_ble_eq_true rfl⟩ [0] [1, 2, 3] ⟨⟨rfl, rfl⟩, by decide, by decide, by decide⟩ 0 rfl rfl rfl rfl hl.1 rfl (Nat.le_of_ble_eq_true rfl) dX11_sheet_43 ⟨Nat.le_of_ble_eq_true rfl, Nat.le_of_ble_eq_true rfl⟩ (fun r_32 u0 H locs hw0 hP hD hS => ?_)
    have hw_33 : r_32 = (-100003) := hw0
    subst hw_33
    have hP : va_P N.1 vwCl [(ab, .inl (N.2 0, 4, .inl sb)), (az, .inl (N.2 0, 4, .inl sz)), (as_, .inl (N.2 0, 160, .inl st)), (mm, .inr (11, [.ref an, .ref ak, .int (nI ke), .int (nI kn), .int (fd + nI 1), .ref ab, .ref az, .ref as_, .ref ae, .ref ao, .ref ar, .ref aw, .ref al, .ref am, .int (nI mn), .ref af, .ref ac]))] H := hP
    have hD : va_D Ag [(ab, .inl (N.2 0, 4, .inl sb)), (az, .inl (N.2 0, 4, .inl sz)), (as_, .inl (N.2 0, 160, .inl st)), (mm, .inr (11, [.ref an, .ref ak, .int (nI ke), .int (nI kn), .int (fd + nI 1), .ref ab, .ref az, .ref as_, .ref ae, .ref ao, .ref ar, .ref aw, .ref al, .ref am, .int (nI mn), .ref af, .ref ac]))] := hD
    exact ck_iret hx hb hrt hlk ⟨(fd + nI 1), sb, sz, st⟩ (by have he := (((if_pos hy).trans (if_pos hz0)) : shF y z = (-100003)); exact ⟨ckRd_f he (by decide), Or.inr ⟨fun q => absurd (he.symm.trans q) (by decide), rfl, rfl, rfl⟩⟩) (hP.sub [3, 0, 1, 2] rfl) (hD.sub [3, 0, 1, 2] (by decide) rfl) hS ⟨Nat.le_of_ble_eq_true rfl, Nat.le_of_ble_eq_true rfl⟩ dX11_sheet_46
  refine lv_iload_n hx hb dX11_sheet_23 rfl (lv_at hl 2 rfl) ?_
  refine lv_bipush (v := (nI 32)) hx hb dX11_sheet_24 (by decide) ?_
  refine lv_icmp_eq (tgt := 36) hx hb dX11_sheet_26 (by decide) (fun cz_34 => ?_) (fun cz_34 => ?_)
  · have hy : y = 0 ∨ y = nI 8 ∨ y = nI 16 ∨ y = nI 32 := Or.inr (Or.inr (Or.inr cz_34))
    refine lv_iload_n hx hb dX11_sheet_36 rfl (lv_at hl 3 rfl) ?_
    refine lv_if_ge (tgt := 47) hx hb dX11_sheet_37 (by decide) (fun cz_35 => ?_) (fun cz_35 => ?_)
    · have hz0 : ¬ z < 0 := Int32.not_lt.mpr cz_35
      refine lv_iload_n hx hb dX11_sheet_47 rfl (lv_at hl 3 rfl) ?_
      refine lv_bipush (v := (nI 40)) hx hb dX11_sheet_48 (by decide) ?_
      refine lv_icmp_le (tgt := 60) hx hb dX11_sheet_50 (by decide) (fun cz_36 => ?_) (fun cz_36 => ?_)
      · have hz1 := cz_36
        obtain ⟨z0, hz01, rfl⟩ := nI_of hz0
        have hz40 : z0 ≤ 40 := (nI_leI hz01 (by decide)).mp hz1
        refine lv_aload_n hx hb dX11_sheet_60 rfl (lv_at hl 0 rfl) ?_
        refine va_get (ci := 11) (v := .ref ab) (C := RX11) (T := TX11) (N := 17) hx hb hg inX11 hown hE.1 hP 0 rfl rfl 5 (by decide) (hg _ k4_15) (fun _ h9 => h9) rfl dX11_sheet_61 ?_
        refine lv_iload_n hx hb dX11_sheet_64 rfl (lv_at hl 1 rfl) ?_
        refine lv_iload_n hx hb dX11_sheet_65 rfl (lv_at hl 2 rfl) ?_
        refine ck_iast hx hb hE hP hD hS 1 rfl (by omega) (by decide) dX11_sheet_66 (ws1 := [(mm, .inr (11, [.ref an, .ref ak, .int (nI ke), .int (nI kn), .int fd, .ref ab, .ref az, .ref as_, .ref ae, .ref ao, .ref ar, .ref aw, .ref al, .ref am, .int (nI mn), .ref af, .ref ac])), (ab, .inl (N.2 0, 4, .inl (upd sb s1 y))), (az, .inl (N.2 0, 4, .inl sz)), (as_, .inl (N.2 0, 160, .inl st))]) rfl (fun H locs hP hD hS => ?_)
        refine lv_aload_n hx hb dX11_sheet_67 rfl (lv_at hl 0 rfl) ?_
        refine va_get (ci := 11) (v := .ref az) (C := RX11) (T := TX11) (N := 17) hx hb hg inX11 hown hE.1 hP 0 rfl rfl 6 (by decide) (hg _ k4_16) (fun _ h9 => h9) rfl dX11_sheet_68 ?_
        refine lv_iload_n hx hb dX11_sheet_71 rfl (lv_at hl 1 rfl) ?_
        refine lv_iload_n hx hb dX11_sheet_72 rfl (lv_at hl 2 rfl) ?_
        refine lv_if_ne (tgt := 80) hx hb dX11_sheet_73 (by decide) (fun cz_37 => ?_) (fun cz_37 => ?_)
        · have hsc : shC y (nI z0) = z0 := by rw [shC, if_neg cz_37, ix_nI hz01]
          refine lv_iload_n hx hb dX11_sheet_80 rfl (lv_at hl 3 rfl) ?_
          refine ck_iast hx hb hE hP hD hS 2 rfl (by omega) (by decide) dX11_sheet_81 (ws1 := [(mm, .inr (11, [.ref an, .ref ak, .int (nI ke), .int (nI kn), .int fd, .ref ab, .ref az, .ref as_, .ref ae, .ref ao, .ref ar, .ref aw, .ref al, .ref am, .int (nI mn), .ref af, .ref ac])), (ab, .inl (N.2 0, 4, .inl (upd sb s1 y))), (az, .inl (N.2 0, 4, .inl (upd sz s1 (nI z0)))), (as_, .inl (N.2 0, 160, .inl st))]) rfl (fun H locs hP hD hS => ?_)
          refine lv_iconst (v := (nI 0)) hx hb dX11_sheet_82 (by decide) ?_
          refine lv_istore (lv' := [(4, .int (nI 0)), (0, .ref mm), (1, .int (nI s1)), (2, .int y), (3, .int (nI z0))]) hx hb dX11_sheet_83 hl (by decide) rfl (fun ls hl => ?_)
          have lp_85 : ∀ (dz : Nat) (k : Nat) (st1 : Nat → Int32) (hdz : 40 - k = dz) (hk : k ≤ 40) (hze : ∀ q, q < k → st1 (40 * s1 + q) = 0) (hso : ∀ j, ¬ (40 * s1 ≤ j ∧ j < 40 * s1 + 40) → st1 j = st j) (H : Heap) (locs : List Loc) (ls : Array Slot), va_P N.1 vwCl [(mm, .inr (11, [.ref an, .ref ak, .int (nI ke), .int (nI kn), .int fd, .ref ab, .ref az, .ref as_, .ref ae, .ref ao, .ref ar, .ref aw, .ref al, .ref am, .int (nI mn), .ref af, .ref ac])), (ab, .inl (N.2 0, 4, .inl (upd sb s1 y))), (az, .inl (N.2 0, 4, .inl (upd sz s1 (nI z0)))), (as_, .inl (N.2 0, 160, .inl st1))] H → va_D Ag [(mm, .inr (11, [.ref an, .ref ak, .int (nI ke), .int (nI kn), .int fd, .ref ab, .ref az, .ref as_, .ref ae, .ref ao, .ref ar, .ref aw, .ref al, .ref am, .int (nI mn), .ref af, .ref ac])), (ab, .inl (N.2 0, 4, .inl (upd sb s1 y))), (az, .inl (N.2 0, 4, .inl (upd sz s1 (nI z0)))), (as_, .inl (N.2 0, 160, .inl st1))] → va_S Ag sg.heap H locs → lv_has ls 5 [(4, .int (nI k)), (0, .ref mm), (1, .int (nI s1)), (2, .int y), (3, .int (nI z0))] → W pg l eg { frames := 4, cells := 0, slots := 0, locals := 102 } sg mg ([.ref mm, .int (nI s1), .int y, .int (nI z0)]).toArray blw mth cg H locs 0 0 (ckQi N Ag blw sg ([.ref mm, .int (nI s1), .int y, .int (nI z0)]).toArray { frames := 4, cells := 0, slots := 0, locals := 102 } (fun (r : Int32) (u : Int32 × (Nat → Int32) × (Nat → Int32) × (Nat → Int32)) => (ckRd (shF y (nI z0)) (nI (shC y (nI z0))) fd r u.1) ∧ ((shF y (nI z0) = 0 ∧ (y = 0 ∨ y = nI 8 ∨ y = nI 16 ∨ y = nI 32) ∧ u.2.1 = upd sb s1 y ∧ u.2.2.1 = upd sz s1 (nI (shC y (nI z0))) ∧ shC y (nI z0) ≤ 40 ∧ (∀ q, q < 40 → u.2.2.2 (40 * s1 + q) = 0) ∧ (∀ j, ¬ (40 * s1 ≤ j ∧ j < 40 * s1 + 40) → u.2.2.2 j = st j)) ∨ (shF y (nI z0) ≠ 0 ∧ u.2.1 = sb ∧ u.2.2.1 = sz ∧ u.2.2.2 = st))) (fun (u : Int32 × (Nat → Int32) × (Nat → Int32) × (Nat → Int32)) => [(mm, .inr (11, [.ref an, .ref ak, .int (nI ke), .int (nI kn), .int u.1, .ref ab, .ref az, .ref as_, .ref ae, .ref ao, .ref ar, .ref aw, .ref al, .ref am, .int (nI mn), .ref af, .ref ac])), (ab, .inl (N.2 0, 4, .inl u.2.1)), (az, .inl (N.2 0, 4, .inl u.2.2.1)), (as_, .inl (N.2 0, 160, .inl u.2.2.2))])) (F0 mg 85 ls []) := by
            intro dz
            induction dz using Nat.strongRecOn with
            | _ dz ih_85 =>
              intro k st1 hdz hk hze hso H locs ls hP hD hS hl
              subst hdz
              refine lv_iload hx hb dX11_sheet_85 (lv_at hl 0 rfl) ?_
              refine lv_bipush (v := (nI 40)) hx hb dX11_sheet_87 (by decide) ?_
              refine ck_ic_ge (tgt := 111) hx hb dX11_sheet_89 (by decide) (by omega) (by omega) (fun cz_38 => ?_) (fun cz_38 => ?_)
              · refine lv_aload_n hx hb dX11_sheet_111 rfl (lv_at hl 1 rfl) ?_
                refine va_get (ci := 11) (v := .ref az) (C := RX11) (T := TX11) (N := 17) hx hb hg inX11 hown hE.1 hP 0 rfl rfl 6 (by decide) (hg _ k4_16) (fun _ h9 => h9) rfl dX11_sheet_112 ?_
                refine lv_iload_n hx hb dX11_sheet_115 rfl (lv_at hl 2 rfl) ?_
                refine ck_iald hx hb hE hP 2 rfl (by omega) (by decide) dX11_sheet_116 ?_
                exact ck_iret hx hb hrt hlk ⟨fd, upd sb s1 y, upd sz s1 (nI z0), st1⟩ (by have he := (((if_pos hy).trans ((if_neg (nI_pos hz01)).trans (if_pos hz1))) : shF y (nI z0) = 0); exact ⟨ckRd_ok he (pk_us.trans (congrArg nI hsc.symm)), Or.inl ⟨he, hy, rfl, (by rw [hsc]), (by omega), (fun q hq => hze q (by omega)), hso⟩⟩) hP hD hS ⟨Nat.le_of_ble_eq_true rfl, Nat.le_of_ble_eq_true rfl⟩ dX11_sheet_117
              refine lv_aload_n hx hb dX11_sheet_92 rfl (lv_at hl 1 rfl) ?_
              refine va_get (ci := 11) (v := .ref as_) (C := RX11) (T := TX11) (N := 17) hx hb hg inX11 hown hE.1 hP 0 rfl rfl 7 (by decide) (hg _ k4_17) (fun _ h9 => h9) rfl dX11_sheet_93 ?_
              refine lv_bipush (v := (nI 40)) hx hb dX11_sheet_96 (by decide) ?_
              refine lv_iload_n hx hb dX11_sheet_98 rfl (lv_at hl 2 rfl) ?_
              refine lv_imul hx hb dX11_sheet_99 ?_
              refine ck_top (y := (nI (40 * s1))) (pk_mul _ _) ?_
              refine lv_iload hx hb dX11_sheet_100 (lv_at hl 0 rfl) ?_
              refine lv_iadd hx hb dX11_sheet_102 ?_
              refine ck_top (y := (nI (40 * s1 + k))) (nI_add _ _) ?_
              refine lv_iconst (v := (nI 0)) hx hb dX11_sheet_103 (by decide) ?_
              refine ck_iast hx hb hE hP hD hS 3 rfl (by omega) (by decide) dX11_sheet_104 (ws1 := [(mm, .inr (11, [.ref an, .ref ak, .int (nI ke), .int (nI kn), .int fd, .ref ab, .ref az, .ref as_, .ref ae, .ref ao, .ref ar, .ref aw, .ref al, .ref am, .int (nI mn), .ref af, .ref ac])), (ab, .inl (N.2 0, 4, .inl (upd sb s1 y))), (az, .inl (N.2 0, 4, .inl (upd sz s1 (nI z0)))), (as_, .inl (N.2 0, 160, .inl (upd st1 (40 * s1 + k) (nI 0))))]) rfl (fun H locs hP hD hS => ?_)
              refine lv_iinc (v := (nI (k + 1))) (lv' := [(4, .int (nI (k + 1))), (0, .ref mm), (1, .int (nI s1)), (2, .int y), (3, .int (nI z0))]) hx hb dX11_sheet_105 hl (k := 0) rfl (nI_1 _) (by decide) rfl (fun ls hl => ?_)
              refine lv_goto (tgt := 85) hx hb dX11_sheet_108 (by decide) ?_
              exact ih_85 _ (by omega) (k + 1) (upd st1 (40 * s1 + k) (nI 0)) rfl (by omega) (lt_s (fun q hq => (pk_un (by omega)).trans (hze q hq)) pk_us) (fun j hj => (pk_un (by omega)).trans (hso j hj)) _ _ ls hP hD hS hl
          exact lp_85 _ 0 st rfl (by omega) (fun q hq => absurd hq (Nat.not_lt_zero q)) (fun j hj => rfl) _ _ ls hP hD hS hl
        have hsc : shC y (nI z0) = 0 := by rw [shC, if_pos cz_37]
        refine lv_iconst (v := (nI 0)) hx hb dX11_sheet_76 (by decide) ?_
        refine lv_goto (tgt := 81) hx hb dX11_sheet_77 (by decide) ?_
        refine ck_iast hx hb hE hP hD hS 2 rfl (by omega) (by decide) dX11_sheet_81 (ws1 := [(mm, .inr (11, [.ref an, .ref ak, .int (nI ke), .int (nI kn), .int fd, .ref ab, .ref az, .ref as_, .ref ae, .ref ao, .ref ar, .ref aw, .ref al, .ref am, .int (nI mn), .ref af, .ref ac])), (ab, .inl (N.2 0, 4, .inl (upd sb s1 y))), (az, .inl (N.2 0, 4, .inl (upd sz s1 (nI 0)))), (as_, .inl (N.2 0, 160, .inl st))]) rfl (fun H locs hP hD hS => ?_)
        refine lv_iconst (v := (nI 0)) hx hb dX11_sheet_82 (by decide) ?_
        refine lv_istore (lv' := [(4, .int (nI 0)), (0, .ref mm), (1, .int (nI s1)), (2, .int y), (3, .int (nI z0))]) hx hb dX11_sheet_83 hl (by decide) rfl (fun ls hl => ?_)
        have lp_85 : ∀ (dz : Nat) (k : Nat) (st1 : Nat → Int32) (hdz : 40 - k = dz) (hk : k ≤ 40) (hze : ∀ q, q < k → st1 (40 * s1 + q) = 0) (hso : ∀ j, ¬ (40 * s1 ≤ j ∧ j < 40 * s1 + 40) → st1 j = st j) (H : Heap) (locs : List Loc) (ls : Array Slot), va_P N.1 vwCl [(mm, .inr (11, [.ref an, .ref ak, .int (nI ke), .int (nI kn), .int fd, .ref ab, .ref az, .ref as_, .ref ae, .ref ao, .ref ar, .ref aw, .ref al, .ref am, .int (nI mn), .ref af, .ref ac])), (ab, .inl (N.2 0, 4, .inl (upd sb s1 y))), (az, .inl (N.2 0, 4, .inl (upd sz s1 (nI 0)))), (as_, .inl (N.2 0, 160, .inl st1))] H → va_D Ag [(mm, .inr (11, [.ref an, .ref ak, .int (nI ke), .int (nI kn), .int fd, .ref ab, .ref az, .ref as_, .ref ae, .ref ao, .ref ar, .ref aw, .ref al, .ref am, .int (nI mn), .ref af, .ref ac])), (ab, .inl (N.2 0, 4, .inl (upd sb s1 y))), (az, .inl (N.2 0, 4, .inl (upd sz s1 (nI 0)))), (as_, .inl (N.2 0, 160, .inl st1))] → va_S Ag sg.heap H locs → lv_has ls 5 [(4, .int (nI k)), (0, .ref mm), (1, .int (nI s1)), (2, .int y), (3, .int (nI z0))] → W pg l eg { frames := 4, cells := 0, slots := 0, locals := 102 } sg mg ([.ref mm, .int (nI s1), .int y, .int (nI z0)]).toArray blw mth cg H locs 0 0 (ckQi N Ag blw sg ([.ref mm, .int (nI s1), .int y, .int (nI z0)]).toArray { frames := 4, cells := 0, slots := 0, locals := 102 } (fun (r : Int32) (u : Int32 × (Nat → Int32) × (Nat → Int32) × (Nat → Int32)) => (ckRd (shF y (nI z0)) (nI (shC y (nI z0))) fd r u.1) ∧ ((shF y (nI z0) = 0 ∧ (y = 0 ∨ y = nI 8 ∨ y = nI 16 ∨ y = nI 32) ∧ u.2.1 = upd sb s1 y ∧ u.2.2.1 = upd sz s1 (nI (shC y (nI z0))) ∧ shC y (nI z0) ≤ 40 ∧ (∀ q, q < 40 → u.2.2.2 (40 * s1 + q) = 0) ∧ (∀ j, ¬ (40 * s1 ≤ j ∧ j < 40 * s1 + 40) → u.2.2.2 j = st j)) ∨ (shF y (nI z0) ≠ 0 ∧ u.2.1 = sb ∧ u.2.2.1 = sz ∧ u.2.2.2 = st))) (fun (u : Int32 × (Nat → Int32) × (Nat → Int32) × (Nat → Int32)) => [(mm, .inr (11, [.ref an, .ref ak, .int (nI ke), .int (nI kn), .int u.1, .ref ab, .ref az, .ref as_, .ref ae, .ref ao, .ref ar, .ref aw, .ref al, .ref am, .int (nI mn), .ref af, .ref ac])), (ab, .inl (N.2 0, 4, .inl u.2.1)), (az, .inl (N.2 0, 4, .inl u.2.2.1)), (as_, .inl (N.2 0, 160, .inl u.2.2.2))])) (F0 mg 85 ls []) := by
          intro dz
          induction dz using Nat.strongRecOn with
          | _ dz ih_85 =>
            intro k st1 hdz hk hze hso H locs ls hP hD hS hl
            subst hdz
            refine lv_iload hx hb dX11_sheet_85 (lv_at hl 0 rfl) ?_
            refine lv_bipush (v := (nI 40)) hx hb dX11_sheet_87 (by decide) ?_
            refine ck_ic_ge (tgt := 111) hx hb dX11_sheet_89 (by decide) (by omega) (by omega) (fun cz_39 => ?_) (fun cz_39 => ?_)
            · refine lv_aload_n hx hb dX11_sheet_111 rfl (lv_at hl 1 rfl) ?_
              refine va_get (ci := 11) (v := .ref az) (C := RX11) (T := TX11) (N := 17) hx hb hg inX11 hown hE.1 hP 0 rfl rfl 6 (by decide) (hg _ k4_16) (fun _ h9 => h9) rfl dX11_sheet_112 ?_
              refine lv_iload_n hx hb dX11_sheet_115 rfl (lv_at hl 2 rfl) ?_
              refine ck_iald hx hb hE hP 2 rfl (by omega) (by decide) dX11_sheet_116 ?_
              exact ck_iret hx hb hrt hlk ⟨fd, upd sb s1 y, upd sz s1 (nI 0), st1⟩ (by have he := (((if_pos hy).trans ((if_neg (nI_pos hz01)).trans (if_pos hz1))) : shF y (nI z0) = 0); exact ⟨ckRd_ok he (pk_us.trans (congrArg nI hsc.symm)), Or.inl ⟨he, hy, rfl, (by rw [hsc]), (by omega), (fun q hq => hze q (by omega)), hso⟩⟩) hP hD hS ⟨Nat.le_of_ble_eq_true rfl, Nat.le_of_ble_eq_true rfl⟩ dX11_sheet_117
            refine lv_aload_n hx hb dX11_sheet_92 rfl (lv_at hl 1 rfl) ?_
            refine va_get (ci := 11) (v := .ref as_) (C := RX11) (T := TX11) (N := 17) hx hb hg inX11 hown hE.1 hP 0 rfl rfl 7 (by decide) (hg _ k4_17) (fun _ h9 => h9) rfl dX11_sheet_93 ?_
            refine lv_bipush (v := (nI 40)) hx hb dX11_sheet_96 (by decide) ?_
            refine lv_iload_n hx hb dX11_sheet_98 rfl (lv_at hl 2 rfl) ?_
            refine lv_imul hx hb dX11_sheet_99 ?_
            refine ck_top (y := (nI (40 * s1))) (pk_mul _ _) ?_
            refine lv_iload hx hb dX11_sheet_100 (lv_at hl 0 rfl) ?_
            refine lv_iadd hx hb dX11_sheet_102 ?_
            refine ck_top (y := (nI (40 * s1 + k))) (nI_add _ _) ?_
            refine lv_iconst (v := (nI 0)) hx hb dX11_sheet_103 (by decide) ?_
            refine ck_iast hx hb hE hP hD hS 3 rfl (by omega) (by decide) dX11_sheet_104 (ws1 := [(mm, .inr (11, [.ref an, .ref ak, .int (nI ke), .int (nI kn), .int fd, .ref ab, .ref az, .ref as_, .ref ae, .ref ao, .ref ar, .ref aw, .ref al, .ref am, .int (nI mn), .ref af, .ref ac])), (ab, .inl (N.2 0, 4, .inl (upd sb s1 y))), (az, .inl (N.2 0, 4, .inl (upd sz s1 (nI 0)))), (as_, .inl (N.2 0, 160, .inl (upd st1 (40 * s1 + k) (nI 0))))]) rfl (fun H locs hP hD hS => ?_)
            refine lv_iinc (v := (nI (k + 1))) (lv' := [(4, .int (nI (k + 1))), (0, .ref mm), (1, .int (nI s1)), (2, .int y), (3, .int (nI z0))]) hx hb dX11_sheet_105 hl (k := 0) rfl (nI_1 _) (by decide) rfl (fun ls hl => ?_)
            refine lv_goto (tgt := 85) hx hb dX11_sheet_108 (by decide) ?_
            exact ih_85 _ (by omega) (k + 1) (upd st1 (40 * s1 + k) (nI 0)) rfl (by omega) (lt_s (fun q hq => (pk_un (by omega)).trans (hze q hq)) pk_us) (fun j hj => (pk_un (by omega)).trans (hso j hj)) _ _ ls hP hD hS hl
        exact lp_85 _ 0 st rfl (by omega) (fun q hq => absurd hq (Nat.not_lt_zero q)) (fun j hj => rfl) _ _ ls hP hD hS hl
      have hz1 := cz_36
      refine lv_aload_n hx hb dX11_sheet_53 rfl (lv_at hl 0 rfl) ?_
      refine lv_ldc (own := RX11) (v := (-100001)) hx hb hown (hg _ k4_81) dX11_sheet_54 ?_
      refine ck_Vi (As := [.int (-100001)]) (rest := []) (wr := [(ab, .inl (N.2 0, 4, .inl sb)), (az, .inl (N.2 0, 4, .inl sz)), (as_, .inl (N.2 0, 160, .inl st))]) C0 hP hD hS (c_X11_finds l N mm an ak ab az as_ ae ao ar aw al am af ac ke kn fd mn (-100001) ) myX11_finds k4_67 ⟨Nat.le_of_ble_eq_true rfl, Nat.le_of_ble_eq_true rfl⟩ [0] [1, 2, 3] ⟨⟨rfl, rfl⟩, by decide, by decide, by decide⟩ 0 rfl rfl rfl rfl hl.1 rfl (Nat.le_of_ble_eq_true rfl) dX11_sheet_56 ⟨Nat.le_of_ble_eq_true rfl, Nat.le_of_ble_eq_true rfl⟩ (fun r_40 u0 H locs hw0 hP hD hS => ?_)
      have hw_41 : r_40 = (-100001) := hw0
      subst hw_41
      have hP : va_P N.1 vwCl [(ab, .inl (N.2 0, 4, .inl sb)), (az, .inl (N.2 0, 4, .inl sz)), (as_, .inl (N.2 0, 160, .inl st)), (mm, .inr (11, [.ref an, .ref ak, .int (nI ke), .int (nI kn), .int (fd + nI 1), .ref ab, .ref az, .ref as_, .ref ae, .ref ao, .ref ar, .ref aw, .ref al, .ref am, .int (nI mn), .ref af, .ref ac]))] H := hP
      have hD : va_D Ag [(ab, .inl (N.2 0, 4, .inl sb)), (az, .inl (N.2 0, 4, .inl sz)), (as_, .inl (N.2 0, 160, .inl st)), (mm, .inr (11, [.ref an, .ref ak, .int (nI ke), .int (nI kn), .int (fd + nI 1), .ref ab, .ref az, .ref as_, .ref ae, .ref ao, .ref ar, .ref aw, .ref al, .ref am, .int (nI mn), .ref af, .ref ac]))] := hD
      exact ck_iret hx hb hrt hlk ⟨(fd + nI 1), sb, sz, st⟩ (by have he := (((if_pos hy).trans ((if_neg hz0).trans (if_neg hz1))) : shF y z = (-100001)); exact ⟨ckRd_f he (by decide), Or.inr ⟨fun q => absurd (he.symm.trans q) (by decide), rfl, rfl, rfl⟩⟩) (hP.sub [3, 0, 1, 2] rfl) (hD.sub [3, 0, 1, 2] (by decide) rfl) hS ⟨Nat.le_of_ble_eq_true rfl, Nat.le_of_ble_eq_true rfl⟩ dX11_sheet_59
    have hz0 : z < 0 := Int32.not_le.mp cz_35
    refine lv_aload_n hx hb dX11_sheet_40 rfl (lv_at hl 0 rfl) ?_
    refine lv_ldc (own := RX11) (v := (-100003)) hx hb hown (hg _ k4_82) dX11_sheet_41 ?_
    refine ck_Vi (As := [.int (-100003)]) (rest := []) (wr := [(ab, .inl (N.2 0, 4, .inl sb)), (az, .inl (N.2 0, 4, .inl sz)), (as_, .inl (N.2 0, 160, .inl st))]) C0 hP hD hS (c_X11_finds l N mm an ak ab az as_ ae ao ar aw al am af ac ke kn fd mn (-100003) ) myX11_finds k4_67 ⟨Nat.le_of_ble_eq_true rfl, Nat.le_of_ble_eq_true rfl⟩ [0] [1, 2, 3] ⟨⟨rfl, rfl⟩, by decide, by decide, by decide⟩ 0 rfl rfl rfl rfl hl.1 rfl (Nat.le_of_ble_eq_true rfl) dX11_sheet_43 ⟨Nat.le_of_ble_eq_true rfl, Nat.le_of_ble_eq_true rfl⟩ (fun r_42 u0 H locs hw0 hP hD hS => ?_)
    have hw_43 : r_42 = (-100003) := hw0
    subst hw_43
    have hP : va_P N.1 vwCl [(ab, .inl (N.2 0, 4, .inl sb)), (az, .inl (N.2 0, 4, .inl sz)), (as_, .inl (N.2 0, 160, .inl st)), (mm, .inr (11, [.ref an, .ref ak, .int (nI ke), .int (nI kn), .int (fd + nI 1), .ref ab, .ref az, .ref as_, .ref ae, .ref ao, .ref ar, .ref aw, .ref al, .ref am, .int (nI mn), .ref af, .ref ac]))] H := hP
    have hD : va_D Ag [(ab, .inl (N.2 0, 4, .inl sb)), (az, .inl (N.2 0, 4, .inl sz)), (as_, .inl (N.2 0, 160, .inl st)), (mm, .inr (11, [.ref an, .ref ak, .int (nI ke), .int (nI kn), .int (fd + nI 1), .ref ab, .ref az, .ref as_, .ref ae, .ref ao, .ref ar, .ref aw, .ref al, .ref am, .int (nI mn), .ref af, .ref ac]))] := hD
    exact ck_iret hx hb hrt hlk ⟨(fd + nI 1), sb, sz, st⟩ (by have he := (((if_pos hy).trans (if_pos hz0)) : shF y z = (-100003)); exact ⟨ckRd_f he (by decide), Or.inr ⟨fun q => absurd (he.symm.trans q) (by decide), rfl, rfl, rfl⟩⟩) (hP.sub [3, 0, 1, 2] rfl) (hD.sub [3, 0, 1, 2] (by decide) rfl) hS ⟨Nat.le_of_ble_eq_true rfl, Nat.le_of_ble_eq_true rfl⟩ dX11_sheet_46
  refine lv_aload_n hx hb dX11_sheet_29 rfl (lv_at hl 0 rfl) ?_
  refine lv_ldc (own := RX11) (v := (-100001)) hx hb hown (hg _ k4_81) dX11_sheet_30 ?_
  refine ck_Vi (As := [.int (-100001)]) (rest := []) (wr := [(ab, .inl (N.2 0, 4, .inl sb)), (az, .inl (N.2 0, 4, .inl sz)), (as_, .inl (N.2 0, 160, .inl st))]) C0 hP hD hS (c_X11_finds l N mm an ak ab az as_ ae ao ar aw al am af ac ke kn fd mn (-100001) ) myX11_finds k4_67 ⟨Nat.le_of_ble_eq_true rfl, Nat.le_of_ble_eq_true rfl⟩ [0] [1, 2, 3] ⟨⟨rfl, rfl⟩, by decide, by decide, by decide⟩ 0 rfl rfl rfl rfl hl.1 rfl (Nat.le_of_ble_eq_true rfl) dX11_sheet_32 ⟨Nat.le_of_ble_eq_true rfl, Nat.le_of_ble_eq_true rfl⟩ (fun r_44 u0 H locs hw0 hP hD hS => ?_)
  have hw_45 : r_44 = (-100001) := hw0
  subst hw_45
  have hP : va_P N.1 vwCl [(ab, .inl (N.2 0, 4, .inl sb)), (az, .inl (N.2 0, 4, .inl sz)), (as_, .inl (N.2 0, 160, .inl st)), (mm, .inr (11, [.ref an, .ref ak, .int (nI ke), .int (nI kn), .int (fd + nI 1), .ref ab, .ref az, .ref as_, .ref ae, .ref ao, .ref ar, .ref aw, .ref al, .ref am, .int (nI mn), .ref af, .ref ac]))] H := hP
  have hD : va_D Ag [(ab, .inl (N.2 0, 4, .inl sb)), (az, .inl (N.2 0, 4, .inl sz)), (as_, .inl (N.2 0, 160, .inl st)), (mm, .inr (11, [.ref an, .ref ak, .int (nI ke), .int (nI kn), .int (fd + nI 1), .ref ab, .ref az, .ref as_, .ref ae, .ref ao, .ref ar, .ref aw, .ref al, .ref am, .int (nI mn), .ref af, .ref ac]))] := hD
  exact ck_iret hx hb hrt hlk ⟨(fd + nI 1), sb, sz, st⟩ (by have he := ((if_neg (fun q => q.elim cz_4 (fun q => q.elim cz_14 (fun q => q.elim cz_24 cz_34)))) : shF y z = (-100001)); exact ⟨ckRd_f he (by decide), Or.inr ⟨fun q => absurd (he.symm.trans q) (by decide), rfl, rfl, rfl⟩⟩) (hP.sub [3, 0, 1, 2] rfl) (hD.sub [3, 0, 1, 2] (by decide) rfl) hS ⟨Nat.le_of_ble_eq_true rfl, Nat.le_of_ble_eq_true rfl⟩ dX11_sheet_35
set_option maxHeartbeats 4000000 in
set_option maxRecDepth 100000 in
/-- X11_sheet -/
theorem c_X11_sheet_f (l : Launch) (N : ckN) (mm : Nat) (an : Nat) (ak : Nat) (ab : Nat) (az : Nat) (as_ : Nat) (ae : Nat) (ao : Nat) (ar : Nat) (aw : Nat) (al : Nat) (am : Nat) (af : Nat) (ac : Nat) (ke : Nat) (kn : Nat) (fd : Int32) (mn : Nat) (x : Int32) (y : Int32) (z : Int32) (hbad : ckIn x (nI 0) (nI 3) = false) : ckI l yX11_sheet cX11_sheet 5 (some FieldType.int) { frames := 4, cells := 0, slots := 0, locals := 102 } N [.ref mm, .int x, .int y, .int z] [(mm, .inr (11, [.ref an, .ref ak, .int (nI ke), .int (nI kn), .int fd, .ref ab, .ref az, .ref as_, .ref ae, .ref ao, .ref ar, .ref aw, .ref al, .ref am, .int (nI mn), .ref af, .ref ac]))] (fun (r : Int32) (u : Int32) => ckRd (-100001) (0) fd r u) (fun (u : Int32) => [(mm, .inr (11, [.ref an, .ref ak, .int (nI ke), .int (nI kn), .int u, .ref ab, .ref az, .ref as_, .ref ae, .ref ao, .ref ar, .ref aw, .ref al, .ref am, .int (nI mn), .ref af, .ref ac]))]) := by
  refine ckI.of (by decide) (Nat.le_of_ble_eq_true rfl) ?_
  intro pg eg sg mg blw mth cg Ag ls hx hb hrt hml hown hlk hin hg hE hA hP hD hS hl
  have hown : sg.vm.findClass RX11 = some mg.cls := hown
  have hl : lv_has ls 5 [(0, .ref mm), (1, .int x), (2, .int y), (3, .int z)] := hl
  have C0 : ckC pg sg mg ([.ref mm, .int x, .int y, .int z]).toArray cg cX11_sheet 5 RX11 N Ag := ⟨⟨hx, hb, hml, hown, hg⟩, hE, hA⟩
  generalize hHe : sg.heap = H at hP
  have hS : va_S Ag sg.heap H [] := hHe ▸ hS
  refine lv_iload_n hx hb dX11_sheet_0 rfl (lv_at hl 1 rfl) ?_
  refine ck_Si (As := [.int x]) (rest := []) (wr := [(mm, .inr (11, [.ref an, .ref ak, .int (nI ke), .int (nI kn), .int fd, .ref ab, .ref az, .ref as_, .ref ae, .ref ao, .ref ar, .ref aw, .ref al, .ref am, .int (nI mn), .ref af, .ref ac]))]) C0 hP hD hS (c_X11_isSheet l N x ) myX11_isSheet k5_14 ⟨Nat.le_of_ble_eq_true rfl, Nat.le_of_ble_eq_true rfl⟩ [] [0] ⟨⟨rfl, rfl⟩, by decide, by decide, by decide⟩ rfl hl.1 rfl (Nat.le_of_ble_eq_true rfl) dX11_sheet_1 ⟨Nat.le_of_ble_eq_true rfl, Nat.le_of_ble_eq_true rfl⟩ (fun r_1 u0 H locs hw0 hP hD hS => ?_)
  have hw_2 : r_1 = (b2i (ckIn x (nI 0) (nI 3))) := hw0
  subst hw_2
  have hP : va_P N.1 vwCl [(mm, .inr (11, [.ref an, .ref ak, .int (nI ke), .int (nI kn), .int fd, .ref ab, .ref az, .ref as_, .ref ae, .ref ao, .ref ar, .ref aw, .ref al, .ref am, .int (nI mn), .ref af, .ref ac]))] H := hP
  have hD : va_D Ag [(mm, .inr (11, [.ref an, .ref ak, .int (nI ke), .int (nI kn), .int fd, .ref ab, .ref az, .ref as_, .ref ae, .ref ao, .ref ar, .ref aw, .ref al, .ref am, .int (nI mn), .ref af, .ref ac]))] := hD
  refine ck_ifeq (b := ckIn x (nI 0) (nI 3)) (tgt := 29) hx hb dX11_sheet_4 (by decide) (fun cz_3 => ?_) (fun cz_3 => absurd cz_3 (by rw [hbad]; decide))
  refine lv_aload_n hx hb dX11_sheet_29 rfl (lv_at hl 0 rfl) ?_
  refine lv_ldc (own := RX11) (v := (-100001)) hx hb hown (hg _ k4_81) dX11_sheet_30 ?_
  refine ck_Vi (As := [.int (-100001)]) (rest := []) (wr := []) C0 hP hD hS (c_X11_finds l N mm an ak ab az as_ ae ao ar aw al am af ac ke kn fd mn (-100001) ) myX11_finds k4_67 ⟨Nat.le_of_ble_eq_true rfl, Nat.le_of_ble_eq_true rfl⟩ [0] [] ⟨⟨rfl, rfl⟩, by decide, by decide, by decide⟩ 0 rfl rfl rfl rfl hl.1 rfl (Nat.le_of_ble_eq_true rfl) dX11_sheet_32 ⟨Nat.le_of_ble_eq_true rfl, Nat.le_of_ble_eq_true rfl⟩ (fun r_4 u0 H locs hw0 hP hD hS => ?_)
  have hw_5 : r_4 = (-100001) := hw0
  subst hw_5
  have hP : va_P N.1 vwCl [(mm, .inr (11, [.ref an, .ref ak, .int (nI ke), .int (nI kn), .int (fd + nI 1), .ref ab, .ref az, .ref as_, .ref ae, .ref ao, .ref ar, .ref aw, .ref al, .ref am, .int (nI mn), .ref af, .ref ac]))] H := hP
  have hD : va_D Ag [(mm, .inr (11, [.ref an, .ref ak, .int (nI ke), .int (nI kn), .int (fd + nI 1), .ref ab, .ref az, .ref as_, .ref ae, .ref ao, .ref ar, .ref aw, .ref al, .ref am, .int (nI mn), .ref af, .ref ac]))] := hD
  exact ck_iret hx hb hrt hlk ((fd + nI 1)) (ckRd_f rfl (by decide)) hP hD hS ⟨Nat.le_of_ble_eq_true rfl, Nat.le_of_ble_eq_true rfl⟩ dX11_sheet_35
