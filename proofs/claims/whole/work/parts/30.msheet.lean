/-! the model's sheets -/
def kq_cmp (x y : Int64) : Int32 := if x > y then 1 else if x = y then 0 else -1
section
variable {p : Program} {l : Launch} {e : Env} {R : Room} {s : State} {m : MethodId} {args : Array Value} {below : List Frame} {meth : Method} {c : Code} {H : Heap} {locs : List Loc} {cells slots : Nat} {Q : State → Prop}
variable {cc : ByteArray} {pc : Nat} {ls : Array Slot} {rest : List Value}
theorem ck_lcmp (hexec : p.tables.exec = Jvm.exec) (hb : c.code = cc) {x y : Int64} (hdg : decode cc pc = .ok (.lcmp, 1)) (k : W p l e R s m args below meth c H locs cells slots Q (F0 m (pc + 1) ls (.int (kq_cmp x y) :: rest))) : W p l e R s m args below meth c H locs cells slots Q (F0 m pc ls (.long y :: .long x :: rest)) := by
  intro T hT X
  obtain ⟨t, a, b⟩ := k T hT X
  refine ⟨t, ?_, b⟩
  rw [kq_cmp] at a
  by_cases h1 : x > y
  · rw [if_pos h1] at a
    jvm_step X.here [X.here.top, hexec, hb, hdg, h1]
    exact a
  · rw [if_neg h1] at a
    by_cases h2 : x = y
    · rw [if_pos h2] at a
      subst h2
      jvm_step X.here [X.here.top, hexec, hb, hdg, h1]
      exact a
    · rw [if_neg h2] at a
      jvm_step X.here [X.here.top, hexec, hb, hdg, h1, h2]
      exact a
end
theorem kq_co {i k c : Nat} (hi : i < 2 ^ 31) (hk : k < 2 ^ 31) (hc : c < 2 ^ 31) : (0 < kq_cmp ((nI i).toInt64 + (nI k).toInt64) (nI c).toInt64) ↔ c < i + k := by
  have e1 : ((nI i).toInt64 + (nI k).toInt64).toInt = (i : Int) + k := by
    rw [Int64.toInt_add, Int32.toInt_toInt64, Int32.toInt_toInt64, nI_toInt hi, nI_toInt hk]
    exact Int.bmod_eq_of_le (by omega) (by omega)
  have e2 : (nI c).toInt64.toInt = (c : Int) := by rw [Int32.toInt_toInt64, nI_toInt hc]
  rw [kq_cmp]
  by_cases h1 : (nI i).toInt64 + (nI k).toInt64 > (nI c).toInt64
  · rw [if_pos h1]
    have h2 := Int64.lt_iff_toInt_lt.mp h1
    rw [e1, e2] at h2
    exact ⟨fun _ => by omega, fun _ => by decide⟩
  · rw [if_neg h1]
    have h2 := mt Int64.lt_iff_toInt_lt.mpr h1
    rw [e1, e2] at h2
    refine ⟨fun h => ?_, fun h => absurd (by omega) h2⟩
    split at h <;> exact absurd h (by decide)
theorem coO_n {i k c : Nat} (hi : i < 2 ^ 31) (hk : k < 2 ^ 31) : coO c (nI i) (nI k) = decide (i + k ≤ c) := by
  rw [coO, nI_toInt hi, nI_toInt hk, Bool.eq_iff_iff, decide_eq_true_eq, decide_eq_true_eq]
  omega
theorem coO_x {c : Nat} {x y : Int32} (h : x < 0) : coO c x y = false := decide_eq_false (fun q => by have e0 : (0 : Int32).toInt = 0 := (by decide); rw [i_lt] at h; omega)
theorem coO_y {c : Nat} {x y : Int32} (h : y < 0) : coO c x y = false := decide_eq_false (fun q => by have e0 : (0 : Int32).toInt = 0 := (by decide); rw [i_lt] at h; omega)
set_option maxHeartbeats 4000000 in
set_option maxRecDepth 100000 in
/-- X11_copy -/
theorem c_X11_copy_k (l : Launch) (N : ckN) (mm : Nat) (an : Nat) (ak : Nat) (ab : Nat) (az : Nat) (as_ : Nat) (ae : Nat) (ao : Nat) (ar : Nat) (aw : Nat) (al : Nat) (am : Nat) (af : Nat) (ac : Nat) (ke : Nat) (kn : Nat) (fd : Int32) (mn : Nat) (sb : Nat → Int32) (sz : Nat → Int32) (st : Nat → Int32) (ca : Nat → Int32) (s1 : Nat) (bt1 : Nat) (ct1 : Nat) (nu1 : Nat → Int32) (s2 : Nat) (bt2 : Nat) (ct2 : Nat) (nu2 : Nat → Int32) (x : Int32) (y : Int32) (z : Int32) (hs1 : s1 < 4) (hsb1 : sb s1 = nI bt1) (hsz1 : sz s1 = nI ct1) (hst1 : ∀ k, k < ct1 → st (40 * s1 + k) = nu1 k) (hc1 : ct1 ≤ 40) (hb1 : bt1 ≤ 32) (hs2 : s2 < 4) (hsb2 : sb s2 = nI bt2) (hsz2 : sz s2 = nI ct2) (hst2 : ∀ k, k < ct2 → st (40 * s2 + k) = nu2 k) (hc2 : ct2 ≤ 40) (hb2 : bt2 ≤ 32) : ckI l yX11_copy cX11_copy 7 (some FieldType.int) { frames := 4, cells := 0, slots := 0, locals := 102 } N [.ref mm, .int (nI s1), .int x, .int (nI s2), .int y, .int z] [(mm, .inr (11, [.ref an, .ref ak, .int (nI ke), .int (nI kn), .int fd, .ref ab, .ref az, .ref as_, .ref ae, .ref ao, .ref ar, .ref aw, .ref al, .ref am, .int (nI mn), .ref af, .ref ac])), (ab, .inl (N.2 0, 4, .inl sb)), (az, .inl (N.2 0, 4, .inl sz)), (as_, .inl (N.2 0, 160, .inl st)), (ac, .inl (N.2 0, 40, .inl ca))] (fun (r : Int32) (u : Int32 × (Nat → Int32) × (Nat → Int32)) => (ckRd (coF bt1 bt2 ct1 ct2 x y z) (z) fd r u.1) ∧ ((coF bt1 bt2 ct1 ct2 x y z = 0 ∧ (∀ q, q < ct2 → u.2.1 (40 * s2 + q) = va_cpy nu1 nu2 (ix x) (ix y) (ix z) q) ∧ (∀ j, ¬ (40 * s2 ≤ j ∧ j < 40 * s2 + 40) → u.2.1 j = st j)) ∨ (coF bt1 bt2 ct1 ct2 x y z ≠ 0 ∧ u.2.1 = st))) (fun (u : Int32 × (Nat → Int32) × (Nat → Int32)) => [(mm, .inr (11, [.ref an, .ref ak, .int (nI ke), .int (nI kn), .int u.1, .ref ab, .ref az, .ref as_, .ref ae, .ref ao, .ref ar, .ref aw, .ref al, .ref am, .int (nI mn), .ref af, .ref ac])), (ab, .inl (N.2 0, 4, .inl sb)), (az, .inl (N.2 0, 4, .inl sz)), (as_, .inl (N.2 0, 160, .inl u.2.1)), (ac, .inl (N.2 0, 40, .inl u.2.2))]) := by
  refine ckI.of (by decide) (Nat.le_of_ble_eq_true rfl) ?_
  intro pg eg sg mg blw mth cg Ag ls hx hb hrt hml hown hlk hin hg hE hA hP hD hS hl
  have hown : sg.vm.findClass RX11 = some mg.cls := hown
  have hl : lv_has ls 7 [(0, .ref mm), (1, .int (nI s1)), (2, .int x), (3, .int (nI s2)), (4, .int y), (5, .int z)] := hl
  have C0 : ckC pg sg mg ([.ref mm, .int (nI s1), .int x, .int (nI s2), .int y, .int z]).toArray cg cX11_copy 7 RX11 N Ag := ⟨⟨hx, hb, hml, hown, hg⟩, hE, hA⟩
  generalize hHe : sg.heap = H at hP
  have hS : va_S Ag sg.heap H [] := hHe ▸ hS
  have hk1 : ckIn (nI s1) (nI 0) (nI 3) = true := ckIn_in (by omega) (by omega) (by decide)
  have hk2 : ckIn (nI s2) (nI 0) (nI 3) = true := ckIn_in (by omega) (by omega) (by decide)
  refine lv_iload_n hx hb dX11_copy_0 rfl (lv_at hl 1 rfl) ?_
  refine ck_Si (As := [.int (nI s1)]) (rest := []) (wr := [(mm, .inr (11, [.ref an, .ref ak, .int (nI ke), .int (nI kn), .int fd, .ref ab, .ref az, .ref as_, .ref ae, .ref ao, .ref ar, .ref aw, .ref al, .ref am, .int (nI mn), .ref af, .ref ac])), (ab, .inl (N.2 0, 4, .inl sb)), (az, .inl (N.2 0, 4, .inl sz)), (as_, .inl (N.2 0, 160, .inl st)), (ac, .inl (N.2 0, 40, .inl ca))]) C0 hP hD hS (c_X11_isSheet l N (nI s1) ) myX11_isSheet k5_14 ⟨Nat.le_of_ble_eq_true rfl, Nat.le_of_ble_eq_true rfl⟩ [] [0, 1, 2, 3, 4] ⟨⟨rfl, rfl⟩, by decide, by decide, by decide⟩ rfl hl.1 rfl (Nat.le_of_ble_eq_true rfl) dX11_copy_1 ⟨Nat.le_of_ble_eq_true rfl, Nat.le_of_ble_eq_true rfl⟩ (fun r_1 u0 H locs hw0 hP hD hS => ?_)
  have hw_2 : r_1 = (b2i (ckIn (nI s1) (nI 0) (nI 3))) := hw0
  subst hw_2
  have hP : va_P N.1 vwCl [(mm, .inr (11, [.ref an, .ref ak, .int (nI ke), .int (nI kn), .int fd, .ref ab, .ref az, .ref as_, .ref ae, .ref ao, .ref ar, .ref aw, .ref al, .ref am, .int (nI mn), .ref af, .ref ac])), (ab, .inl (N.2 0, 4, .inl sb)), (az, .inl (N.2 0, 4, .inl sz)), (as_, .inl (N.2 0, 160, .inl st)), (ac, .inl (N.2 0, 40, .inl ca))] H := hP
  have hD : va_D Ag [(mm, .inr (11, [.ref an, .ref ak, .int (nI ke), .int (nI kn), .int fd, .ref ab, .ref az, .ref as_, .ref ae, .ref ao, .ref ar, .ref aw, .ref al, .ref am, .int (nI mn), .ref af, .ref ac])), (ab, .inl (N.2 0, 4, .inl sb)), (az, .inl (N.2 0, 4, .inl sz)), (as_, .inl (N.2 0, 160, .inl st)), (ac, .inl (N.2 0, 40, .inl ca))] := hD
  refine ck_ifeq (b := ckIn (nI s1) (nI 0) (nI 3)) (tgt := 14) hx hb dX11_copy_4 (by decide) (fun cz_3 => absurd cz_3 (by rw [hk1]; decide)) (fun cz_3 => ?_)
  refine lv_iload_n hx hb dX11_copy_7 rfl (lv_at hl 3 rfl) ?_
  refine ck_Si (As := [.int (nI s2)]) (rest := []) (wr := [(mm, .inr (11, [.ref an, .ref ak, .int (nI ke), .int (nI kn), .int fd, .ref ab, .ref az, .ref as_, .ref ae, .ref ao, .ref ar, .ref aw, .ref al, .ref am, .int (nI mn), .ref af, .ref ac])), (ab, .inl (N.2 0, 4, .inl sb)), (az, .inl (N.2 0, 4, .inl sz)), (as_, .inl (N.2 0, 160, .inl st)), (ac, .inl (N.2 0, 40, .inl ca))]) C0 hP hD hS (c_X11_isSheet l N (nI s2) ) myX11_isSheet k5_14 ⟨Nat.le_of_ble_eq_true rfl, Nat.le_of_ble_eq_true rfl⟩ [] [0, 1, 2, 3, 4] ⟨⟨rfl, rfl⟩, by decide, by decide, by decide⟩ rfl hl.1 rfl (Nat.le_of_ble_eq_true rfl) dX11_copy_8 ⟨Nat.le_of_ble_eq_true rfl, Nat.le_of_ble_eq_true rfl⟩ (fun r_4 u0 H locs hw0 hP hD hS => ?_)
  have hw_5 : r_4 = (b2i (ckIn (nI s2) (nI 0) (nI 3))) := hw0
  subst hw_5
  have hP : va_P N.1 vwCl [(mm, .inr (11, [.ref an, .ref ak, .int (nI ke), .int (nI kn), .int fd, .ref ab, .ref az, .ref as_, .ref ae, .ref ao, .ref ar, .ref aw, .ref al, .ref am, .int (nI mn), .ref af, .ref ac])), (ab, .inl (N.2 0, 4, .inl sb)), (az, .inl (N.2 0, 4, .inl sz)), (as_, .inl (N.2 0, 160, .inl st)), (ac, .inl (N.2 0, 40, .inl ca))] H := hP
  have hD : va_D Ag [(mm, .inr (11, [.ref an, .ref ak, .int (nI ke), .int (nI kn), .int fd, .ref ab, .ref az, .ref as_, .ref ae, .ref ao, .ref ar, .ref aw, .ref al, .ref am, .int (nI mn), .ref af, .ref ac])), (ab, .inl (N.2 0, 4, .inl sb)), (az, .inl (N.2 0, 4, .inl sz)), (as_, .inl (N.2 0, 160, .inl st)), (ac, .inl (N.2 0, 40, .inl ca))] := hD
  refine ck_ifne (b := ckIn (nI s2) (nI 0) (nI 3)) (tgt := 21) hx hb dX11_copy_11 (by decide) (fun cz_6 => ?_) (fun cz_6 => absurd cz_6 (by rw [hk2]; decide))
  refine lv_aload_n hx hb dX11_copy_21 rfl (lv_at hl 0 rfl) ?_
  refine va_get (ci := 11) (v := .ref ab) (C := RX11) (T := TX11) (N := 17) hx hb hg inX11 hown hE.1 hP 0 rfl rfl 5 (by decide) (hg _ k4_15) (fun _ h9 => h9) rfl dX11_copy_22 ?_
  refine lv_iload_n hx hb dX11_copy_25 rfl (lv_at hl 1 rfl) ?_
  refine ck_iald hx hb hE hP 1 rfl (by omega) (by decide) dX11_copy_26 ?_
  refine ck_top (y := (nI bt1)) hsb1 ?_
  refine ck_if0_eq (tgt := 39) hx hb dX11_copy_27 (by decide) (by omega) (fun cz_7 => ?_) (fun cz_7 => ?_)
  · have hbza : bt1 = 0 := by omega
    refine lv_aload_n hx hb dX11_copy_39 rfl (lv_at hl 0 rfl) ?_
    refine lv_ldc (own := RX11) (v := (-100002)) hx hb hown (hg _ k5_17) dX11_copy_40 ?_
    refine ck_Vi (As := [.int (-100002)]) (rest := []) (wr := [(ab, .inl (N.2 0, 4, .inl sb)), (az, .inl (N.2 0, 4, .inl sz)), (as_, .inl (N.2 0, 160, .inl st)), (ac, .inl (N.2 0, 40, .inl ca))]) C0 hP hD hS (c_X11_finds l N mm an ak ab az as_ ae ao ar aw al am af ac ke kn fd mn (-100002) ) myX11_finds k4_67 ⟨Nat.le_of_ble_eq_true rfl, Nat.le_of_ble_eq_true rfl⟩ [0] [1, 2, 3, 4] ⟨⟨rfl, rfl⟩, by decide, by decide, by decide⟩ 0 rfl rfl rfl rfl hl.1 rfl (Nat.le_of_ble_eq_true rfl) dX11_copy_42 ⟨Nat.le_of_ble_eq_true rfl, Nat.le_of_ble_eq_true rfl⟩ (fun r_8 u0 H locs hw0 hP hD hS => ?_)
    have hw_9 : r_8 = (-100002) := hw0
    subst hw_9
    have hP : va_P N.1 vwCl [(ab, .inl (N.2 0, 4, .inl sb)), (az, .inl (N.2 0, 4, .inl sz)), (as_, .inl (N.2 0, 160, .inl st)), (ac, .inl (N.2 0, 40, .inl ca)), (mm, .inr (11, [.ref an, .ref ak, .int (nI ke), .int (nI kn), .int (fd + nI 1), .ref ab, .ref az, .ref as_, .ref ae, .ref ao, .ref ar, .ref aw, .ref al, .ref am, .int (nI mn), .ref af, .ref ac]))] H := hP
    have hD : va_D Ag [(ab, .inl (N.2 0, 4, .inl sb)), (az, .inl (N.2 0, 4, .inl sz)), (as_, .inl (N.2 0, 160, .inl st)), (ac, .inl (N.2 0, 40, .inl ca)), (mm, .inr (11, [.ref an, .ref ak, .int (nI ke), .int (nI kn), .int (fd + nI 1), .ref ab, .ref az, .ref as_, .ref ae, .ref ao, .ref ar, .ref aw, .ref al, .ref am, .int (nI mn), .ref af, .ref ac]))] := hD
    exact ck_iret hx hb hrt hlk ⟨(fd + nI 1), st, ca⟩ (by have he : coF bt1 bt2 ct1 ct2 x y z = (-100002) := (by simp [coF, hbza]); exact ⟨ckRd_f he (by decide), Or.inr ⟨fun q => absurd (he.symm.trans q) (by decide), rfl⟩⟩) (hP.sub [4, 0, 1, 2, 3] rfl) (hD.sub [4, 0, 1, 2, 3] (by decide) rfl) hS ⟨Nat.le_of_ble_eq_true rfl, Nat.le_of_ble_eq_true rfl⟩ dX11_copy_45
  have hbza : ¬ bt1 = 0 := by omega
  refine lv_aload_n hx hb dX11_copy_30 rfl (lv_at hl 0 rfl) ?_
  refine va_get (ci := 11) (v := .ref ab) (C := RX11) (T := TX11) (N := 17) hx hb hg inX11 hown hE.1 hP 0 rfl rfl 5 (by decide) (hg _ k4_15) (fun _ h9 => h9) rfl dX11_copy_31 ?_
  refine lv_iload_n hx hb dX11_copy_34 rfl (lv_at hl 3 rfl) ?_
  refine ck_iald hx hb hE hP 1 rfl (by omega) (by decide) dX11_copy_35 ?_
  refine ck_top (y := (nI bt2)) hsb2 ?_
  refine ck_if0_ne (tgt := 46) hx hb dX11_copy_36 (by decide) (by omega) (fun cz_10 => ?_) (fun cz_10 => ?_)
  · have hbzb : ¬ bt2 = 0 := by omega
    refine lv_aload_n hx hb dX11_copy_46 rfl (lv_at hl 0 rfl) ?_
    refine va_get (ci := 11) (v := .ref ab) (C := RX11) (T := TX11) (N := 17) hx hb hg inX11 hown hE.1 hP 0 rfl rfl 5 (by decide) (hg _ k4_15) (fun _ h9 => h9) rfl dX11_copy_47 ?_
    refine lv_iload_n hx hb dX11_copy_50 rfl (lv_at hl 1 rfl) ?_
    refine ck_iald hx hb hE hP 1 rfl (by omega) (by decide) dX11_copy_51 ?_
    refine ck_top (y := (nI bt1)) hsb1 ?_
    refine lv_aload_n hx hb dX11_copy_52 rfl (lv_at hl 0 rfl) ?_
    refine va_get (ci := 11) (v := .ref ab) (C := RX11) (T := TX11) (N := 17) hx hb hg inX11 hown hE.1 hP 0 rfl rfl 5 (by decide) (hg _ k4_15) (fun _ h9 => h9) rfl dX11_copy_53 ?_
    refine lv_iload_n hx hb dX11_copy_56 rfl (lv_at hl 3 rfl) ?_
    refine ck_iald hx hb hE hP 1 rfl (by omega) (by decide) dX11_copy_57 ?_
    refine ck_top (y := (nI bt2)) hsb2 ?_
    refine ck_ic_eq (tgt := 68) hx hb dX11_copy_58 (by decide) (by omega) (by omega) (fun cz_11 => ?_) (fun cz_11 => ?_)
    · have hbe : bt1 = bt2 := by omega
      refine lv_iload_n hx hb dX11_copy_68 rfl (lv_at hl 2 rfl) ?_
      refine lv_if_lt (tgt := 117) hx hb dX11_copy_69 (by decide) (fun cz_12 => ?_) (fun cz_12 => ?_)
      · have hoa : coO ct1 x z = false := coO_x cz_12
        refine lv_aload_n hx hb dX11_copy_117 rfl (lv_at hl 0 rfl) ?_
        refine lv_ldc (own := RX11) (v := (-100001)) hx hb hown (hg _ k4_81) dX11_copy_118 ?_
        refine ck_Vi (As := [.int (-100001)]) (rest := []) (wr := [(ab, .inl (N.2 0, 4, .inl sb)), (az, .inl (N.2 0, 4, .inl sz)), (as_, .inl (N.2 0, 160, .inl st)), (ac, .inl (N.2 0, 40, .inl ca))]) C0 hP hD hS (c_X11_finds l N mm an ak ab az as_ ae ao ar aw al am af ac ke kn fd mn (-100001) ) myX11_finds k4_67 ⟨Nat.le_of_ble_eq_true rfl, Nat.le_of_ble_eq_true rfl⟩ [0] [1, 2, 3, 4] ⟨⟨rfl, rfl⟩, by decide, by decide, by decide⟩ 0 rfl rfl rfl rfl hl.1 rfl (Nat.le_of_ble_eq_true rfl) dX11_copy_120 ⟨Nat.le_of_ble_eq_true rfl, Nat.le_of_ble_eq_true rfl⟩ (fun r_13 u0 H locs hw0 hP hD hS => ?_)
        have hw_14 : r_13 = (-100001) := hw0
        subst hw_14
        have hP : va_P N.1 vwCl [(ab, .inl (N.2 0, 4, .inl sb)), (az, .inl (N.2 0, 4, .inl sz)), (as_, .inl (N.2 0, 160, .inl st)), (ac, .inl (N.2 0, 40, .inl ca)), (mm, .inr (11, [.ref an, .ref ak, .int (nI ke), .int (nI kn), .int (fd + nI 1), .ref ab, .ref az, .ref as_, .ref ae, .ref ao, .ref ar, .ref aw, .ref al, .ref am, .int (nI mn), .ref af, .ref ac]))] H := hP
        have hD : va_D Ag [(ab, .inl (N.2 0, 4, .inl sb)), (az, .inl (N.2 0, 4, .inl sz)), (as_, .inl (N.2 0, 160, .inl st)), (ac, .inl (N.2 0, 40, .inl ca)), (mm, .inr (11, [.ref an, .ref ak, .int (nI ke), .int (nI kn), .int (fd + nI 1), .ref ab, .ref az, .ref as_, .ref ae, .ref ao, .ref ar, .ref aw, .ref al, .ref am, .int (nI mn), .ref af, .ref ac]))] := hD
        exact ck_iret hx hb hrt hlk ⟨(fd + nI 1), st, ca⟩ (by have he : coF bt1 bt2 ct1 ct2 x y z = (-100001) := (by simp [coF, hbza, hbzb, hbe, hoa]); exact ⟨ckRd_f he (by decide), Or.inr ⟨fun q => absurd (he.symm.trans q) (by decide), rfl⟩⟩) (hP.sub [4, 0, 1, 2, 3] rfl) (hD.sub [4, 0, 1, 2, 3] (by decide) rfl) hS ⟨Nat.le_of_ble_eq_true rfl, Nat.le_of_ble_eq_true rfl⟩ dX11_copy_123
      obtain ⟨i, hi0, rfl⟩ := nI_of cz_12
      have exi : ix (nI i) = i := ix_nI hi0
      refine lv_iload hx hb dX11_copy_72 (lv_at hl 4 rfl) ?_
      refine lv_if_lt (tgt := 117) hx hb dX11_copy_74 (by decide) (fun cz_15 => ?_) (fun cz_15 => ?_)
      · have hob : coO ct2 y z = false := coO_x cz_15
        refine lv_aload_n hx hb dX11_copy_117 rfl (lv_at hl 0 rfl) ?_
        refine lv_ldc (own := RX11) (v := (-100001)) hx hb hown (hg _ k4_81) dX11_copy_118 ?_
        refine ck_Vi (As := [.int (-100001)]) (rest := []) (wr := [(ab, .inl (N.2 0, 4, .inl sb)), (az, .inl (N.2 0, 4, .inl sz)), (as_, .inl (N.2 0, 160, .inl st)), (ac, .inl (N.2 0, 40, .inl ca))]) C0 hP hD hS (c_X11_finds l N mm an ak ab az as_ ae ao ar aw al am af ac ke kn fd mn (-100001) ) myX11_finds k4_67 ⟨Nat.le_of_ble_eq_true rfl, Nat.le_of_ble_eq_true rfl⟩ [0] [1, 2, 3, 4] ⟨⟨rfl, rfl⟩, by decide, by decide, by decide⟩ 0 rfl rfl rfl rfl hl.1 rfl (Nat.le_of_ble_eq_true rfl) dX11_copy_120 ⟨Nat.le_of_ble_eq_true rfl, Nat.le_of_ble_eq_true rfl⟩ (fun r_16 u0 H locs hw0 hP hD hS => ?_)
        have hw_17 : r_16 = (-100001) := hw0
        subst hw_17
        have hP : va_P N.1 vwCl [(ab, .inl (N.2 0, 4, .inl sb)), (az, .inl (N.2 0, 4, .inl sz)), (as_, .inl (N.2 0, 160, .inl st)), (ac, .inl (N.2 0, 40, .inl ca)), (mm, .inr (11, [.ref an, .ref ak, .int (nI ke), .int (nI kn), .int (fd + nI 1), .ref ab, .ref az, .ref as_, .ref ae, .ref ao, .ref ar, .ref aw, .ref al, .ref am, .int (nI mn), .ref af, .ref ac]))] H := hP
        have hD : va_D Ag [(ab, .inl (N.2 0, 4, .inl sb)), (az, .inl (N.2 0, 4, .inl sz)), (as_, .inl (N.2 0, 160, .inl st)), (ac, .inl (N.2 0, 40, .inl ca)), (mm, .inr (11, [.ref an, .ref ak, .int (nI ke), .int (nI kn), .int (fd + nI 1), .ref ab, .ref az, .ref as_, .ref ae, .ref ao, .ref ar, .ref aw, .ref al, .ref am, .int (nI mn), .ref af, .ref ac]))] := hD
        exact ck_iret hx hb hrt hlk ⟨(fd + nI 1), st, ca⟩ (by have he : coF bt1 bt2 ct1 ct2 (nI i) y z = (-100001) := (by simp [coF, hbza, hbzb, hbe, hob]); exact ⟨ckRd_f he (by decide), Or.inr ⟨fun q => absurd (he.symm.trans q) (by decide), rfl⟩⟩) (hP.sub [4, 0, 1, 2, 3] rfl) (hD.sub [4, 0, 1, 2, 3] (by decide) rfl) hS ⟨Nat.le_of_ble_eq_true rfl, Nat.le_of_ble_eq_true rfl⟩ dX11_copy_123
      obtain ⟨j, hj0, rfl⟩ := nI_of cz_15
      have exj : ix (nI j) = j := ix_nI hj0
      refine lv_iload hx hb dX11_copy_77 (lv_at hl 5 rfl) ?_
      refine lv_if_lt (tgt := 117) hx hb dX11_copy_79 (by decide) (fun cz_18 => ?_) (fun cz_18 => ?_)
      · have hoa : coO ct1 (nI i) z = false := coO_y cz_18
        refine lv_aload_n hx hb dX11_copy_117 rfl (lv_at hl 0 rfl) ?_
        refine lv_ldc (own := RX11) (v := (-100001)) hx hb hown (hg _ k4_81) dX11_copy_118 ?_
        refine ck_Vi (As := [.int (-100001)]) (rest := []) (wr := [(ab, .inl (N.2 0, 4, .inl sb)), (az, .inl (N.2 0, 4, .inl sz)), (as_, .inl (N.2 0, 160, .inl st)), (ac, .inl (N.2 0, 40, .inl ca))]) C0 hP hD hS (c_X11_finds l N mm an ak ab az as_ ae ao ar aw al am af ac ke kn fd mn (-100001) ) myX11_finds k4_67 ⟨Nat.le_of_ble_eq_true rfl, Nat.le_of_ble_eq_true rfl⟩ [0] [1, 2, 3, 4] ⟨⟨rfl, rfl⟩, by decide, by decide, by decide⟩ 0 rfl rfl rfl rfl hl.1 rfl (Nat.le_of_ble_eq_true rfl) dX11_copy_120 ⟨Nat.le_of_ble_eq_true rfl, Nat.le_of_ble_eq_true rfl⟩ (fun r_19 u0 H locs hw0 hP hD hS => ?_)
        have hw_20 : r_19 = (-100001) := hw0
        subst hw_20
        have hP : va_P N.1 vwCl [(ab, .inl (N.2 0, 4, .inl sb)), (az, .inl (N.2 0, 4, .inl sz)), (as_, .inl (N.2 0, 160, .inl st)), (ac, .inl (N.2 0, 40, .inl ca)), (mm, .inr (11, [.ref an, .ref ak, .int (nI ke), .int (nI kn), .int (fd + nI 1), .ref ab, .ref az, .ref as_, .ref ae, .ref ao, .ref ar, .ref aw, .ref al, .ref am, .int (nI mn), .ref af, .ref ac]))] H := hP
        have hD : va_D Ag [(ab, .inl (N.2 0, 4, .inl sb)), (az, .inl (N.2 0, 4, .inl sz)), (as_, .inl (N.2 0, 160, .inl st)), (ac, .inl (N.2 0, 40, .inl ca)), (mm, .inr (11, [.ref an, .ref ak, .int (nI ke), .int (nI kn), .int (fd + nI 1), .ref ab, .ref az, .ref as_, .ref ae, .ref ao, .ref ar, .ref aw, .ref al, .ref am, .int (nI mn), .ref af, .ref ac]))] := hD
        exact ck_iret hx hb hrt hlk ⟨(fd + nI 1), st, ca⟩ (by have he : coF bt1 bt2 ct1 ct2 (nI i) (nI j) z = (-100001) := (by simp [coF, hbza, hbzb, hbe, hoa]); exact ⟨ckRd_f he (by decide), Or.inr ⟨fun q => absurd (he.symm.trans q) (by decide), rfl⟩⟩) (hP.sub [4, 0, 1, 2, 3] rfl) (hD.sub [4, 0, 1, 2, 3] (by decide) rfl) hS ⟨Nat.le_of_ble_eq_true rfl, Nat.le_of_ble_eq_true rfl⟩ dX11_copy_123
      obtain ⟨k, hk0, rfl⟩ := nI_of cz_18
      have exk : ix (nI k) = k := ix_nI hk0
      refine lv_iload_n hx hb dX11_copy_82 rfl (lv_at hl 2 rfl) ?_
      refine lv_i2l (v := (nI i).toInt64) hx hb dX11_copy_83 rfl ?_
      refine lv_iload hx hb dX11_copy_84 (lv_at hl 5 rfl) ?_
      refine lv_i2l (v := (nI k).toInt64) hx hb dX11_copy_86 rfl ?_
      refine lv_ladd hx hb dX11_copy_87 ?_
      refine lv_aload_n hx hb dX11_copy_88 rfl (lv_at hl 0 rfl) ?_
      refine va_get (ci := 11) (v := .ref az) (C := RX11) (T := TX11) (N := 17) hx hb hg inX11 hown hE.1 hP 0 rfl rfl 6 (by decide) (hg _ k4_16) (fun _ h9 => h9) rfl dX11_copy_89 ?_
      refine lv_iload_n hx hb dX11_copy_92 rfl (lv_at hl 1 rfl) ?_
      refine ck_iald hx hb hE hP 2 rfl (by omega) (by decide) dX11_copy_93 ?_
      refine ck_top (y := (nI ct1)) hsz1 ?_
      refine lv_i2l (v := (nI ct1).toInt64) hx hb dX11_copy_94 rfl ?_
      refine ck_lcmp hx hb dX11_copy_95 ?_
      refine lv_if_gt (tgt := 117) hx hb dX11_copy_96 (by decide) (fun cz_21 => ?_) (fun cz_21 => ?_)
      · have hoa : coO ct1 (nI i) (nI k) = false := by rw [coO_n hi0 hk0]; exact decide_eq_false (by have z := (kq_co hi0 hk0 (by omega)).mp cz_21; omega)
        refine lv_aload_n hx hb dX11_copy_117 rfl (lv_at hl 0 rfl) ?_
        refine lv_ldc (own := RX11) (v := (-100001)) hx hb hown (hg _ k4_81) dX11_copy_118 ?_
        refine ck_Vi (As := [.int (-100001)]) (rest := []) (wr := [(ab, .inl (N.2 0, 4, .inl sb)), (az, .inl (N.2 0, 4, .inl sz)), (as_, .inl (N.2 0, 160, .inl st)), (ac, .inl (N.2 0, 40, .inl ca))]) C0 hP hD hS (c_X11_finds l N mm an ak ab az as_ ae ao ar aw al am af ac ke kn fd mn (-100001) ) myX11_finds k4_67 ⟨Nat.le_of_ble_eq_true rfl, Nat.le_of_ble_eq_true rfl⟩ [0] [1, 2, 3, 4] ⟨⟨rfl, rfl⟩, by decide, by decide, by decide⟩ 0 rfl rfl rfl rfl hl.1 rfl (Nat.le_of_ble_eq_true rfl) dX11_copy_120 ⟨Nat.le_of_ble_eq_true rfl, Nat.le_of_ble_eq_true rfl⟩ (fun r_22 u0 H locs hw0 hP hD hS => ?_)
        have hw_23 : r_22 = (-100001) := hw0
        subst hw_23
        have hP : va_P N.1 vwCl [(ab, .inl (N.2 0, 4, .inl sb)), (az, .inl (N.2 0, 4, .inl sz)), (as_, .inl (N.2 0, 160, .inl st)), (ac, .inl (N.2 0, 40, .inl ca)), (mm, .inr (11, [.ref an, .ref ak, .int (nI ke), .int (nI kn), .int (fd + nI 1), .ref ab, .ref az, .ref as_, .ref ae, .ref ao, .ref ar, .ref aw, .ref al, .ref am, .int (nI mn), .ref af, .ref ac]))] H := hP
        have hD : va_D Ag [(ab, .inl (N.2 0, 4, .inl sb)), (az, .inl (N.2 0, 4, .inl sz)), (as_, .inl (N.2 0, 160, .inl st)), (ac, .inl (N.2 0, 40, .inl ca)), (mm, .inr (11, [.ref an, .ref ak, .int (nI ke), .int (nI kn), .int (fd + nI 1), .ref ab, .ref az, .ref as_, .ref ae, .ref ao, .ref ar, .ref aw, .ref al, .ref am, .int (nI mn), .ref af, .ref ac]))] := hD
        exact ck_iret hx hb hrt hlk ⟨(fd + nI 1), st, ca⟩ (by have he : coF bt1 bt2 ct1 ct2 (nI i) (nI j) (nI k) = (-100001) := (by simp [coF, hbza, hbzb, hbe, hoa]); exact ⟨ckRd_f he (by decide), Or.inr ⟨fun q => absurd (he.symm.trans q) (by decide), rfl⟩⟩) (hP.sub [4, 0, 1, 2, 3] rfl) (hD.sub [4, 0, 1, 2, 3] (by decide) rfl) hS ⟨Nat.le_of_ble_eq_true rfl, Nat.le_of_ble_eq_true rfl⟩ dX11_copy_123
      have hoa : coO ct1 (nI i) (nI k) = true := by rw [coO_n hi0 hk0]; exact decide_eq_true (by have z := mt (kq_co hi0 hk0 (by omega)).mpr cz_21; omega)
      refine lv_iload hx hb dX11_copy_99 (lv_at hl 4 rfl) ?_
      refine lv_i2l (v := (nI j).toInt64) hx hb dX11_copy_101 rfl ?_
      refine lv_iload hx hb dX11_copy_102 (lv_at hl 5 rfl) ?_
      refine lv_i2l (v := (nI k).toInt64) hx hb dX11_copy_104 rfl ?_
      refine lv_ladd hx hb dX11_copy_105 ?_
      refine lv_aload_n hx hb dX11_copy_106 rfl (lv_at hl 0 rfl) ?_
      refine va_get (ci := 11) (v := .ref az) (C := RX11) (T := TX11) (N := 17) hx hb hg inX11 hown hE.1 hP 0 rfl rfl 6 (by decide) (hg _ k4_16) (fun _ h9 => h9) rfl dX11_copy_107 ?_
      refine lv_iload_n hx hb dX11_copy_110 rfl (lv_at hl 3 rfl) ?_
      refine ck_iald hx hb hE hP 2 rfl (by omega) (by decide) dX11_copy_111 ?_
      refine ck_top (y := (nI ct2)) hsz2 ?_
      refine lv_i2l (v := (nI ct2).toInt64) hx hb dX11_copy_112 rfl ?_
      refine ck_lcmp hx hb dX11_copy_113 ?_
      refine lv_if_le (tgt := 124) hx hb dX11_copy_114 (by decide) (fun cz_24 => ?_) (fun cz_24 => ?_)
      · have hob : coO ct2 (nI j) (nI k) = true := by rw [coO_n hj0 hk0]; exact decide_eq_true (by have z := mt (kq_co hj0 hk0 (by omega)).mpr (Int32.not_lt.mpr cz_24); omega)
        have hik := of_decide_eq_true ((coO_n hi0 hk0).symm.trans hoa)
        have hjk := of_decide_eq_true ((coO_n hj0 hk0).symm.trans hob)
        refine lv_iconst (v := (nI 0)) hx hb dX11_copy_124 (by decide) ?_
        refine lv_istore (lv' := [(6, .int (nI 0)), (0, .ref mm), (1, .int (nI s1)), (2, .int (nI i)), (3, .int (nI s2)), (4, .int (nI j)), (5, .int (nI k))]) hx hb dX11_copy_125 hl (by decide) rfl (fun ls hl => ?_)
        have lp_127 : ∀ (dz : Nat) (k6 : Nat) (ca6 : Nat → Int32) (hdz : k - k6 = dz) (hk6 : k6 ≤ k) (hca6 : ∀ q, q < k6 → ca6 q = st (40 * s1 + i + q)) (H : Heap) (locs : List Loc) (ls : Array Slot), va_P N.1 vwCl [(mm, .inr (11, [.ref an, .ref ak, .int (nI ke), .int (nI kn), .int fd, .ref ab, .ref az, .ref as_, .ref ae, .ref ao, .ref ar, .ref aw, .ref al, .ref am, .int (nI mn), .ref af, .ref ac])), (ab, .inl (N.2 0, 4, .inl sb)), (az, .inl (N.2 0, 4, .inl sz)), (as_, .inl (N.2 0, 160, .inl st)), (ac, .inl (N.2 0, 40, .inl ca6))] H → va_D Ag [(mm, .inr (11, [.ref an, .ref ak, .int (nI ke), .int (nI kn), .int fd, .ref ab, .ref az, .ref as_, .ref ae, .ref ao, .ref ar, .ref aw, .ref al, .ref am, .int (nI mn), .ref af, .ref ac])), (ab, .inl (N.2 0, 4, .inl sb)), (az, .inl (N.2 0, 4, .inl sz)), (as_, .inl (N.2 0, 160, .inl st)), (ac, .inl (N.2 0, 40, .inl ca6))] → va_S Ag sg.heap H locs → lv_has ls 7 [(6, .int (nI k6)), (5, .int (nI k)), (4, .int (nI j)), (3, .int (nI s2)), (2, .int (nI i)), (1, .int (nI s1)), (0, .ref mm)] → W pg l eg { frames := 4, cells := 0, slots := 0, locals := 102 } sg mg ([.ref mm, .int (nI s1), .int (nI i), .int (nI s2), .int (nI j), .int (nI k)]).toArray blw mth cg H locs 0 0 (ckQi N Ag blw sg ([.ref mm, .int (nI s1), .int (nI i), .int (nI s2), .int (nI j), .int (nI k)]).toArray { frames := 4, cells := 0, slots := 0, locals := 102 } (fun (r : Int32) (u : Int32 × (Nat → Int32) × (Nat → Int32)) => (ckRd (coF bt1 bt2 ct1 ct2 (nI i) (nI j) (nI k)) ((nI k)) fd r u.1) ∧ ((coF bt1 bt2 ct1 ct2 (nI i) (nI j) (nI k) = 0 ∧ (∀ q, q < ct2 → u.2.1 (40 * s2 + q) = va_cpy nu1 nu2 (ix (nI i)) (ix (nI j)) (ix (nI k)) q) ∧ (∀ j, ¬ (40 * s2 ≤ j ∧ j < 40 * s2 + 40) → u.2.1 j = st j)) ∨ (coF bt1 bt2 ct1 ct2 (nI i) (nI j) (nI k) ≠ 0 ∧ u.2.1 = st))) (fun (u : Int32 × (Nat → Int32) × (Nat → Int32)) => [(mm, .inr (11, [.ref an, .ref ak, .int (nI ke), .int (nI kn), .int u.1, .ref ab, .ref az, .ref as_, .ref ae, .ref ao, .ref ar, .ref aw, .ref al, .ref am, .int (nI mn), .ref af, .ref ac])), (ab, .inl (N.2 0, 4, .inl sb)), (az, .inl (N.2 0, 4, .inl sz)), (as_, .inl (N.2 0, 160, .inl u.2.1)), (ac, .inl (N.2 0, 40, .inl u.2.2))])) (F0 mg 127 ls []) := by
          intro dz
          induction dz using Nat.strongRecOn with
          | _ dz ih_127 =>
            intro k6 ca6 hdz hk6 hca6 H locs ls hP hD hS hl
            subst hdz
            refine lv_iload hx hb dX11_copy_127 (lv_at hl 0 rfl) ?_
            refine lv_iload hx hb dX11_copy_129 (lv_at hl 1 rfl) ?_
            refine ck_ic_ge (tgt := 161) hx hb dX11_copy_131 (by decide) (by omega) (by omega) (fun cz_25 => ?_) (fun cz_25 => ?_)
            · refine lv_iconst (v := (nI 0)) hx hb dX11_copy_161 (by decide) ?_
              refine lv_istore (lv' := [(6, .int (nI 0)), (5, .int (nI k)), (4, .int (nI j)), (3, .int (nI s2)), (2, .int (nI i)), (1, .int (nI s1)), (0, .ref mm)]) hx hb dX11_copy_162 hl (by decide) rfl (fun ls hl => ?_)
              have lp_164 : ∀ (dz : Nat) (k7 : Nat) (st7 : Nat → Int32) (hdz : k - k7 = dz) (hk7 : k7 ≤ k) (hca7 : ∀ q, q < k → ca6 q = st (40 * s1 + i + q)) (hs7 : st7 = guT st (40 * s2 + j) ca6 k7) (H : Heap) (locs : List Loc) (ls : Array Slot), va_P N.1 vwCl [(mm, .inr (11, [.ref an, .ref ak, .int (nI ke), .int (nI kn), .int fd, .ref ab, .ref az, .ref as_, .ref ae, .ref ao, .ref ar, .ref aw, .ref al, .ref am, .int (nI mn), .ref af, .ref ac])), (ab, .inl (N.2 0, 4, .inl sb)), (az, .inl (N.2 0, 4, .inl sz)), (as_, .inl (N.2 0, 160, .inl st7)), (ac, .inl (N.2 0, 40, .inl ca6))] H → va_D Ag [(mm, .inr (11, [.ref an, .ref ak, .int (nI ke), .int (nI kn), .int fd, .ref ab, .ref az, .ref as_, .ref ae, .ref ao, .ref ar, .ref aw, .ref al, .ref am, .int (nI mn), .ref af, .ref ac])), (ab, .inl (N.2 0, 4, .inl sb)), (az, .inl (N.2 0, 4, .inl sz)), (as_, .inl (N.2 0, 160, .inl st7)), (ac, .inl (N.2 0, 40, .inl ca6))] → va_S Ag sg.heap H locs → lv_has ls 7 [(6, .int (nI k7)), (5, .int (nI k)), (4, .int (nI j)), (3, .int (nI s2)), (2, .int (nI i)), (1, .int (nI s1)), (0, .ref mm)] → W pg l eg { frames := 4, cells := 0, slots := 0, locals := 102 } sg mg ([.ref mm, .int (nI s1), .int (nI i), .int (nI s2), .int (nI j), .int (nI k)]).toArray blw mth cg H locs 0 0 (ckQi N Ag blw sg ([.ref mm, .int (nI s1), .int (nI i), .int (nI s2), .int (nI j), .int (nI k)]).toArray { frames := 4, cells := 0, slots := 0, locals := 102 } (fun (r : Int32) (u : Int32 × (Nat → Int32) × (Nat → Int32)) => (ckRd (coF bt1 bt2 ct1 ct2 (nI i) (nI j) (nI k)) ((nI k)) fd r u.1) ∧ ((coF bt1 bt2 ct1 ct2 (nI i) (nI j) (nI k) = 0 ∧ (∀ q, q < ct2 → u.2.1 (40 * s2 + q) = va_cpy nu1 nu2 (ix (nI i)) (ix (nI j)) (ix (nI k)) q) ∧ (∀ j, ¬ (40 * s2 ≤ j ∧ j < 40 * s2 + 40) → u.2.1 j = st j)) ∨ (coF bt1 bt2 ct1 ct2 (nI i) (nI j) (nI k) ≠ 0 ∧ u.2.1 = st))) (fun (u : Int32 × (Nat → Int32) × (Nat → Int32)) => [(mm, .inr (11, [.ref an, .ref ak, .int (nI ke), .int (nI kn), .int u.1, .ref ab, .ref az, .ref as_, .ref ae, .ref ao, .ref ar, .ref aw, .ref al, .ref am, .int (nI mn), .ref af, .ref ac])), (ab, .inl (N.2 0, 4, .inl sb)), (az, .inl (N.2 0, 4, .inl sz)), (as_, .inl (N.2 0, 160, .inl u.2.1)), (ac, .inl (N.2 0, 40, .inl u.2.2))])) (F0 mg 164 ls []) := by
                intro dz
                induction dz using Nat.strongRecOn with
                | _ dz ih_164 =>
                  intro k7 st7 hdz hk7 hca7 hs7 H locs ls hP hD hS hl
                  subst hdz
                  refine lv_iload hx hb dX11_copy_164 (lv_at hl 0 rfl) ?_
                  refine lv_iload hx hb dX11_copy_166 (lv_at hl 1 rfl) ?_
                  refine ck_ic_ge (tgt := 199) hx hb dX11_copy_168 (by decide) (by omega) (by omega) (fun cz_26 => ?_) (fun cz_26 => ?_)
                  · refine lv_iload hx hb dX11_copy_199 (lv_at hl 1 rfl) ?_
                    exact ck_iret hx hb hrt hlk ⟨fd, st7, ca6⟩ (by have he : coF bt1 bt2 ct1 ct2 (nI i) (nI j) (nI k) = 0 := (by simp [coF, hbza, hbzb, hbe, hoa, hob]); have h1 := of_decide_eq_true ((coO_n hi0 hk0).symm.trans hoa); have h2 := of_decide_eq_true ((coO_n hj0 hk0).symm.trans hob); refine ⟨ckRd_ok he rfl, Or.inl ⟨he, ?_, ?_⟩⟩; (intro q hq; rw [exi, exj, exk]; show st7 (40 * s2 + q) = _; rw [hs7, (show k7 = k by omega), guT, va_cpy]; by_cases hin : j ≤ q ∧ q < j + k; (rw [if_pos (by omega), if_pos hin]; exact (hca7 (40 * s2 + q - (40 * s2 + j)) (by omega)).trans ((congrArg st (by omega)).trans (hst1 (i + (q - j)) (by omega)))); (rw [if_neg (by omega), if_neg hin]; exact hst2 q hq)); (intro jj hjj; show st7 jj = _; rw [hs7]; exact guT_out (by omega))) hP hD hS ⟨Nat.le_of_ble_eq_true rfl, Nat.le_of_ble_eq_true rfl⟩ dX11_copy_201
                  refine lv_aload_n hx hb dX11_copy_171 rfl (lv_at hl 6 rfl) ?_
                  refine va_get (ci := 11) (v := .ref as_) (C := RX11) (T := TX11) (N := 17) hx hb hg inX11 hown hE.1 hP 0 rfl rfl 7 (by decide) (hg _ k4_17) (fun _ h9 => h9) rfl dX11_copy_172 ?_
                  refine lv_bipush (v := (nI 40)) hx hb dX11_copy_175 (by decide) ?_
                  refine lv_iload_n hx hb dX11_copy_177 rfl (lv_at hl 3 rfl) ?_
                  refine lv_imul hx hb dX11_copy_178 ?_
                  refine ck_top (y := (nI (40 * s2))) (pk_mul _ _) ?_
                  refine lv_iload hx hb dX11_copy_179 (lv_at hl 2 rfl) ?_
                  refine lv_iadd hx hb dX11_copy_181 ?_
                  refine ck_top (y := (nI (40 * s2 + j))) (nI_add _ _) ?_
                  refine lv_iload hx hb dX11_copy_182 (lv_at hl 0 rfl) ?_
                  refine lv_iadd hx hb dX11_copy_184 ?_
                  refine ck_top (y := (nI (40 * s2 + j + k7))) (nI_add _ _) ?_
                  refine lv_aload_n hx hb dX11_copy_185 rfl (lv_at hl 6 rfl) ?_
                  refine va_get (ci := 11) (v := .ref ac) (C := RX11) (T := TX11) (N := 17) hx hb hg inX11 hown hE.1 hP 0 rfl rfl 16 (by decide) (hg _ k4_26) (fun _ h9 => h9) rfl dX11_copy_186 ?_
                  refine lv_iload hx hb dX11_copy_189 (lv_at hl 0 rfl) ?_
                  refine ck_iald hx hb hE hP 4 rfl (by omega) (by decide) dX11_copy_191 ?_
                  refine ck_iast hx hb hE hP hD hS 3 rfl (by omega) (by decide) dX11_copy_192 (ws1 := [(mm, .inr (11, [.ref an, .ref ak, .int (nI ke), .int (nI kn), .int fd, .ref ab, .ref az, .ref as_, .ref ae, .ref ao, .ref ar, .ref aw, .ref al, .ref am, .int (nI mn), .ref af, .ref ac])), (ab, .inl (N.2 0, 4, .inl sb)), (az, .inl (N.2 0, 4, .inl sz)), (as_, .inl (N.2 0, 160, .inl (upd st7 (40 * s2 + j + k7) (ca6 k7)))), (ac, .inl (N.2 0, 40, .inl ca6))]) rfl (fun H locs hP hD hS => ?_)
                  refine lv_iinc (v := (nI (k7 + 1))) (lv' := [(6, .int (nI (k7 + 1))), (5, .int (nI k)), (4, .int (nI j)), (3, .int (nI s2)), (2, .int (nI i)), (1, .int (nI s1)), (0, .ref mm)]) hx hb dX11_copy_193 hl (k := 0) rfl (nI_1 _) (by decide) rfl (fun ls hl => ?_)
                  refine lv_goto (tgt := 164) hx hb dX11_copy_196 (by decide) ?_
                  exact ih_164 _ (by omega) (k7 + 1) (upd st7 (40 * s2 + j + k7) (ca6 k7)) rfl (by omega) hca7 (by rw [hs7]; exact guT_s st (40 * s2 + j) ca6 k7) _ _ ls hP hD hS hl
              exact lp_164 _ 0 st rfl (by omega) (fun q hq => hca6 q (by omega)) (guT_0 _ _ _).symm _ _ ls hP hD hS hl
            refine lv_aload_n hx hb dX11_copy_134 rfl (lv_at hl 6 rfl) ?_
            refine va_get (ci := 11) (v := .ref ac) (C := RX11) (T := TX11) (N := 17) hx hb hg inX11 hown hE.1 hP 0 rfl rfl 16 (by decide) (hg _ k4_26) (fun _ h9 => h9) rfl dX11_copy_135 ?_
            refine lv_iload hx hb dX11_copy_138 (lv_at hl 0 rfl) ?_
            refine lv_aload_n hx hb dX11_copy_140 rfl (lv_at hl 6 rfl) ?_
            refine va_get (ci := 11) (v := .ref as_) (C := RX11) (T := TX11) (N := 17) hx hb hg inX11 hown hE.1 hP 0 rfl rfl 7 (by decide) (hg _ k4_17) (fun _ h9 => h9) rfl dX11_copy_141 ?_
            refine lv_bipush (v := (nI 40)) hx hb dX11_copy_144 (by decide) ?_
            refine lv_iload_n hx hb dX11_copy_146 rfl (lv_at hl 5 rfl) ?_
            refine lv_imul hx hb dX11_copy_147 ?_
            refine ck_top (y := (nI (40 * s1))) (pk_mul _ _) ?_
            refine lv_iload_n hx hb dX11_copy_148 rfl (lv_at hl 4 rfl) ?_
            refine lv_iadd hx hb dX11_copy_149 ?_
            refine ck_top (y := (nI (40 * s1 + i))) (nI_add _ _) ?_
            refine lv_iload hx hb dX11_copy_150 (lv_at hl 0 rfl) ?_
            refine lv_iadd hx hb dX11_copy_152 ?_
            refine ck_top (y := (nI (40 * s1 + i + k6))) (nI_add _ _) ?_
            refine ck_iald hx hb hE hP 3 rfl (by omega) (by decide) dX11_copy_153 ?_
            refine ck_iast hx hb hE hP hD hS 4 rfl (by omega) (by decide) dX11_copy_154 (ws1 := [(mm, .inr (11, [.ref an, .ref ak, .int (nI ke), .int (nI kn), .int fd, .ref ab, .ref az, .ref as_, .ref ae, .ref ao, .ref ar, .ref aw, .ref al, .ref am, .int (nI mn), .ref af, .ref ac])), (ab, .inl (N.2 0, 4, .inl sb)), (az, .inl (N.2 0, 4, .inl sz)), (as_, .inl (N.2 0, 160, .inl st)), (ac, .inl (N.2 0, 40, .inl (upd ca6 k6 (st (40 * s1 + i + k6)))))]) rfl (fun H locs hP hD hS => ?_)
            refine lv_iinc (v := (nI (k6 + 1))) (lv' := [(6, .int (nI (k6 + 1))), (5, .int (nI k)), (4, .int (nI j)), (3, .int (nI s2)), (2, .int (nI i)), (1, .int (nI s1)), (0, .ref mm)]) hx hb dX11_copy_155 hl (k := 0) rfl (nI_1 _) (by decide) rfl (fun ls hl => ?_)
            refine lv_goto (tgt := 127) hx hb dX11_copy_158 (by decide) ?_
            exact ih_127 _ (by omega) (k6 + 1) (upd ca6 k6 (st (40 * s1 + i + k6))) rfl (by omega) (ck_fill (g := fun q => st (40 * s1 + i + q)) hca6 rfl) _ _ ls hP hD hS hl
        exact lp_127 _ 0 ca rfl (by omega) (fun q hq => absurd hq (Nat.not_lt_zero q)) _ _ ls hP hD hS (lv_sub hl [0, 6, 5, 4, 3, 2, 1] rfl)
      have hob : coO ct2 (nI j) (nI k) = false := by rw [coO_n hj0 hk0]; exact decide_eq_false (by have z := (kq_co hj0 hk0 (by omega)).mp (Int32.not_le.mp cz_24); omega)
      refine lv_aload_n hx hb dX11_copy_117 rfl (lv_at hl 0 rfl) ?_
      refine lv_ldc (own := RX11) (v := (-100001)) hx hb hown (hg _ k4_81) dX11_copy_118 ?_
      refine ck_Vi (As := [.int (-100001)]) (rest := []) (wr := [(ab, .inl (N.2 0, 4, .inl sb)), (az, .inl (N.2 0, 4, .inl sz)), (as_, .inl (N.2 0, 160, .inl st)), (ac, .inl (N.2 0, 40, .inl ca))]) C0 hP hD hS (c_X11_finds l N mm an ak ab az as_ ae ao ar aw al am af ac ke kn fd mn (-100001) ) myX11_finds k4_67 ⟨Nat.le_of_ble_eq_true rfl, Nat.le_of_ble_eq_true rfl⟩ [0] [1, 2, 3, 4] ⟨⟨rfl, rfl⟩, by decide, by decide, by decide⟩ 0 rfl rfl rfl rfl hl.1 rfl (Nat.le_of_ble_eq_true rfl) dX11_copy_120 ⟨Nat.le_of_ble_eq_true rfl, Nat.le_of_ble_eq_true rfl⟩ (fun r_27 u0 H locs hw0 hP hD hS => ?_)
      have hw_28 : r_27 = (-100001) := hw0
      subst hw_28
      have hP : va_P N.1 vwCl [(ab, .inl (N.2 0, 4, .inl sb)), (az, .inl (N.2 0, 4, .inl sz)), (as_, .inl (N.2 0, 160, .inl st)), (ac, .inl (N.2 0, 40, .inl ca)), (mm, .inr (11, [.ref an, .ref ak, .int (nI ke), .int (nI kn), .int (fd + nI 1), .ref ab, .ref az, .ref as_, .ref ae, .ref ao, .ref ar, .ref aw, .ref al, .ref am, .int (nI mn), .ref af, .ref ac]))] H := hP
      have hD : va_D Ag [(ab, .inl (N.2 0, 4, .inl sb)), (az, .inl (N.2 0, 4, .inl sz)), (as_, .inl (N.2 0, 160, .inl st)), (ac, .inl (N.2 0, 40, .inl ca)), (mm, .inr (11, [.ref an, .ref ak, .int (nI ke), .int (nI kn), .int (fd + nI 1), .ref ab, .ref az, .ref as_, .ref ae, .ref ao, .ref ar, .ref aw, .ref al, .ref am, .int (nI mn), .ref af, .ref ac]))] := hD
      exact ck_iret hx hb hrt hlk ⟨(fd + nI 1), st, ca⟩ (by have he : coF bt1 bt2 ct1 ct2 (nI i) (nI j) (nI k) = (-100001) := (by simp [coF, hbza, hbzb, hbe, hoa, hob]); exact ⟨ckRd_f he (by decide), Or.inr ⟨fun q => absurd (he.symm.trans q) (by decide), rfl⟩⟩) (hP.sub [4, 0, 1, 2, 3] rfl) (hD.sub [4, 0, 1, 2, 3] (by decide) rfl) hS ⟨Nat.le_of_ble_eq_true rfl, Nat.le_of_ble_eq_true rfl⟩ dX11_copy_123
    have hbe : ¬ bt1 = bt2 := by omega
    refine lv_aload_n hx hb dX11_copy_61 rfl (lv_at hl 0 rfl) ?_
    refine lv_ldc (own := RX11) (v := (-100004)) hx hb hown (hg _ k4_100) dX11_copy_62 ?_
    refine ck_Vi (As := [.int (-100004)]) (rest := []) (wr := [(ab, .inl (N.2 0, 4, .inl sb)), (az, .inl (N.2 0, 4, .inl sz)), (as_, .inl (N.2 0, 160, .inl st)), (ac, .inl (N.2 0, 40, .inl ca))]) C0 hP hD hS (c_X11_finds l N mm an ak ab az as_ ae ao ar aw al am af ac ke kn fd mn (-100004) ) myX11_finds k4_67 ⟨Nat.le_of_ble_eq_true rfl, Nat.le_of_ble_eq_true rfl⟩ [0] [1, 2, 3, 4] ⟨⟨rfl, rfl⟩, by decide, by decide, by decide⟩ 0 rfl rfl rfl rfl hl.1 rfl (Nat.le_of_ble_eq_true rfl) dX11_copy_64 ⟨Nat.le_of_ble_eq_true rfl, Nat.le_of_ble_eq_true rfl⟩ (fun r_29 u0 H locs hw0 hP hD hS => ?_)
    have hw_30 : r_29 = (-100004) := hw0
    subst hw_30
    have hP : va_P N.1 vwCl [(ab, .inl (N.2 0, 4, .inl sb)), (az, .inl (N.2 0, 4, .inl sz)), (as_, .inl (N.2 0, 160, .inl st)), (ac, .inl (N.2 0, 40, .inl ca)), (mm, .inr (11, [.ref an, .ref ak, .int (nI ke), .int (nI kn), .int (fd + nI 1), .ref ab, .ref az, .ref as_, .ref ae, .ref ao, .ref ar, .ref aw, .ref al, .ref am, .int (nI mn), .ref af, .ref ac]))] H := hP
    have hD : va_D Ag [(ab, .inl (N.2 0, 4, .inl sb)), (az, .inl (N.2 0, 4, .inl sz)), (as_, .inl (N.2 0, 160, .inl st)), (ac, .inl (N.2 0, 40, .inl ca)), (mm, .inr (11, [.ref an, .ref ak, .int (nI ke), .int (nI kn), .int (fd + nI 1), .ref ab, .ref az, .ref as_, .ref ae, .ref ao, .ref ar, .ref aw, .ref al, .ref am, .int (nI mn), .ref af, .ref ac]))] := hD
    exact ck_iret hx hb hrt hlk ⟨(fd + nI 1), st, ca⟩ (by have he : coF bt1 bt2 ct1 ct2 x y z = (-100004) := (by simp [coF, hbza, hbzb, hbe]); exact ⟨ckRd_f he (by decide), Or.inr ⟨fun q => absurd (he.symm.trans q) (by decide), rfl⟩⟩) (hP.sub [4, 0, 1, 2, 3] rfl) (hD.sub [4, 0, 1, 2, 3] (by decide) rfl) hS ⟨Nat.le_of_ble_eq_true rfl, Nat.le_of_ble_eq_true rfl⟩ dX11_copy_67
  have hbzb : bt2 = 0 := by omega
  refine lv_aload_n hx hb dX11_copy_39 rfl (lv_at hl 0 rfl) ?_
  refine lv_ldc (own := RX11) (v := (-100002)) hx hb hown (hg _ k5_17) dX11_copy_40 ?_
  refine ck_Vi (As := [.int (-100002)]) (rest := []) (wr := [(ab, .inl (N.2 0, 4, .inl sb)), (az, .inl (N.2 0, 4, .inl sz)), (as_, .inl (N.2 0, 160, .inl st)), (ac, .inl (N.2 0, 40, .inl ca))]) C0 hP hD hS (c_X11_finds l N mm an ak ab az as_ ae ao ar aw al am af ac ke kn fd mn (-100002) ) myX11_finds k4_67 ⟨Nat.le_of_ble_eq_true rfl, Nat.le_of_ble_eq_true rfl⟩ [0] [1, 2, 3, 4] ⟨⟨rfl, rfl⟩, by decide, by decide, by decide⟩ 0 rfl rfl rfl rfl hl.1 rfl (Nat.le_of_ble_eq_true rfl) dX11_copy_42 ⟨Nat.le_of_ble_eq_true rfl, Nat.le_of_ble_eq_true rfl⟩ (fun r_31 u0 H locs hw0 hP hD hS => ?_)
  have hw_32 : r_31 = (-100002) := hw0
  subst hw_32
  have hP : va_P N.1 vwCl [(ab, .inl (N.2 0, 4, .inl sb)), (az, .inl (N.2 0, 4, .inl sz)), (as_, .inl (N.2 0, 160, .inl st)), (ac, .inl (N.2 0, 40, .inl ca)), (mm, .inr (11, [.ref an, .ref ak, .int (nI ke), .int (nI kn), .int (fd + nI 1), .ref ab, .ref az, .ref as_, .ref ae, .ref ao, .ref ar, .ref aw, .ref al, .ref am, .int (nI mn), .ref af, .ref ac]))] H := hP
  have hD : va_D Ag [(ab, .inl (N.2 0, 4, .inl sb)), (az, .inl (N.2 0, 4, .inl sz)), (as_, .inl (N.2 0, 160, .inl st)), (ac, .inl (N.2 0, 40, .inl ca)), (mm, .inr (11, [.ref an, .ref ak, .int (nI ke), .int (nI kn), .int (fd + nI 1), .ref ab, .ref az, .ref as_, .ref ae, .ref ao, .ref ar, .ref aw, .ref al, .ref am, .int (nI mn), .ref af, .ref ac]))] := hD
  exact ck_iret hx hb hrt hlk ⟨(fd + nI 1), st, ca⟩ (by have he : coF bt1 bt2 ct1 ct2 x y z = (-100002) := (by simp [coF, hbza, hbzb]); exact ⟨ckRd_f he (by decide), Or.inr ⟨fun q => absurd (he.symm.trans q) (by decide), rfl⟩⟩) (hP.sub [4, 0, 1, 2, 3] rfl) (hD.sub [4, 0, 1, 2, 3] (by decide) rfl) hS ⟨Nat.le_of_ble_eq_true rfl, Nat.le_of_ble_eq_true rfl⟩ dX11_copy_45
set_option maxHeartbeats 4000000 in
set_option maxRecDepth 100000 in
/-- X11_copy -/
theorem c_X11_copy_f (l : Launch) (N : ckN) (mm : Nat) (an : Nat) (ak : Nat) (ab : Nat) (az : Nat) (as_ : Nat) (ae : Nat) (ao : Nat) (ar : Nat) (aw : Nat) (al : Nat) (am : Nat) (af : Nat) (ac : Nat) (ke : Nat) (kn : Nat) (fd : Int32) (mn : Nat) (x : Int32) (y : Int32) (z : Int32) (x1 : Int32) (y1 : Int32) (hbad : (ckIn x1 (nI 0) (nI 3) && ckIn y1 (nI 0) (nI 3)) = false) : ckI l yX11_copy cX11_copy 7 (some FieldType.int) { frames := 4, cells := 0, slots := 0, locals := 102 } N [.ref mm, .int x1, .int x, .int y1, .int y, .int z] [(mm, .inr (11, [.ref an, .ref ak, .int (nI ke), .int (nI kn), .int fd, .ref ab, .ref az, .ref as_, .ref ae, .ref ao, .ref ar, .ref aw, .ref al, .ref am, .int (nI mn), .ref af, .ref ac]))] (fun (r : Int32) (u : Int32) => ckRd (-100001) (0) fd r u) (fun (u : Int32) => [(mm, .inr (11, [.ref an, .ref ak, .int (nI ke), .int (nI kn), .int u, .ref ab, .ref az, .ref as_, .ref ae, .ref ao, .ref ar, .ref aw, .ref al, .ref am, .int (nI mn), .ref af, .ref ac]))]) := by
  refine ckI.of (by decide) (Nat.le_of_ble_eq_true rfl) ?_
  intro pg eg sg mg blw mth cg Ag ls hx hb hrt hml hown hlk hin hg hE hA hP hD hS hl
  have hown : sg.vm.findClass RX11 = some mg.cls := hown
  have hl : lv_has ls 7 [(0, .ref mm), (1, .int x1), (2, .int x), (3, .int y1), (4, .int y), (5, .int z)] := hl
  have C0 : ckC pg sg mg ([.ref mm, .int x1, .int x, .int y1, .int y, .int z]).toArray cg cX11_copy 7 RX11 N Ag := ⟨⟨hx, hb, hml, hown, hg⟩, hE, hA⟩
  generalize hHe : sg.heap = H at hP
  have hS : va_S Ag sg.heap H [] := hHe ▸ hS
  refine lv_iload_n hx hb dX11_copy_0 rfl (lv_at hl 1 rfl) ?_
  refine ck_Si (As := [.int x1]) (rest := []) (wr := [(mm, .inr (11, [.ref an, .ref ak, .int (nI ke), .int (nI kn), .int fd, .ref ab, .ref az, .ref as_, .ref ae, .ref ao, .ref ar, .ref aw, .ref al, .ref am, .int (nI mn), .ref af, .ref ac]))]) C0 hP hD hS (c_X11_isSheet l N x1 ) myX11_isSheet k5_14 ⟨Nat.le_of_ble_eq_true rfl, Nat.le_of_ble_eq_true rfl⟩ [] [0] ⟨⟨rfl, rfl⟩, by decide, by decide, by decide⟩ rfl hl.1 rfl (Nat.le_of_ble_eq_true rfl) dX11_copy_1 ⟨Nat.le_of_ble_eq_true rfl, Nat.le_of_ble_eq_true rfl⟩ (fun r_1 u0 H locs hw0 hP hD hS => ?_)
  have hw_2 : r_1 = (b2i (ckIn x1 (nI 0) (nI 3))) := hw0
  subst hw_2
  have hP : va_P N.1 vwCl [(mm, .inr (11, [.ref an, .ref ak, .int (nI ke), .int (nI kn), .int fd, .ref ab, .ref az, .ref as_, .ref ae, .ref ao, .ref ar, .ref aw, .ref al, .ref am, .int (nI mn), .ref af, .ref ac]))] H := hP
  have hD : va_D Ag [(mm, .inr (11, [.ref an, .ref ak, .int (nI ke), .int (nI kn), .int fd, .ref ab, .ref az, .ref as_, .ref ae, .ref ao, .ref ar, .ref aw, .ref al, .ref am, .int (nI mn), .ref af, .ref ac]))] := hD
  refine ck_ifeq (b := ckIn x1 (nI 0) (nI 3)) (tgt := 14) hx hb dX11_copy_4 (by decide) (fun cz_3 => ?_) (fun cz_3 => ?_)
  · refine lv_aload_n hx hb dX11_copy_14 rfl (lv_at hl 0 rfl) ?_
    refine lv_ldc (own := RX11) (v := (-100001)) hx hb hown (hg _ k4_81) dX11_copy_15 ?_
    refine ck_Vi (As := [.int (-100001)]) (rest := []) (wr := []) C0 hP hD hS (c_X11_finds l N mm an ak ab az as_ ae ao ar aw al am af ac ke kn fd mn (-100001) ) myX11_finds k4_67 ⟨Nat.le_of_ble_eq_true rfl, Nat.le_of_ble_eq_true rfl⟩ [0] [] ⟨⟨rfl, rfl⟩, by decide, by decide, by decide⟩ 0 rfl rfl rfl rfl hl.1 rfl (Nat.le_of_ble_eq_true rfl) dX11_copy_17 ⟨Nat.le_of_ble_eq_true rfl, Nat.le_of_ble_eq_true rfl⟩ (fun r_4 u0 H locs hw0 hP hD hS => ?_)
    have hw_5 : r_4 = (-100001) := hw0
    subst hw_5
    have hP : va_P N.1 vwCl [(mm, .inr (11, [.ref an, .ref ak, .int (nI ke), .int (nI kn), .int (fd + nI 1), .ref ab, .ref az, .ref as_, .ref ae, .ref ao, .ref ar, .ref aw, .ref al, .ref am, .int (nI mn), .ref af, .ref ac]))] H := hP
    have hD : va_D Ag [(mm, .inr (11, [.ref an, .ref ak, .int (nI ke), .int (nI kn), .int (fd + nI 1), .ref ab, .ref az, .ref as_, .ref ae, .ref ao, .ref ar, .ref aw, .ref al, .ref am, .int (nI mn), .ref af, .ref ac]))] := hD
    exact ck_iret hx hb hrt hlk ((fd + nI 1)) (ckRd_f rfl (by decide)) hP hD hS ⟨Nat.le_of_ble_eq_true rfl, Nat.le_of_ble_eq_true rfl⟩ dX11_copy_20
  refine lv_iload_n hx hb dX11_copy_7 rfl (lv_at hl 3 rfl) ?_
  refine ck_Si (As := [.int y1]) (rest := []) (wr := [(mm, .inr (11, [.ref an, .ref ak, .int (nI ke), .int (nI kn), .int fd, .ref ab, .ref az, .ref as_, .ref ae, .ref ao, .ref ar, .ref aw, .ref al, .ref am, .int (nI mn), .ref af, .ref ac]))]) C0 hP hD hS (c_X11_isSheet l N y1 ) myX11_isSheet k5_14 ⟨Nat.le_of_ble_eq_true rfl, Nat.le_of_ble_eq_true rfl⟩ [] [0] ⟨⟨rfl, rfl⟩, by decide, by decide, by decide⟩ rfl hl.1 rfl (Nat.le_of_ble_eq_true rfl) dX11_copy_8 ⟨Nat.le_of_ble_eq_true rfl, Nat.le_of_ble_eq_true rfl⟩ (fun r_6 u0 H locs hw0 hP hD hS => ?_)
  have hw_7 : r_6 = (b2i (ckIn y1 (nI 0) (nI 3))) := hw0
  subst hw_7
  have hP : va_P N.1 vwCl [(mm, .inr (11, [.ref an, .ref ak, .int (nI ke), .int (nI kn), .int fd, .ref ab, .ref az, .ref as_, .ref ae, .ref ao, .ref ar, .ref aw, .ref al, .ref am, .int (nI mn), .ref af, .ref ac]))] H := hP
  have hD : va_D Ag [(mm, .inr (11, [.ref an, .ref ak, .int (nI ke), .int (nI kn), .int fd, .ref ab, .ref az, .ref as_, .ref ae, .ref ao, .ref ar, .ref aw, .ref al, .ref am, .int (nI mn), .ref af, .ref ac]))] := hD
  refine ck_ifne (b := ckIn y1 (nI 0) (nI 3)) (tgt := 21) hx hb dX11_copy_11 (by decide) (fun cz_8 => absurd cz_8 (by intro q; rw [cz_3, q] at hbad; cases hbad)) (fun cz_8 => ?_)
  refine lv_aload_n hx hb dX11_copy_14 rfl (lv_at hl 0 rfl) ?_
  refine lv_ldc (own := RX11) (v := (-100001)) hx hb hown (hg _ k4_81) dX11_copy_15 ?_
  refine ck_Vi (As := [.int (-100001)]) (rest := []) (wr := []) C0 hP hD hS (c_X11_finds l N mm an ak ab az as_ ae ao ar aw al am af ac ke kn fd mn (-100001) ) myX11_finds k4_67 ⟨Nat.le_of_ble_eq_true rfl, Nat.le_of_ble_eq_true rfl⟩ [0] [] ⟨⟨rfl, rfl⟩, by decide, by decide, by decide⟩ 0 rfl rfl rfl rfl hl.1 rfl (Nat.le_of_ble_eq_true rfl) dX11_copy_17 ⟨Nat.le_of_ble_eq_true rfl, Nat.le_of_ble_eq_true rfl⟩ (fun r_9 u0 H locs hw0 hP hD hS => ?_)
  have hw_10 : r_9 = (-100001) := hw0
  subst hw_10
  have hP : va_P N.1 vwCl [(mm, .inr (11, [.ref an, .ref ak, .int (nI ke), .int (nI kn), .int (fd + nI 1), .ref ab, .ref az, .ref as_, .ref ae, .ref ao, .ref ar, .ref aw, .ref al, .ref am, .int (nI mn), .ref af, .ref ac]))] H := hP
  have hD : va_D Ag [(mm, .inr (11, [.ref an, .ref ak, .int (nI ke), .int (nI kn), .int (fd + nI 1), .ref ab, .ref az, .ref as_, .ref ae, .ref ao, .ref ar, .ref aw, .ref al, .ref am, .int (nI mn), .ref af, .ref ac]))] := hD
  exact ck_iret hx hb hrt hlk ((fd + nI 1)) (ckRd_f rfl (by decide)) hP hD hS ⟨Nat.le_of_ble_eq_true rfl, Nat.le_of_ble_eq_true rfl⟩ dX11_copy_20
