/-! the model's words: banks -/
def mB (lo bk : Nat → Int32) (b n : Nat) (w : Nat → List Nat) : Prop := ckWd (fun p => lo (5 * b + p)) (fun k => bk (300 * b + k)) n w
def ckDir (rv : Bool) (a : List Nat) : List Nat := if rv then turnW a else a
theorem ckDir_len (rv : Bool) (a : List Nat) : (ckDir rv a).length = a.length := by
  cases rv
  · rfl
  · exact turnW_len a
theorem ckDir_lt {rv : Bool} {a : List Nat} (h : L20 a) : L20 (ckDir rv a) := by
  cases rv
  · exact h
  · exact turnW_lt h
theorem mB_keep {lo bk lo2 bk2 : Nat → Int32} {b n : Nat} {w : Nat → List Nat} {t : Nat} (h : mB lo bk b n w) (hn : n ≤ 5) (hb : b ≠ t) (h1 : ∀ j, ¬ (5 * t ≤ j ∧ j < 5 * t + 5) → lo2 j = lo j) (h2 : ∀ j, ¬ (300 * t ≤ j ∧ j < 300 * t + 300) → bk2 j = bk j) : mB lo2 bk2 b n w :=
  ckWd_congr h (fun p hp => h1 _ (by omega)) (fun p k hp hk => h2 _ (by omega))
/-- a word of a stack, laid down -/
theorem mB_lay {lo bk md : Nat → Int32} {t k : Nat} {w : Nat → List Nat} {r : List Nat} (h : mB lo bk t k w) (hk : k < 5) (hr : JR md r) (hl : r.length ≤ 60) (h20 : L20 r) (hw : w k = r.reverse) : mB (upd lo (5 * t + k) (nI r.length)) (guT bk (300 * t + 60 * k) md r.length) t (k + 1) w := by
  intro q hq
  by_cases hqk : q = k
  · subst hqk
    rw [hw]
    refine ⟨?_, by rw [List.length_reverse]; exact hl, L20_rev h20, fun j hj => ?_⟩
    · show upd lo (5 * t + q) (nI r.length) (5 * t + q) = _
      rw [pk_us, List.length_reverse]
    · rw [List.length_reverse] at hj
      show guT bk (300 * t + 60 * q) md r.length (300 * t + (q * 60 + j)) = _
      rw [guT, if_pos (by omega), show 300 * t + (q * 60 + j) - (300 * t + 60 * q) = 0 + j by omega]
      exact JR_rev hr j (by rw [List.length_reverse]; exact hj)
  · obtain ⟨a, b, c, d⟩ := h q (by omega)
    refine ⟨(pk_un (by omega)).trans a, b, c, fun j hj => ?_⟩
    show guT bk (300 * t + 60 * k) md r.length (300 * t + (q * 60 + j)) = _
    rw [guT, if_neg (by omega)]
    exact d j hj
theorem mB_one {lo bk : Nat → Int32} {t k : Nat} (h : mB lo bk t k first0) (hk : k < 5) : mB (upd lo (5 * t + k) (nI 1)) (upd bk (300 * t + 60 * k) (nI k)) t (k + 1) first0 := by
  intro q hq
  by_cases hqk : q = k
  · subst hqk
    refine ⟨pk_us, Nat.le_of_ble_eq_true rfl, fun x hx => ?_, fun j hj => ?_⟩
    · cases hx with
      | head => omega
      | tail _ h => cases h
    · have hj : j < 1 := hj
      rw [show j = 0 by omega]
      show upd bk (300 * t + 60 * q) (nI q) (300 * t + (q * 60 + 0)) = nI q
      rw [show 300 * t + (q * 60 + 0) = 300 * t + 60 * q by omega, pk_us]
  · obtain ⟨a, b, c, d⟩ := h q (by omega)
    refine ⟨(pk_un (by omega)).trans a, b, c, fun j hj => ?_⟩
    have hj1 : j < 1 := hj
    exact (pk_un (by omega)).trans (d j hj)
theorem guT_s0 (fo nu : Nat → Int32) (k : Nat) : upd (guT fo 0 nu k) k (nu k) = guT fo 0 nu (k + 1) := by
  have h := guT_s fo 0 nu k
  rwa [Nat.zero_add] at h
theorem guT_out {fo nu : Nat → Int32} {b c j : Nat} (h : ¬ (b ≤ j ∧ j < b + c)) : guT fo b nu c j = fo j := if_neg h
theorem guT_in {fo nu : Nat → Int32} {b c j : Nat} (h : b ≤ j ∧ j < b + c) : guT fo b nu c j = nu (j - b) := if_pos h
theorem wd_rev {n : Nat} {w : Nat → List Nat} (h : ckGood n w) {p : Nat} (hp : p < n) : mul [] (w p) = (w p).reverse := mul_id (h p hp).1
theorem wear_sw (wo : Nat → Int32) (f g : Nat) (a b : Int32) : upd (upd wo g (wo g + b)) f (upd wo g (wo g + b) f + a) = upd (upd wo f (wo f + a)) g (upd wo f (wo f + a) g + b) := by
  funext j
  by_cases hfg : f = g
  · subst hfg
    by_cases hj : j = f
    · subst hj
      rw [pk_us, pk_us, pk_us, pk_us, Int32.add_assoc, Int32.add_assoc, Int32.add_comm a b]
    · rw [pk_un hj, pk_un hj, pk_un hj, pk_un hj]
  · rw [pk_un hfg, pk_un (Ne.symm hfg)]
    by_cases hj : j = f
    · subst hj
      rw [pk_us, pk_un hfg, pk_us]
    · by_cases hg : j = g
      · subst hg
        rw [pk_un hj, pk_us, pk_us]
      · rw [pk_un hj, pk_un hg, pk_un hg, pk_un hj]
set_option maxHeartbeats 4000000 in
set_option maxRecDepth 100000 in
/-- X11_turned -/
theorem c_X11_turned (l : Launch) (N : ckN) (t : Nat) (ht : t < 20) : ckI l yX11_turned cX11_turned 1 (some FieldType.int) { frames := 2, cells := 0, slots := 0, locals := 60 } N [.int (nI t)] [] (fun (r : Int32) (u : Unit) => r = (nI (ckT t))) (fun (u : Unit) => []) := by
  refine ckI.of (by decide) (Nat.le_of_ble_eq_true rfl) ?_
  intro pg eg sg mg blw mth cg Ag ls hx hb hrt hml hown hlk hin hg hE hA hP hD hS hl
  have hown : sg.vm.findClass RX11 = some mg.cls := hown
  have hl : lv_has ls 1 [(0, .int (nI t))] := hl
  have C0 : ckC pg sg mg ([.int (nI t)]).toArray cg cX11_turned 1 RX11 N Ag := ⟨⟨hx, hb, hml, hown, hg⟩, hE, hA⟩
  generalize hHe : sg.heap = H at hP
  have hS : va_S Ag sg.heap H [] := hHe ▸ hS
  refine lv_iload_n hx hb dX11_turned_0 rfl (lv_at hl 0 rfl) ?_
  refine lv_bipush (v := (nI 10)) hx hb dX11_turned_1 (by decide) ?_
  refine ck_ic_ge (tgt := 13) hx hb dX11_turned_3 (by decide) (by omega) (by omega) (fun cz_1 => ?_) (fun cz_1 => ?_)
  · refine lv_iload_n hx hb dX11_turned_13 rfl (lv_at hl 0 rfl) ?_
    refine lv_bipush (v := (nI 10)) hx hb dX11_turned_14 (by decide) ?_
    refine lv_isub hx hb dX11_turned_16 ?_
    refine ck_top (y := (nI (t - 10))) (pk_sub (by omega)) ?_
    exact ck_iret hx hb hrt hlk () (congrArg nI (by simp only [ckT]; split <;> omega)) hP hD hS ⟨Nat.le_of_ble_eq_true rfl, Nat.le_of_ble_eq_true rfl⟩ dX11_turned_17
  refine lv_iload_n hx hb dX11_turned_6 rfl (lv_at hl 0 rfl) ?_
  refine lv_bipush (v := (nI 10)) hx hb dX11_turned_7 (by decide) ?_
  refine lv_iadd hx hb dX11_turned_9 ?_
  refine ck_top (y := (nI (t + 10))) (nI_add _ _) ?_
  refine lv_goto (tgt := 17) hx hb dX11_turned_10 (by decide) ?_
  exact ck_iret hx hb hrt hlk () (congrArg nI (by simp only [ckT]; split <;> omega)) hP hD hS ⟨Nat.le_of_ble_eq_true rfl, Nat.le_of_ble_eq_true rfl⟩ dX11_turned_17
set_option maxHeartbeats 4000000 in
set_option maxRecDepth 100000 in
/-- X11_one -/
theorem c_X11_one (l : Launch) (N : ckN) (mm : Nat) (an : Nat) (ak : Nat) (ab : Nat) (az : Nat) (as_ : Nat) (ae : Nat) (ao : Nat) (ar : Nat) (aw : Nat) (al : Nat) (am : Nat) (af : Nat) (ac : Nat) (ke : Nat) (kn : Nat) (fd : Int32) (md : Nat → Int32) (r : List Nat) (t : Nat) (hr : JR md r) (h20 : L20 r) (ht : t < 20) (hc : r.length < 200) : ckV l yX11_one cX11_one 2 none { frames := 3, cells := 0, slots := 0, locals := 80 } N [.ref mm, .int (nI t)] [(mm, .inr (11, [.ref an, .ref ak, .int (nI ke), .int (nI kn), .int fd, .ref ab, .ref az, .ref as_, .ref ae, .ref ao, .ref ar, .ref aw, .ref al, .ref am, .int (nI r.length), .ref af, .ref ac])), (am, .inl (N.2 0, 200, .inl md))] (fun (u : (Nat → Int32)) => JR u (push t r)) (fun (u : (Nat → Int32)) => [(mm, .inr (11, [.ref an, .ref ak, .int (nI ke), .int (nI kn), .int fd, .ref ab, .ref az, .ref as_, .ref ae, .ref ao, .ref ar, .ref aw, .ref al, .ref am, .int (nI ((push t r).length)), .ref af, .ref ac])), (am, .inl (N.2 0, 200, .inl u))]) := by
  refine ckV.of (by decide) (Nat.le_of_ble_eq_true rfl) ?_
  intro pg eg sg mg blw mth cg Ag ls hx hb hrt hml hown hlk hin hg hE hA hP hD hS hl
  have hown : sg.vm.findClass RX11 = some mg.cls := hown
  have hl : lv_has ls 2 [(0, .ref mm), (1, .int (nI t))] := hl
  have C0 : ckC pg sg mg ([.ref mm, .int (nI t)]).toArray cg cX11_one 2 RX11 N Ag := ⟨⟨hx, hb, hml, hown, hg⟩, hE, hA⟩
  generalize hHe : sg.heap = H at hP
  have hS : va_S Ag sg.heap H [] := hHe ▸ hS
  refine lv_aload_n hx hb dX11_one_0 rfl (lv_at hl 0 rfl) ?_
  refine va_get (ci := 11) (v := .int (nI r.length)) (C := RX11) (T := TX11) (N := 17) hx hb hg inX11 hown hE.1 hP 0 rfl rfl 14 (by decide) (hg _ k4_24) (fun _ h9 => h9) rfl dX11_one_1 ?_
  refine ck_if0_le (tgt := 36) hx hb dX11_one_4 (by decide) (by omega) (fun cz_1 => ?_) (fun cz_1 => ?_)
  · refine lv_aload_n hx hb dX11_one_36 rfl (lv_at hl 0 rfl) ?_
    refine va_get (ci := 11) (v := .ref am) (C := RX11) (T := TX11) (N := 17) hx hb hg inX11 hown hE.1 hP 0 rfl rfl 13 (by decide) (hg _ k4_23) (fun _ h9 => h9) rfl dX11_one_37 ?_
    refine lv_aload_n hx hb dX11_one_40 rfl (lv_at hl 0 rfl) ?_
    refine va_get (ci := 11) (v := .int (nI r.length)) (C := RX11) (T := TX11) (N := 17) hx hb hg inX11 hown hE.1 hP 0 rfl rfl 14 (by decide) (hg _ k4_24) (fun _ h9 => h9) rfl dX11_one_41 ?_
    refine lv_iload_n hx hb dX11_one_44 rfl (lv_at hl 1 rfl) ?_
    refine ck_iast hx hb hE hP hD hS 1 rfl (by omega) (by decide) dX11_one_45 (ws1 := [(mm, .inr (11, [.ref an, .ref ak, .int (nI ke), .int (nI kn), .int fd, .ref ab, .ref az, .ref as_, .ref ae, .ref ao, .ref ar, .ref aw, .ref al, .ref am, .int (nI r.length), .ref af, .ref ac])), (am, .inl (N.2 0, 200, .inl (upd md r.length (nI t))))]) rfl (fun H locs hP hD hS => ?_)
    refine lv_aload_n hx hb dX11_one_46 rfl (lv_at hl 0 rfl) ?_
    refine lv_dup hx hb dX11_one_47 rfl ?_
    refine va_get (ci := 11) (v := .int (nI r.length)) (C := RX11) (T := TX11) (N := 17) hx hb hg inX11 hown hE.1 hP 0 rfl rfl 14 (by decide) (hg _ k4_24) (fun _ h9 => h9) rfl dX11_one_48 ?_
    refine lv_iconst (v := (nI 1)) hx hb dX11_one_51 (by decide) ?_
    refine lv_iadd hx hb dX11_one_52 ?_
    refine ck_top (y := (nI (r.length + 1))) (nI_add _ _) ?_
    refine va_put (ci := 11) (v := .int (nI (r.length + 1))) (C := RX11) (T := TX11) (N := 17) hx hb hg inX11 tyX11 tyX11_ok nmX11 hown hE.1 hP hD hS 0 rfl rfl 14 (by decide) (hg _ k4_24) (fun _ h9 => h9) rfl (tyX11_ok 14 (by decide)) rfl rfl (Nat.le_of_ble_eq_true rfl) dX11_one_53 (fun H locs hP hD hS => ?_)
    have hP : va_P N.1 vwCl [(mm, .inr (11, [.ref an, .ref ak, .int (nI ke), .int (nI kn), .int fd, .ref ab, .ref az, .ref as_, .ref ae, .ref ao, .ref ar, .ref aw, .ref al, .ref am, .int (nI (r.length + 1)), .ref af, .ref ac])), (am, .inl (N.2 0, 200, .inl (upd md r.length (nI t))))] H := hP
    have hD : va_D Ag [(mm, .inr (11, [.ref an, .ref ak, .int (nI ke), .int (nI kn), .int fd, .ref ab, .ref az, .ref as_, .ref ae, .ref ao, .ref ar, .ref aw, .ref al, .ref am, .int (nI (r.length + 1)), .ref af, .ref ac])), (am, .inl (N.2 0, 200, .inl (upd md r.length (nI t))))] := hD
    have hle : (push t r).length = r.length + 1 := (by rw [push_put (Or.inl cz_1)]; rfl)
    rw [← hle] at hP hD
    exact ck_vret hx hb hrt hlk (upd md r.length (nI t)) (by rw [push_put (Or.inl cz_1)]; exact JR_cons hr t) hP hD hS ⟨Nat.le_of_ble_eq_true rfl, Nat.le_of_ble_eq_true rfl⟩ dX11_one_56
  refine lv_aload_n hx hb dX11_one_7 rfl (lv_at hl 0 rfl) ?_
  refine va_get (ci := 11) (v := .ref am) (C := RX11) (T := TX11) (N := 17) hx hb hg inX11 hown hE.1 hP 0 rfl rfl 13 (by decide) (hg _ k4_23) (fun _ h9 => h9) rfl dX11_one_8 ?_
  refine lv_aload_n hx hb dX11_one_11 rfl (lv_at hl 0 rfl) ?_
  refine va_get (ci := 11) (v := .int (nI r.length)) (C := RX11) (T := TX11) (N := 17) hx hb hg inX11 hown hE.1 hP 0 rfl rfl 14 (by decide) (hg _ k4_24) (fun _ h9 => h9) rfl dX11_one_12 ?_
  refine lv_iconst (v := (nI 1)) hx hb dX11_one_15 (by decide) ?_
  refine lv_isub hx hb dX11_one_16 ?_
  refine ck_top (y := (nI (r.length - 1))) (pk_sub (by omega)) ?_
  refine ck_iald hx hb hE hP 1 rfl (by omega) (by decide) dX11_one_17 ?_
  refine ck_top (y := (nI (r.getD 0 0))) (JR_top hr (by omega)) ?_
  refine lv_iload_n hx hb dX11_one_18 rfl (lv_at hl 1 rfl) ?_
  refine ck_Si (As := [.int (nI t)]) (rest := [.int (nI (r.getD 0 0))]) (wr := [(mm, .inr (11, [.ref an, .ref ak, .int (nI ke), .int (nI kn), .int fd, .ref ab, .ref az, .ref as_, .ref ae, .ref ao, .ref ar, .ref aw, .ref al, .ref am, .int (nI r.length), .ref af, .ref ac])), (am, .inl (N.2 0, 200, .inl md))]) C0 hP hD hS (c_X11_turned l N t (by omega)) myX11_turned k4_199 ⟨Nat.le_of_ble_eq_true rfl, Nat.le_of_ble_eq_true rfl⟩ [] [0, 1] ⟨⟨rfl, rfl⟩, by decide, by decide, by decide⟩ rfl hl.1 rfl (Nat.le_of_ble_eq_true rfl) dX11_one_19 ⟨Nat.le_of_ble_eq_true rfl, Nat.le_of_ble_eq_true rfl⟩ (fun r_2 u0 H locs hw0 hP hD hS => ?_)
  have hw_3 : r_2 = (nI (ckT t)) := hw0
  subst hw_3
  have hP : va_P N.1 vwCl [(mm, .inr (11, [.ref an, .ref ak, .int (nI ke), .int (nI kn), .int fd, .ref ab, .ref az, .ref as_, .ref ae, .ref ao, .ref ar, .ref aw, .ref al, .ref am, .int (nI r.length), .ref af, .ref ac])), (am, .inl (N.2 0, 200, .inl md))] H := hP
  have hD : va_D Ag [(mm, .inr (11, [.ref an, .ref ak, .int (nI ke), .int (nI kn), .int fd, .ref ab, .ref az, .ref as_, .ref ae, .ref ao, .ref ar, .ref aw, .ref al, .ref am, .int (nI r.length), .ref af, .ref ac])), (am, .inl (N.2 0, 200, .inl md))] := hD
  refine ck_ic_ne (tgt := 36) hx hb dX11_one_22 (by decide) (Nat.lt_trans (L20_getD h20 (by omega)) (by decide)) (Nat.lt_trans (ckT_lt ht) (by decide)) (fun cz_4 => ?_) (fun cz_4 => ?_)
  · refine lv_aload_n hx hb dX11_one_36 rfl (lv_at hl 0 rfl) ?_
    refine va_get (ci := 11) (v := .ref am) (C := RX11) (T := TX11) (N := 17) hx hb hg inX11 hown hE.1 hP 0 rfl rfl 13 (by decide) (hg _ k4_23) (fun _ h9 => h9) rfl dX11_one_37 ?_
    refine lv_aload_n hx hb dX11_one_40 rfl (lv_at hl 0 rfl) ?_
    refine va_get (ci := 11) (v := .int (nI r.length)) (C := RX11) (T := TX11) (N := 17) hx hb hg inX11 hown hE.1 hP 0 rfl rfl 14 (by decide) (hg _ k4_24) (fun _ h9 => h9) rfl dX11_one_41 ?_
    refine lv_iload_n hx hb dX11_one_44 rfl (lv_at hl 1 rfl) ?_
    refine ck_iast hx hb hE hP hD hS 1 rfl (by omega) (by decide) dX11_one_45 (ws1 := [(mm, .inr (11, [.ref an, .ref ak, .int (nI ke), .int (nI kn), .int fd, .ref ab, .ref az, .ref as_, .ref ae, .ref ao, .ref ar, .ref aw, .ref al, .ref am, .int (nI r.length), .ref af, .ref ac])), (am, .inl (N.2 0, 200, .inl (upd md r.length (nI t))))]) rfl (fun H locs hP hD hS => ?_)
    refine lv_aload_n hx hb dX11_one_46 rfl (lv_at hl 0 rfl) ?_
    refine lv_dup hx hb dX11_one_47 rfl ?_
    refine va_get (ci := 11) (v := .int (nI r.length)) (C := RX11) (T := TX11) (N := 17) hx hb hg inX11 hown hE.1 hP 0 rfl rfl 14 (by decide) (hg _ k4_24) (fun _ h9 => h9) rfl dX11_one_48 ?_
    refine lv_iconst (v := (nI 1)) hx hb dX11_one_51 (by decide) ?_
    refine lv_iadd hx hb dX11_one_52 ?_
    refine ck_top (y := (nI (r.length + 1))) (nI_add _ _) ?_
    refine va_put (ci := 11) (v := .int (nI (r.length + 1))) (C := RX11) (T := TX11) (N := 17) hx hb hg inX11 tyX11 tyX11_ok nmX11 hown hE.1 hP hD hS 0 rfl rfl 14 (by decide) (hg _ k4_24) (fun _ h9 => h9) rfl (tyX11_ok 14 (by decide)) rfl rfl (Nat.le_of_ble_eq_true rfl) dX11_one_53 (fun H locs hP hD hS => ?_)
    have hP : va_P N.1 vwCl [(mm, .inr (11, [.ref an, .ref ak, .int (nI ke), .int (nI kn), .int fd, .ref ab, .ref az, .ref as_, .ref ae, .ref ao, .ref ar, .ref aw, .ref al, .ref am, .int (nI (r.length + 1)), .ref af, .ref ac])), (am, .inl (N.2 0, 200, .inl (upd md r.length (nI t))))] H := hP
    have hD : va_D Ag [(mm, .inr (11, [.ref an, .ref ak, .int (nI ke), .int (nI kn), .int fd, .ref ab, .ref az, .ref as_, .ref ae, .ref ao, .ref ar, .ref aw, .ref al, .ref am, .int (nI (r.length + 1)), .ref af, .ref ac])), (am, .inl (N.2 0, 200, .inl (upd md r.length (nI t))))] := hD
    have hle : (push t r).length = r.length + 1 := (by rw [push_put (Or.inr cz_4)]; rfl)
    rw [← hle] at hP hD
    exact ck_vret hx hb hrt hlk (upd md r.length (nI t)) (by rw [push_put (Or.inr cz_4)]; exact JR_cons hr t) hP hD hS ⟨Nat.le_of_ble_eq_true rfl, Nat.le_of_ble_eq_true rfl⟩ dX11_one_56
  refine lv_aload_n hx hb dX11_one_25 rfl (lv_at hl 0 rfl) ?_
  refine lv_dup hx hb dX11_one_26 rfl ?_
  refine va_get (ci := 11) (v := .int (nI r.length)) (C := RX11) (T := TX11) (N := 17) hx hb hg inX11 hown hE.1 hP 0 rfl rfl 14 (by decide) (hg _ k4_24) (fun _ h9 => h9) rfl dX11_one_27 ?_
  refine lv_iconst (v := (nI 1)) hx hb dX11_one_30 (by decide) ?_
  refine lv_isub hx hb dX11_one_31 ?_
  refine ck_top (y := (nI (r.length - 1))) (pk_sub (by omega)) ?_
  refine va_put (ci := 11) (v := .int (nI (r.length - 1))) (C := RX11) (T := TX11) (N := 17) hx hb hg inX11 tyX11 tyX11_ok nmX11 hown hE.1 hP hD hS 0 rfl rfl 14 (by decide) (hg _ k4_24) (fun _ h9 => h9) rfl (tyX11_ok 14 (by decide)) rfl rfl (Nat.le_of_ble_eq_true rfl) dX11_one_32 (fun H locs hP hD hS => ?_)
  have hP : va_P N.1 vwCl [(mm, .inr (11, [.ref an, .ref ak, .int (nI ke), .int (nI kn), .int fd, .ref ab, .ref az, .ref as_, .ref ae, .ref ao, .ref ar, .ref aw, .ref al, .ref am, .int (nI (r.length - 1)), .ref af, .ref ac])), (am, .inl (N.2 0, 200, .inl md))] H := hP
  have hD : va_D Ag [(mm, .inr (11, [.ref an, .ref ak, .int (nI ke), .int (nI kn), .int fd, .ref ab, .ref az, .ref as_, .ref ae, .ref ao, .ref ar, .ref aw, .ref al, .ref am, .int (nI (r.length - 1)), .ref af, .ref ac])), (am, .inl (N.2 0, 200, .inl md))] := hD
  have hle : (push t r).length = r.length - 1 := (push_pop cz_1 cz_4).2
  rw [← hle] at hP hD
  exact ck_vret hx hb hrt hlk (md) (by rw [(push_pop cz_1 cz_4).1]; exact JR_tail hr) hP hD hS ⟨Nat.le_of_ble_eq_true rfl, Nat.le_of_ble_eq_true rfl⟩ dX11_one_35
set_option maxHeartbeats 4000000 in
set_option maxRecDepth 100000 in
/-- X11_takes -/
theorem c_X11_takes (l : Launch) (N : ckN) (mm : Nat) (an : Nat) (ak : Nat) (ab : Nat) (az : Nat) (as_ : Nat) (ae : Nat) (ao : Nat) (ar : Nat) (aw : Nat) (al : Nat) (am : Nat) (af : Nat) (ac : Nat) (ke : Nat) (kn : Nat) (fd : Int32) (lo : Nat → Int32) (bk : Nat → Int32) (md : Nat → Int32) (r : List Nat) (w : Nat → List Nat) (n : Nat) (b : Nat) (p : Nat) (rv : Bool) (hB : mB lo bk b n w) (hb5 : b < 5) (hp : p < n) (hn : n ≤ 5) (hr : JR md r) (h20 : L20 r) (hc : r.length + (w p).length ≤ 200) : ckV l yX11_takes cX11_takes 7 none { frames := 4, cells := 0, slots := 0, locals := 101 } N [.ref mm, .int (nI b), .int (nI p), .int (b2i rv)] [(mm, .inr (11, [.ref an, .ref ak, .int (nI ke), .int (nI kn), .int fd, .ref ab, .ref az, .ref as_, .ref ae, .ref ao, .ref ar, .ref aw, .ref al, .ref am, .int (nI r.length), .ref af, .ref ac])), (al, .inl (N.2 0, 25, .inl lo)), (aw, .inl (N.2 0, 1500, .inl bk)), (am, .inl (N.2 0, 200, .inl md))] (fun (u : (Nat → Int32)) => JR u (mul r (ckDir rv (w p)))) (fun (u : (Nat → Int32)) => [(mm, .inr (11, [.ref an, .ref ak, .int (nI ke), .int (nI kn), .int fd, .ref ab, .ref az, .ref as_, .ref ae, .ref ao, .ref ar, .ref aw, .ref al, .ref am, .int (nI ((mul r (ckDir rv (w p))).length)), .ref af, .ref ac])), (al, .inl (N.2 0, 25, .inl lo)), (aw, .inl (N.2 0, 1500, .inl bk)), (am, .inl (N.2 0, 200, .inl u))]) := by
  refine ckV.of (by decide) (Nat.le_of_ble_eq_true rfl) ?_
  intro pg eg sg mg blw mth cg Ag ls hx hb hrt hml hown hlk hin hg hE hA hP hD hS hl
  have hown : sg.vm.findClass RX11 = some mg.cls := hown
  have hl : lv_has ls 7 [(0, .ref mm), (1, .int (nI b)), (2, .int (nI p)), (3, .int (b2i rv))] := hl
  have C0 : ckC pg sg mg ([.ref mm, .int (nI b), .int (nI p), .int (b2i rv)]).toArray cg cX11_takes 7 RX11 N Ag := ⟨⟨hx, hb, hml, hown, hg⟩, hE, hA⟩
  generalize hHe : sg.heap = H at hP
  have hS : va_S Ag sg.heap H [] := hHe ▸ hS
  obtain ⟨hp1, hp2, hp3, hp4⟩ := hB p hp
  cases rv
  · refine lv_aload_n hx hb dX11_takes_0 rfl (lv_at hl 0 rfl) ?_
    refine va_get (ci := 11) (v := .ref al) (C := RX11) (T := TX11) (N := 17) hx hb hg inX11 hown hE.1 hP 0 rfl rfl 12 (by decide) (hg _ k4_22) (fun _ h9 => h9) rfl dX11_takes_1 ?_
    refine lv_iconst (v := (nI 5)) hx hb dX11_takes_4 (by decide) ?_
    refine lv_iload_n hx hb dX11_takes_5 rfl (lv_at hl 1 rfl) ?_
    refine lv_imul hx hb dX11_takes_6 ?_
    refine ck_top (y := (nI (5 * b))) (pk_mul _ _) ?_
    refine lv_iload_n hx hb dX11_takes_7 rfl (lv_at hl 2 rfl) ?_
    refine lv_iadd hx hb dX11_takes_8 ?_
    refine ck_top (y := (nI (5 * b + p))) (nI_add _ _) ?_
    refine ck_iald hx hb hE hP 1 rfl (by omega) (by decide) dX11_takes_9 ?_
    refine ck_top (y := (nI ((w p).length))) hp1 ?_
    refine lv_istore (lv' := [(4, .int (nI ((w p).length))), (0, .ref mm), (1, .int (nI b)), (2, .int (nI p)), (3, .int (b2i false))]) hx hb dX11_takes_10 hl (by decide) rfl (fun ls hl => ?_)
    refine lv_iconst (v := (nI 0)) hx hb dX11_takes_12 (by decide) ?_
    refine lv_istore (lv' := [(5, .int (nI 0)), (4, .int (nI ((w p).length))), (0, .ref mm), (1, .int (nI b)), (2, .int (nI p)), (3, .int (b2i false))]) hx hb dX11_takes_13 hl (by decide) rfl (fun ls hl => ?_)
    have lp_15 : ∀ (dz : Nat) (k : Nat) (rr : List Nat) (md1 : Nat → Int32) (hdz : (w p).length - k = dz) (hk : k ≤ (w p).length) (hrr : rr = mul r ((ckDir false (w p)).take k)) (hjr : JR md1 rr) (H : Heap) (locs : List Loc) (ls : Array Slot), va_P N.1 vwCl [(mm, .inr (11, [.ref an, .ref ak, .int (nI ke), .int (nI kn), .int fd, .ref ab, .ref az, .ref as_, .ref ae, .ref ao, .ref ar, .ref aw, .ref al, .ref am, .int (nI rr.length), .ref af, .ref ac])), (al, .inl (N.2 0, 25, .inl lo)), (aw, .inl (N.2 0, 1500, .inl bk)), (am, .inl (N.2 0, 200, .inl md1))] H → va_D Ag [(mm, .inr (11, [.ref an, .ref ak, .int (nI ke), .int (nI kn), .int fd, .ref ab, .ref az, .ref as_, .ref ae, .ref ao, .ref ar, .ref aw, .ref al, .ref am, .int (nI rr.length), .ref af, .ref ac])), (al, .inl (N.2 0, 25, .inl lo)), (aw, .inl (N.2 0, 1500, .inl bk)), (am, .inl (N.2 0, 200, .inl md1))] → va_S Ag sg.heap H locs → lv_has ls 7 [(5, .int (nI k)), (4, .int (nI ((w p).length))), (0, .ref mm), (1, .int (nI b)), (2, .int (nI p)), (3, .int (b2i false))] → W pg l eg { frames := 4, cells := 0, slots := 0, locals := 101 } sg mg ([.ref mm, .int (nI b), .int (nI p), .int (b2i false)]).toArray blw mth cg H locs 0 0 (ckQv N Ag blw sg ([.ref mm, .int (nI b), .int (nI p), .int (b2i false)]).toArray { frames := 4, cells := 0, slots := 0, locals := 101 } (fun (u : (Nat → Int32)) => JR u (mul r (ckDir false (w p)))) (fun (u : (Nat → Int32)) => [(mm, .inr (11, [.ref an, .ref ak, .int (nI ke), .int (nI kn), .int fd, .ref ab, .ref az, .ref as_, .ref ae, .ref ao, .ref ar, .ref aw, .ref al, .ref am, .int (nI ((mul r (ckDir false (w p))).length)), .ref af, .ref ac])), (al, .inl (N.2 0, 25, .inl lo)), (aw, .inl (N.2 0, 1500, .inl bk)), (am, .inl (N.2 0, 200, .inl u))])) (F0 mg 15 ls []) := by
      intro dz
      induction dz using Nat.strongRecOn with
      | _ dz ih_15 =>
        intro k rr md1 hdz hk hrr hjr H locs ls hP hD hS hl
        subst hdz
        refine lv_iload hx hb dX11_takes_15 (lv_at hl 0 rfl) ?_
        refine lv_iload hx hb dX11_takes_17 (lv_at hl 1 rfl) ?_
        refine ck_ic_ge (tgt := 80) hx hb dX11_takes_19 (by decide) (by omega) (by omega) (fun cz_1 => ?_) (fun cz_1 => ?_)
        · have hrr2 : rr = mul r (ckDir false (w p)) := by rw [hrr, (show k = (w p).length by omega), ← ckDir_len false (w p), List.take_length]
          rw [hrr2] at hP hD hjr
          exact ck_vret hx hb hrt hlk (md1) hjr hP hD hS ⟨Nat.le_of_ble_eq_true rfl, Nat.le_of_ble_eq_true rfl⟩ dX11_takes_80
        refine lv_aload_n hx hb dX11_takes_22 rfl (lv_at hl 2 rfl) ?_
        refine va_get (ci := 11) (v := .ref aw) (C := RX11) (T := TX11) (N := 17) hx hb hg inX11 hown hE.1 hP 0 rfl rfl 11 (by decide) (hg _ k4_21) (fun _ h9 => h9) rfl dX11_takes_23 ?_
        refine lv_sipush (v := (nI 300)) hx hb dX11_takes_26 (by decide) ?_
        refine lv_iload_n hx hb dX11_takes_29 rfl (lv_at hl 3 rfl) ?_
        refine lv_imul hx hb dX11_takes_30 ?_
        refine ck_top (y := (nI (300 * b))) (pk_mul _ _) ?_
        refine lv_bipush (v := (nI 60)) hx hb dX11_takes_31 (by decide) ?_
        refine lv_iload_n hx hb dX11_takes_33 rfl (lv_at hl 4 rfl) ?_
        refine lv_imul hx hb dX11_takes_34 ?_
        refine ck_top (y := (nI (60 * p))) (pk_mul _ _) ?_
        refine lv_iadd hx hb dX11_takes_35 ?_
        refine ck_top (y := (nI (300 * b + (60 * p)))) (nI_add _ _) ?_
        refine lv_iload_n hx hb dX11_takes_36 rfl (lv_at hl 5 rfl) ?_
        refine ck_ifeq (b := false) (tgt := 50) hx hb dX11_takes_37 (by decide) (fun cz_2 => ?_) (fun cz_2 => absurd cz_2 (by decide))
        refine lv_iload hx hb dX11_takes_50 (lv_at hl 0 rfl) ?_
        refine lv_iadd hx hb dX11_takes_52 ?_
        refine ck_top (y := (nI (300 * b + (60 * p) + k))) (nI_add _ _) ?_
        refine ck_iald hx hb hE hP 2 rfl (by omega) (by decide) dX11_takes_53 ?_
        refine ck_top (y := (nI ((w p).getD k 0))) ((congrArg bk (by omega)).trans (hp4 k (by omega))) ?_
        refine lv_istore (lv' := [(6, .int (nI ((w p).getD k 0))), (5, .int (nI k)), (4, .int (nI ((w p).length))), (0, .ref mm), (1, .int (nI b)), (2, .int (nI p)), (3, .int (b2i false))]) hx hb dX11_takes_54 hl (by decide) rfl (fun ls hl => ?_)
        refine lv_aload_n hx hb dX11_takes_56 rfl (lv_at hl 3 rfl) ?_
        refine lv_iload_n hx hb dX11_takes_57 rfl (lv_at hl 6 rfl) ?_
        refine ck_ifeq (b := false) (tgt := 69) hx hb dX11_takes_58 (by decide) (fun cz_3 => ?_) (fun cz_3 => absurd cz_3 (by decide))
        refine lv_iload hx hb dX11_takes_69 (lv_at hl 0 rfl) ?_
        refine ck_Vv (As := [.int (nI ((w p).getD k 0))]) (rest := []) (wr := [(al, .inl (N.2 0, 25, .inl lo)), (aw, .inl (N.2 0, 1500, .inl bk))]) C0 hP hD hS (c_X11_one l N mm an ak ab az as_ ae ao ar aw al am af ac ke kn fd md1 rr ((w p).getD k 0) hjr (by rw [hrr]; exact mul_lt h20 (L20_take (ckDir_lt hp3) k)) (L20_getD hp3 (by omega)) (by have z1 := mul_len ((ckDir false (w p)).take k) r; have z2 := take_len (ckDir false (w p)) k; rw [hrr]; omega)) myX11_one k4_202 ⟨Nat.le_of_ble_eq_true rfl, Nat.le_of_ble_eq_true rfl⟩ [0, 3] [1, 2] ⟨⟨rfl, rfl⟩, by decide, by decide, by decide⟩ 0 rfl rfl rfl rfl hl.1 rfl (Nat.le_of_ble_eq_true rfl) dX11_takes_71 ⟨Nat.le_of_ble_eq_true rfl, Nat.le_of_ble_eq_true rfl⟩ (fun u0 H locs hw0 hP hD hS => ?_)
        obtain ⟨md2, rfl⟩ : ∃ z, z = u0 := ⟨_, rfl⟩
        have hw_5 : JR md2 (push ((w p).getD k 0) rr) := hw0
        have hP : va_P N.1 vwCl [(al, .inl (N.2 0, 25, .inl lo)), (aw, .inl (N.2 0, 1500, .inl bk)), (mm, .inr (11, [.ref an, .ref ak, .int (nI ke), .int (nI kn), .int fd, .ref ab, .ref az, .ref as_, .ref ae, .ref ao, .ref ar, .ref aw, .ref al, .ref am, .int (nI ((push ((w p).getD k 0) rr).length)), .ref af, .ref ac])), (am, .inl (N.2 0, 200, .inl md2))] H := hP
        have hD : va_D Ag [(al, .inl (N.2 0, 25, .inl lo)), (aw, .inl (N.2 0, 1500, .inl bk)), (mm, .inr (11, [.ref an, .ref ak, .int (nI ke), .int (nI kn), .int fd, .ref ab, .ref az, .ref as_, .ref ae, .ref ao, .ref ar, .ref aw, .ref al, .ref am, .int (nI ((push ((w p).getD k 0) rr).length)), .ref af, .ref ac])), (am, .inl (N.2 0, 200, .inl md2))] := hD
        refine lv_iinc (v := (nI (k + 1))) (lv' := [(5, .int (nI (k + 1))), (6, .int (nI ((w p).getD k 0))), (4, .int (nI ((w p).length))), (0, .ref mm), (1, .int (nI b)), (2, .int (nI p)), (3, .int (b2i false))]) hx hb dX11_takes_74 hl (k := 1) rfl (nI_1 _) (by decide) rfl (fun ls hl => ?_)
        refine lv_goto (tgt := 15) hx hb dX11_takes_77 (by decide) ?_
        exact ih_15 _ (by omega) (k + 1) (push ((w p).getD k 0) rr) md2 rfl (by omega) (by rw [hrr, mul_next (by rw [ckDir_len]; omega)]; rfl) hw_5 _ _ ls (hP.sub [2, 0, 1, 3] rfl) (hD.sub [2, 0, 1, 3] (by decide) rfl) hS (lv_sub hl [0, 2, 3, 4, 5, 6] rfl)
    exact lp_15 _ 0 r md rfl (by omega) rfl hr _ _ ls hP hD hS hl
  · refine lv_aload_n hx hb dX11_takes_0 rfl (lv_at hl 0 rfl) ?_
    refine va_get (ci := 11) (v := .ref al) (C := RX11) (T := TX11) (N := 17) hx hb hg inX11 hown hE.1 hP 0 rfl rfl 12 (by decide) (hg _ k4_22) (fun _ h9 => h9) rfl dX11_takes_1 ?_
    refine lv_iconst (v := (nI 5)) hx hb dX11_takes_4 (by decide) ?_
    refine lv_iload_n hx hb dX11_takes_5 rfl (lv_at hl 1 rfl) ?_
    refine lv_imul hx hb dX11_takes_6 ?_
    refine ck_top (y := (nI (5 * b))) (pk_mul _ _) ?_
    refine lv_iload_n hx hb dX11_takes_7 rfl (lv_at hl 2 rfl) ?_
    refine lv_iadd hx hb dX11_takes_8 ?_
    refine ck_top (y := (nI (5 * b + p))) (nI_add _ _) ?_
    refine ck_iald hx hb hE hP 1 rfl (by omega) (by decide) dX11_takes_9 ?_
    refine ck_top (y := (nI ((w p).length))) hp1 ?_
    refine lv_istore (lv' := [(4, .int (nI ((w p).length))), (0, .ref mm), (1, .int (nI b)), (2, .int (nI p)), (3, .int (b2i true))]) hx hb dX11_takes_10 hl (by decide) rfl (fun ls hl => ?_)
    refine lv_iconst (v := (nI 0)) hx hb dX11_takes_12 (by decide) ?_
    refine lv_istore (lv' := [(5, .int (nI 0)), (4, .int (nI ((w p).length))), (0, .ref mm), (1, .int (nI b)), (2, .int (nI p)), (3, .int (b2i true))]) hx hb dX11_takes_13 hl (by decide) rfl (fun ls hl => ?_)
    have lp_15 : ∀ (dz : Nat) (k : Nat) (rr : List Nat) (md1 : Nat → Int32) (hdz : (w p).length - k = dz) (hk : k ≤ (w p).length) (hrr : rr = mul r ((ckDir true (w p)).take k)) (hjr : JR md1 rr) (H : Heap) (locs : List Loc) (ls : Array Slot), va_P N.1 vwCl [(mm, .inr (11, [.ref an, .ref ak, .int (nI ke), .int (nI kn), .int fd, .ref ab, .ref az, .ref as_, .ref ae, .ref ao, .ref ar, .ref aw, .ref al, .ref am, .int (nI rr.length), .ref af, .ref ac])), (al, .inl (N.2 0, 25, .inl lo)), (aw, .inl (N.2 0, 1500, .inl bk)), (am, .inl (N.2 0, 200, .inl md1))] H → va_D Ag [(mm, .inr (11, [.ref an, .ref ak, .int (nI ke), .int (nI kn), .int fd, .ref ab, .ref az, .ref as_, .ref ae, .ref ao, .ref ar, .ref aw, .ref al, .ref am, .int (nI rr.length), .ref af, .ref ac])), (al, .inl (N.2 0, 25, .inl lo)), (aw, .inl (N.2 0, 1500, .inl bk)), (am, .inl (N.2 0, 200, .inl md1))] → va_S Ag sg.heap H locs → lv_has ls 7 [(5, .int (nI k)), (4, .int (nI ((w p).length))), (0, .ref mm), (1, .int (nI b)), (2, .int (nI p)), (3, .int (b2i true))] → W pg l eg { frames := 4, cells := 0, slots := 0, locals := 101 } sg mg ([.ref mm, .int (nI b), .int (nI p), .int (b2i true)]).toArray blw mth cg H locs 0 0 (ckQv N Ag blw sg ([.ref mm, .int (nI b), .int (nI p), .int (b2i true)]).toArray { frames := 4, cells := 0, slots := 0, locals := 101 } (fun (u : (Nat → Int32)) => JR u (mul r (ckDir true (w p)))) (fun (u : (Nat → Int32)) => [(mm, .inr (11, [.ref an, .ref ak, .int (nI ke), .int (nI kn), .int fd, .ref ab, .ref az, .ref as_, .ref ae, .ref ao, .ref ar, .ref aw, .ref al, .ref am, .int (nI ((mul r (ckDir true (w p))).length)), .ref af, .ref ac])), (al, .inl (N.2 0, 25, .inl lo)), (aw, .inl (N.2 0, 1500, .inl bk)), (am, .inl (N.2 0, 200, .inl u))])) (F0 mg 15 ls []) := by
      intro dz
      induction dz using Nat.strongRecOn with
      | _ dz ih_15 =>
        intro k rr md1 hdz hk hrr hjr H locs ls hP hD hS hl
        subst hdz
        refine lv_iload hx hb dX11_takes_15 (lv_at hl 0 rfl) ?_
        refine lv_iload hx hb dX11_takes_17 (lv_at hl 1 rfl) ?_
        refine ck_ic_ge (tgt := 80) hx hb dX11_takes_19 (by decide) (by omega) (by omega) (fun cz_6 => ?_) (fun cz_6 => ?_)
        · have hrr2 : rr = mul r (ckDir true (w p)) := by rw [hrr, (show k = (w p).length by omega), ← ckDir_len true (w p), List.take_length]
          rw [hrr2] at hP hD hjr
          exact ck_vret hx hb hrt hlk (md1) hjr hP hD hS ⟨Nat.le_of_ble_eq_true rfl, Nat.le_of_ble_eq_true rfl⟩ dX11_takes_80
        refine lv_aload_n hx hb dX11_takes_22 rfl (lv_at hl 2 rfl) ?_
        refine va_get (ci := 11) (v := .ref aw) (C := RX11) (T := TX11) (N := 17) hx hb hg inX11 hown hE.1 hP 0 rfl rfl 11 (by decide) (hg _ k4_21) (fun _ h9 => h9) rfl dX11_takes_23 ?_
        refine lv_sipush (v := (nI 300)) hx hb dX11_takes_26 (by decide) ?_
        refine lv_iload_n hx hb dX11_takes_29 rfl (lv_at hl 3 rfl) ?_
        refine lv_imul hx hb dX11_takes_30 ?_
        refine ck_top (y := (nI (300 * b))) (pk_mul _ _) ?_
        refine lv_bipush (v := (nI 60)) hx hb dX11_takes_31 (by decide) ?_
        refine lv_iload_n hx hb dX11_takes_33 rfl (lv_at hl 4 rfl) ?_
        refine lv_imul hx hb dX11_takes_34 ?_
        refine ck_top (y := (nI (60 * p))) (pk_mul _ _) ?_
        refine lv_iadd hx hb dX11_takes_35 ?_
        refine ck_top (y := (nI (300 * b + (60 * p)))) (nI_add _ _) ?_
        refine lv_iload_n hx hb dX11_takes_36 rfl (lv_at hl 5 rfl) ?_
        refine ck_ifeq (b := true) (tgt := 50) hx hb dX11_takes_37 (by decide) (fun cz_7 => absurd cz_7 (by decide)) (fun cz_7 => ?_)
        refine lv_iload hx hb dX11_takes_40 (lv_at hl 1 rfl) ?_
        refine lv_iconst (v := (nI 1)) hx hb dX11_takes_42 (by decide) ?_
        refine lv_isub hx hb dX11_takes_43 ?_
        refine ck_top (y := (nI ((w p).length - 1))) (pk_sub (by omega)) ?_
        refine lv_iload hx hb dX11_takes_44 (lv_at hl 0 rfl) ?_
        refine lv_isub hx hb dX11_takes_46 ?_
        refine ck_top (y := (nI ((w p).length - 1 - k))) (pk_sub (by omega)) ?_
        refine lv_goto (tgt := 52) hx hb dX11_takes_47 (by decide) ?_
        refine lv_iadd hx hb dX11_takes_52 ?_
        refine ck_top (y := (nI (300 * b + (60 * p) + ((w p).length - 1 - k)))) (nI_add _ _) ?_
        refine ck_iald hx hb hE hP 2 rfl (by omega) (by decide) dX11_takes_53 ?_
        refine ck_top (y := (nI ((w p).getD ((w p).length - 1 - k) 0))) ((congrArg bk (by omega)).trans (hp4 ((w p).length - 1 - k) (by omega))) ?_
        refine lv_istore (lv' := [(6, .int (nI ((w p).getD ((w p).length - 1 - k) 0))), (5, .int (nI k)), (4, .int (nI ((w p).length))), (0, .ref mm), (1, .int (nI b)), (2, .int (nI p)), (3, .int (b2i true))]) hx hb dX11_takes_54 hl (by decide) rfl (fun ls hl => ?_)
        refine lv_aload_n hx hb dX11_takes_56 rfl (lv_at hl 3 rfl) ?_
        refine lv_iload_n hx hb dX11_takes_57 rfl (lv_at hl 6 rfl) ?_
        refine ck_ifeq (b := true) (tgt := 69) hx hb dX11_takes_58 (by decide) (fun cz_8 => absurd cz_8 (by decide)) (fun cz_8 => ?_)
        refine lv_iload hx hb dX11_takes_61 (lv_at hl 0 rfl) ?_
        refine ck_Si (As := [.int (nI ((w p).getD ((w p).length - 1 - k) 0))]) (rest := [.ref mm]) (wr := [(mm, .inr (11, [.ref an, .ref ak, .int (nI ke), .int (nI kn), .int fd, .ref ab, .ref az, .ref as_, .ref ae, .ref ao, .ref ar, .ref aw, .ref al, .ref am, .int (nI rr.length), .ref af, .ref ac])), (al, .inl (N.2 0, 25, .inl lo)), (aw, .inl (N.2 0, 1500, .inl bk)), (am, .inl (N.2 0, 200, .inl md1))]) C0 hP hD hS (c_X11_turned l N ((w p).getD ((w p).length - 1 - k) 0) (L20_getD hp3 (by omega))) myX11_turned k4_199 ⟨Nat.le_of_ble_eq_true rfl, Nat.le_of_ble_eq_true rfl⟩ [] [0, 1, 2, 3] ⟨⟨rfl, rfl⟩, by decide, by decide, by decide⟩ rfl hl.1 rfl (Nat.le_of_ble_eq_true rfl) dX11_takes_63 ⟨Nat.le_of_ble_eq_true rfl, Nat.le_of_ble_eq_true rfl⟩ (fun r_9 u0 H locs hw0 hP hD hS => ?_)
        have hw_10 : r_9 = (nI (ckT ((w p).getD ((w p).length - 1 - k) 0))) := hw0
        subst hw_10
        have hP : va_P N.1 vwCl [(mm, .inr (11, [.ref an, .ref ak, .int (nI ke), .int (nI kn), .int fd, .ref ab, .ref az, .ref as_, .ref ae, .ref ao, .ref ar, .ref aw, .ref al, .ref am, .int (nI rr.length), .ref af, .ref ac])), (al, .inl (N.2 0, 25, .inl lo)), (aw, .inl (N.2 0, 1500, .inl bk)), (am, .inl (N.2 0, 200, .inl md1))] H := hP
        have hD : va_D Ag [(mm, .inr (11, [.ref an, .ref ak, .int (nI ke), .int (nI kn), .int fd, .ref ab, .ref az, .ref as_, .ref ae, .ref ao, .ref ar, .ref aw, .ref al, .ref am, .int (nI rr.length), .ref af, .ref ac])), (al, .inl (N.2 0, 25, .inl lo)), (aw, .inl (N.2 0, 1500, .inl bk)), (am, .inl (N.2 0, 200, .inl md1))] := hD
        refine lv_goto (tgt := 71) hx hb dX11_takes_66 (by decide) ?_
        refine ck_Vv (As := [.int (nI (ckT ((w p).getD ((w p).length - 1 - k) 0)))]) (rest := []) (wr := [(al, .inl (N.2 0, 25, .inl lo)), (aw, .inl (N.2 0, 1500, .inl bk))]) C0 hP hD hS (c_X11_one l N mm an ak ab az as_ ae ao ar aw al am af ac ke kn fd md1 rr (ckT ((w p).getD ((w p).length - 1 - k) 0)) hjr (by rw [hrr]; exact mul_lt h20 (L20_take (ckDir_lt hp3) k)) (ckT_lt (L20_getD hp3 (by omega))) (by have z1 := mul_len ((ckDir true (w p)).take k) r; have z2 := take_len (ckDir true (w p)) k; rw [hrr]; omega)) myX11_one k4_202 ⟨Nat.le_of_ble_eq_true rfl, Nat.le_of_ble_eq_true rfl⟩ [0, 3] [1, 2] ⟨⟨rfl, rfl⟩, by decide, by decide, by decide⟩ 0 rfl rfl rfl rfl hl.1 rfl (Nat.le_of_ble_eq_true rfl) dX11_takes_71 ⟨Nat.le_of_ble_eq_true rfl, Nat.le_of_ble_eq_true rfl⟩ (fun u0 H locs hw0 hP hD hS => ?_)
        obtain ⟨md2, rfl⟩ : ∃ z, z = u0 := ⟨_, rfl⟩
        have hw_12 : JR md2 (push (ckT ((w p).getD ((w p).length - 1 - k) 0)) rr) := hw0
        have hP : va_P N.1 vwCl [(al, .inl (N.2 0, 25, .inl lo)), (aw, .inl (N.2 0, 1500, .inl bk)), (mm, .inr (11, [.ref an, .ref ak, .int (nI ke), .int (nI kn), .int fd, .ref ab, .ref az, .ref as_, .ref ae, .ref ao, .ref ar, .ref aw, .ref al, .ref am, .int (nI ((push (ckT ((w p).getD ((w p).length - 1 - k) 0)) rr).length)), .ref af, .ref ac])), (am, .inl (N.2 0, 200, .inl md2))] H := hP
        have hD : va_D Ag [(al, .inl (N.2 0, 25, .inl lo)), (aw, .inl (N.2 0, 1500, .inl bk)), (mm, .inr (11, [.ref an, .ref ak, .int (nI ke), .int (nI kn), .int fd, .ref ab, .ref az, .ref as_, .ref ae, .ref ao, .ref ar, .ref aw, .ref al, .ref am, .int (nI ((push (ckT ((w p).getD ((w p).length - 1 - k) 0)) rr).length)), .ref af, .ref ac])), (am, .inl (N.2 0, 200, .inl md2))] := hD
        refine lv_iinc (v := (nI (k + 1))) (lv' := [(5, .int (nI (k + 1))), (6, .int (nI ((w p).getD ((w p).length - 1 - k) 0))), (4, .int (nI ((w p).length))), (0, .ref mm), (1, .int (nI b)), (2, .int (nI p)), (3, .int (b2i true))]) hx hb dX11_takes_74 hl (k := 1) rfl (nI_1 _) (by decide) rfl (fun ls hl => ?_)
        refine lv_goto (tgt := 15) hx hb dX11_takes_77 (by decide) ?_
        exact ih_15 _ (by omega) (k + 1) (push (ckT ((w p).getD ((w p).length - 1 - k) 0)) rr) md2 rfl (by omega) (by rw [hrr, mul_next (by rw [ckDir_len]; omega), show (ckDir true (w p)).getD k 0 = _ from turnW_getD (by omega)]) hw_12 _ _ ls (hP.sub [2, 0, 1, 3] rfl) (hD.sub [2, 0, 1, 3] (by decide) rfl) hS (lv_sub hl [0, 2, 3, 4, 5, 6] rfl)
    exact lp_15 _ 0 r md rfl (by omega) rfl hr _ _ ls hP hD hS hl
set_option maxHeartbeats 4000000 in
set_option maxRecDepth 100000 in
/-- X11_lays -/
theorem c_X11_lays (l : Launch) (N : ckN) (mm : Nat) (an : Nat) (ak : Nat) (ab : Nat) (az : Nat) (as_ : Nat) (ae : Nat) (ao : Nat) (ar : Nat) (aw : Nat) (al : Nat) (am : Nat) (af : Nat) (ac : Nat) (ke : Nat) (kn : Nat) (fd : Int32) (lo : Nat → Int32) (bk : Nat → Int32) (md : Nat → Int32) (rk : List Nat) (b : Nat) (p : Nat) (hb5 : b < 5) (hp : p < 5) (hc : rk.length ≤ 200) : ckI l yX11_lays cX11_lays 4 (some FieldType.boolean) { frames := 2, cells := 0, slots := 0, locals := 60 } N [.ref mm, .int (nI b), .int (nI p)] [(mm, .inr (11, [.ref an, .ref ak, .int (nI ke), .int (nI kn), .int fd, .ref ab, .ref az, .ref as_, .ref ae, .ref ao, .ref ar, .ref aw, .ref al, .ref am, .int (nI rk.length), .ref af, .ref ac])), (al, .inl (N.2 0, 25, .inl lo)), (aw, .inl (N.2 0, 1500, .inl bk)), (am, .inl (N.2 0, 200, .inl md))] (fun (r : Int32) (u : (Nat → Int32) × (Nat → Int32)) => (r = (b2i (decide (rk.length ≤ 60)))) ∧ ((rk.length ≤ 60 → u.1 = upd lo (5 * b + p) (nI rk.length) ∧ u.2 = guT bk (300 * b + 60 * p) md rk.length) ∧ (¬ rk.length ≤ 60 → u.1 = lo ∧ u.2 = bk))) (fun (u : (Nat → Int32) × (Nat → Int32)) => [(mm, .inr (11, [.ref an, .ref ak, .int (nI ke), .int (nI kn), .int fd, .ref ab, .ref az, .ref as_, .ref ae, .ref ao, .ref ar, .ref aw, .ref al, .ref am, .int (nI rk.length), .ref af, .ref ac])), (al, .inl (N.2 0, 25, .inl u.1)), (aw, .inl (N.2 0, 1500, .inl u.2)), (am, .inl (N.2 0, 200, .inl md))]) := by
  refine ckI.of (by decide) (Nat.le_of_ble_eq_true rfl) ?_
  intro pg eg sg mg blw mth cg Ag ls hx hb hrt hml hown hlk hin hg hE hA hP hD hS hl
  have hown : sg.vm.findClass RX11 = some mg.cls := hown
  have hl : lv_has ls 4 [(0, .ref mm), (1, .int (nI b)), (2, .int (nI p))] := hl
  have C0 : ckC pg sg mg ([.ref mm, .int (nI b), .int (nI p)]).toArray cg cX11_lays 4 RX11 N Ag := ⟨⟨hx, hb, hml, hown, hg⟩, hE, hA⟩
  generalize hHe : sg.heap = H at hP
  have hS : va_S Ag sg.heap H [] := hHe ▸ hS
  refine lv_aload_n hx hb dX11_lays_0 rfl (lv_at hl 0 rfl) ?_
  refine va_get (ci := 11) (v := .int (nI rk.length)) (C := RX11) (T := TX11) (N := 17) hx hb hg inX11 hown hE.1 hP 0 rfl rfl 14 (by decide) (hg _ k4_24) (fun _ h9 => h9) rfl dX11_lays_1 ?_
  refine lv_bipush (v := (nI 60)) hx hb dX11_lays_4 (by decide) ?_
  refine ck_ic_le (tgt := 11) hx hb dX11_lays_6 (by decide) (by omega) (by omega) (fun cz_1 => ?_) (fun cz_1 => ?_)
  · refine lv_aload_n hx hb dX11_lays_11 rfl (lv_at hl 0 rfl) ?_
    refine va_get (ci := 11) (v := .ref al) (C := RX11) (T := TX11) (N := 17) hx hb hg inX11 hown hE.1 hP 0 rfl rfl 12 (by decide) (hg _ k4_22) (fun _ h9 => h9) rfl dX11_lays_12 ?_
    refine lv_iconst (v := (nI 5)) hx hb dX11_lays_15 (by decide) ?_
    refine lv_iload_n hx hb dX11_lays_16 rfl (lv_at hl 1 rfl) ?_
    refine lv_imul hx hb dX11_lays_17 ?_
    refine ck_top (y := (nI (5 * b))) (pk_mul _ _) ?_
    refine lv_iload_n hx hb dX11_lays_18 rfl (lv_at hl 2 rfl) ?_
    refine lv_iadd hx hb dX11_lays_19 ?_
    refine ck_top (y := (nI (5 * b + p))) (nI_add _ _) ?_
    refine lv_aload_n hx hb dX11_lays_20 rfl (lv_at hl 0 rfl) ?_
    refine va_get (ci := 11) (v := .int (nI rk.length)) (C := RX11) (T := TX11) (N := 17) hx hb hg inX11 hown hE.1 hP 0 rfl rfl 14 (by decide) (hg _ k4_24) (fun _ h9 => h9) rfl dX11_lays_21 ?_
    refine ck_iast hx hb hE hP hD hS 1 rfl (by omega) (by decide) dX11_lays_24 (ws1 := [(mm, .inr (11, [.ref an, .ref ak, .int (nI ke), .int (nI kn), .int fd, .ref ab, .ref az, .ref as_, .ref ae, .ref ao, .ref ar, .ref aw, .ref al, .ref am, .int (nI rk.length), .ref af, .ref ac])), (al, .inl (N.2 0, 25, .inl (upd lo (5 * b + p) (nI rk.length)))), (aw, .inl (N.2 0, 1500, .inl bk)), (am, .inl (N.2 0, 200, .inl md))]) rfl (fun H locs hP hD hS => ?_)
    refine lv_iconst (v := (nI 0)) hx hb dX11_lays_25 (by decide) ?_
    refine lv_istore_n (lv' := [(3, .int (nI 0)), (0, .ref mm), (1, .int (nI b)), (2, .int (nI p))]) hx hb dX11_lays_26 rfl hl (by decide) rfl (fun ls hl => ?_)
    have lp_27 : ∀ (dz : Nat) (k : Nat) (bk1 : Nat → Int32) (hdz : rk.length - k = dz) (hk : k ≤ rk.length) (h60 : rk.length ≤ 60) (hbk : bk1 = guT bk (300 * b + 60 * p) md k) (H : Heap) (locs : List Loc) (ls : Array Slot), va_P N.1 vwCl [(mm, .inr (11, [.ref an, .ref ak, .int (nI ke), .int (nI kn), .int fd, .ref ab, .ref az, .ref as_, .ref ae, .ref ao, .ref ar, .ref aw, .ref al, .ref am, .int (nI rk.length), .ref af, .ref ac])), (al, .inl (N.2 0, 25, .inl (upd lo (5 * b + p) (nI rk.length)))), (aw, .inl (N.2 0, 1500, .inl bk1)), (am, .inl (N.2 0, 200, .inl md))] H → va_D Ag [(mm, .inr (11, [.ref an, .ref ak, .int (nI ke), .int (nI kn), .int fd, .ref ab, .ref az, .ref as_, .ref ae, .ref ao, .ref ar, .ref aw, .ref al, .ref am, .int (nI rk.length), .ref af, .ref ac])), (al, .inl (N.2 0, 25, .inl (upd lo (5 * b + p) (nI rk.length)))), (aw, .inl (N.2 0, 1500, .inl bk1)), (am, .inl (N.2 0, 200, .inl md))] → va_S Ag sg.heap H locs → lv_has ls 4 [(3, .int (nI k)), (0, .ref mm), (1, .int (nI b)), (2, .int (nI p))] → W pg l eg { frames := 2, cells := 0, slots := 0, locals := 60 } sg mg ([.ref mm, .int (nI b), .int (nI p)]).toArray blw mth cg H locs 0 0 (ckQi N Ag blw sg ([.ref mm, .int (nI b), .int (nI p)]).toArray { frames := 2, cells := 0, slots := 0, locals := 60 } (fun (r : Int32) (u : (Nat → Int32) × (Nat → Int32)) => (r = (b2i (decide (rk.length ≤ 60)))) ∧ ((rk.length ≤ 60 → u.1 = upd lo (5 * b + p) (nI rk.length) ∧ u.2 = guT bk (300 * b + 60 * p) md rk.length) ∧ (¬ rk.length ≤ 60 → u.1 = lo ∧ u.2 = bk))) (fun (u : (Nat → Int32) × (Nat → Int32)) => [(mm, .inr (11, [.ref an, .ref ak, .int (nI ke), .int (nI kn), .int fd, .ref ab, .ref az, .ref as_, .ref ae, .ref ao, .ref ar, .ref aw, .ref al, .ref am, .int (nI rk.length), .ref af, .ref ac])), (al, .inl (N.2 0, 25, .inl u.1)), (aw, .inl (N.2 0, 1500, .inl u.2)), (am, .inl (N.2 0, 200, .inl md))])) (F0 mg 27 ls []) := by
      intro dz
      induction dz using Nat.strongRecOn with
      | _ dz ih_27 =>
        intro k bk1 hdz hk h60 hbk H locs ls hP hD hS hl
        subst hdz
        refine lv_iload_n hx hb dX11_lays_27 rfl (lv_at hl 0 rfl) ?_
        refine lv_aload_n hx hb dX11_lays_28 rfl (lv_at hl 1 rfl) ?_
        refine va_get (ci := 11) (v := .int (nI rk.length)) (C := RX11) (T := TX11) (N := 17) hx hb hg inX11 hown hE.1 hP 0 rfl rfl 14 (by decide) (hg _ k4_24) (fun _ h9 => h9) rfl dX11_lays_29 ?_
        refine ck_ic_ge (tgt := 64) hx hb dX11_lays_32 (by decide) (by omega) (by omega) (fun cz_2 => ?_) (fun cz_2 => ?_)
        · refine lv_iconst (v := (nI 1)) hx hb dX11_lays_64 (by decide) ?_
          refine ck_top (y := (b2i true)) (by decide) ?_
          exact ck_zret (b := true) hx hb hrt hlk ⟨upd lo (5 * b + p) (nI rk.length), bk1⟩ ⟨congrArg b2i (Eq.symm (decide_eq_true h60)), fun _ => ⟨rfl, by rw [hbk, (show k = rk.length by omega)]⟩, fun q => absurd h60 q⟩ hP hD hS ⟨Nat.le_of_ble_eq_true rfl, Nat.le_of_ble_eq_true rfl⟩ dX11_lays_65
        refine lv_aload_n hx hb dX11_lays_35 rfl (lv_at hl 1 rfl) ?_
        refine va_get (ci := 11) (v := .ref aw) (C := RX11) (T := TX11) (N := 17) hx hb hg inX11 hown hE.1 hP 0 rfl rfl 11 (by decide) (hg _ k4_21) (fun _ h9 => h9) rfl dX11_lays_36 ?_
        refine lv_sipush (v := (nI 300)) hx hb dX11_lays_39 (by decide) ?_
        refine lv_iload_n hx hb dX11_lays_42 rfl (lv_at hl 2 rfl) ?_
        refine lv_imul hx hb dX11_lays_43 ?_
        refine ck_top (y := (nI (300 * b))) (pk_mul _ _) ?_
        refine lv_bipush (v := (nI 60)) hx hb dX11_lays_44 (by decide) ?_
        refine lv_iload_n hx hb dX11_lays_46 rfl (lv_at hl 3 rfl) ?_
        refine lv_imul hx hb dX11_lays_47 ?_
        refine ck_top (y := (nI (60 * p))) (pk_mul _ _) ?_
        refine lv_iadd hx hb dX11_lays_48 ?_
        refine ck_top (y := (nI (300 * b + (60 * p)))) (nI_add _ _) ?_
        refine lv_iload_n hx hb dX11_lays_49 rfl (lv_at hl 0 rfl) ?_
        refine lv_iadd hx hb dX11_lays_50 ?_
        refine ck_top (y := (nI (300 * b + (60 * p) + k))) (nI_add _ _) ?_
        refine lv_aload_n hx hb dX11_lays_51 rfl (lv_at hl 1 rfl) ?_
        refine va_get (ci := 11) (v := .ref am) (C := RX11) (T := TX11) (N := 17) hx hb hg inX11 hown hE.1 hP 0 rfl rfl 13 (by decide) (hg _ k4_23) (fun _ h9 => h9) rfl dX11_lays_52 ?_
        refine lv_iload_n hx hb dX11_lays_55 rfl (lv_at hl 0 rfl) ?_
        refine ck_iald hx hb hE hP 3 rfl (by omega) (by decide) dX11_lays_56 ?_
        refine ck_iast hx hb hE hP hD hS 2 rfl (by omega) (by decide) dX11_lays_57 (ws1 := [(mm, .inr (11, [.ref an, .ref ak, .int (nI ke), .int (nI kn), .int fd, .ref ab, .ref az, .ref as_, .ref ae, .ref ao, .ref ar, .ref aw, .ref al, .ref am, .int (nI rk.length), .ref af, .ref ac])), (al, .inl (N.2 0, 25, .inl (upd lo (5 * b + p) (nI rk.length)))), (aw, .inl (N.2 0, 1500, .inl (upd bk1 (300 * b + (60 * p) + k) (md k)))), (am, .inl (N.2 0, 200, .inl md))]) rfl (fun H locs hP hD hS => ?_)
        refine lv_iinc (v := (nI (k + 1))) (lv' := [(3, .int (nI (k + 1))), (0, .ref mm), (1, .int (nI b)), (2, .int (nI p))]) hx hb dX11_lays_58 hl (k := 0) rfl (nI_1 _) (by decide) rfl (fun ls hl => ?_)
        refine lv_goto (tgt := 27) hx hb dX11_lays_61 (by decide) ?_
        exact ih_27 _ (by omega) (k + 1) (upd bk1 (300 * b + (60 * p) + k) (md k)) rfl (by omega) h60 (by rw [hbk, guT_s]) _ _ ls hP hD hS hl
    exact lp_27 _ 0 bk rfl (by omega) (by omega) (guT_0 _ _ _).symm _ _ ls hP hD hS hl
  refine lv_iconst (v := (nI 0)) hx hb dX11_lays_9 (by decide) ?_
  refine ck_top (y := (b2i false)) (by decide) ?_
  exact ck_zret (b := false) hx hb hrt hlk ⟨lo, bk⟩ ⟨congrArg b2i (Eq.symm (decide_eq_false (by omega))), fun q => absurd q (by omega), fun _ => ⟨rfl, rfl⟩⟩ hP hD hS ⟨Nat.le_of_ble_eq_true rfl, Nat.le_of_ble_eq_true rfl⟩ dX11_lays_10
theorem kp_lt {n p : Nat} {fr : Bool} (h : p + 1 < n) : kp p fr < n := by unfold kp; split <;> omega
theorem step_len {n : Nat} {w : Nat → List Nat} {p : Nat} {fr : Bool} (h : ckGood n w) (hp : p + 1 < n) {q : Nat} (hq : q < n) : (ckStep w p fr q).length ≤ 180 := by
  show (ckMv w p fr _ q).length ≤ 180
  rw [ckMv]
  split
  · rw [List.length_reverse]
    exact ckNew_len _ _ _ (h p (by omega)).2.2 (h (p + 1) hp).2.2
  · split
    · exact Nat.le_trans (h _ (kp_lt hp)).2.2 (by decide)
    · exact Nat.le_trans (h q hq).2.2 (by decide)
theorem step_long {n : Nat} {w : Nat → List Nat} {p : Nat} {fr : Bool} (h : ckGood n w) (hp : p + 1 < n) {q : Nat} (hq : q < n) (hz : ¬ (ckStep w p fr q).reverse.length ≤ 60) : ckOk w p fr = false := by
  rw [List.length_reverse] at hz
  refine decide_eq_false (fun hl => hz ?_)
  show (ckMv w p fr _ q).length ≤ 60
  rw [ckMv]
  split
  · rw [List.length_reverse]; exact hl
  · split
    · exact (h _ (kp_lt hp)).2.2
    · exact (h q hq).2.2
theorem step_fine {n : Nat} {w : Nat → List Nat} {p : Nat} {fr : Bool} (h : (ckStep w p fr (kp p fr)).reverse.length ≤ 60) : ckOk w p fr = true := by
  rw [ckStep_kp, List.reverse_reverse] at h
  exact decide_eq_true h
theorem step_lt {n : Nat} {w : Nat → List Nat} {p : Nat} {fr : Bool} (h : ckGood n w) (hp : p + 1 < n) {q : Nat} (hq : q < n) : L20 (ckStep w p fr q) := by
  show L20 (ckMv w p fr _ q)
  rw [ckMv]
  split
  · exact L20_rev (ckNew_lt (h p (by omega)).2.1 (h (p + 1) hp).2.1 fr)
  · split
    · exact (h _ (kp_lt hp)).2.1
    · exact (h q hq).2.1
set_option maxHeartbeats 4000000 in
set_option maxRecDepth 100000 in
/-- X11_walks -/
theorem c_X11_walks (l : Launch) (N : ckN) (mm : Nat) (an : Nat) (ak : Nat) (ab : Nat) (az : Nat) (as_ : Nat) (ae : Nat) (ao : Nat) (ar : Nat) (aw : Nat) (al : Nat) (am : Nat) (af : Nat) (ac : Nat) (ke : Nat) (kn : Nat) (fd : Int32) (mn : Nat) (lo : Nat → Int32) (bk : Nat → Int32) (md : Nat → Int32) (w : Nat → List Nat) (b : Nat) (t : Nat) (n : Nat) (pl : Nat) (fr : Bool) (hB : mB lo bk b n w) (hgd : ckGood n w) (hb5 : b < 5) (ht5 : t < 5) (hbt : b ≠ t) (hn : n ≤ 5) (hp1 : pl + 1 < n) : ckI l yX11_walks cX11_walks 7 (some FieldType.boolean) { frames := 5, cells := 0, slots := 0, locals := 127 } N [.ref mm, .int (nI b), .int (nI t), .int (nI n), .int (nI pl), .int (b2i fr)] [(mm, .inr (11, [.ref an, .ref ak, .int (nI ke), .int (nI kn), .int fd, .ref ab, .ref az, .ref as_, .ref ae, .ref ao, .ref ar, .ref aw, .ref al, .ref am, .int (nI mn), .ref af, .ref ac])), (al, .inl (N.2 0, 25, .inl lo)), (aw, .inl (N.2 0, 1500, .inl bk)), (am, .inl (N.2 0, 200, .inl md))] (fun (r : Int32) (u : (Nat → Int32) × (Nat → Int32) × (Nat → Int32) × Nat) => (r = (b2i (ckOk w pl fr))) ∧ ((ckOk w pl fr = true → mB u.1 u.2.1 t n (ckStep w pl fr)) ∧ (∀ j, ¬ (5 * t ≤ j ∧ j < 5 * t + 5) → u.1 j = lo j) ∧ (∀ j, ¬ (300 * t ≤ j ∧ j < 300 * t + 300) → u.2.1 j = bk j))) (fun (u : (Nat → Int32) × (Nat → Int32) × (Nat → Int32) × Nat) => [(mm, .inr (11, [.ref an, .ref ak, .int (nI ke), .int (nI kn), .int fd, .ref ab, .ref az, .ref as_, .ref ae, .ref ao, .ref ar, .ref aw, .ref al, .ref am, .int (nI u.2.2.2), .ref af, .ref ac])), (al, .inl (N.2 0, 25, .inl u.1)), (aw, .inl (N.2 0, 1500, .inl u.2.1)), (am, .inl (N.2 0, 200, .inl u.2.2.1))]) := by
  refine ckI.of (by decide) (Nat.le_of_ble_eq_true rfl) ?_
  intro pg eg sg mg blw mth cg Ag ls hx hb hrt hml hown hlk hin hg hE hA hP hD hS hl
  have hown : sg.vm.findClass RX11 = some mg.cls := hown
  have hl : lv_has ls 7 [(0, .ref mm), (1, .int (nI b)), (2, .int (nI t)), (3, .int (nI n)), (4, .int (nI pl)), (5, .int (b2i fr))] := hl
  have C0 : ckC pg sg mg ([.ref mm, .int (nI b), .int (nI t), .int (nI n), .int (nI pl), .int (b2i fr)]).toArray cg cX11_walks 7 RX11 N Ag := ⟨⟨hx, hb, hml, hown, hg⟩, hE, hA⟩
  generalize hHe : sg.heap = H at hP
  have hS : va_S Ag sg.heap H [] := hHe ▸ hS
  cases fr
  · refine lv_iconst (v := (nI 0)) hx hb dX11_walks_0 (by decide) ?_
    refine lv_istore (lv' := [(6, .int (nI 0)), (0, .ref mm), (1, .int (nI b)), (2, .int (nI t)), (3, .int (nI n)), (4, .int (nI pl)), (5, .int (b2i false))]) hx hb dX11_walks_1 hl (by decide) rfl (fun ls hl => ?_)
    have lp_3 : ∀ (dz : Nat) (q : Nat) (lo1 : Nat → Int32) (bk1 : Nat → Int32) (md1 : Nat → Int32) (mn1 : Nat) (hdz : n - q = dz) (hq : q ≤ n) (hBt : mB lo1 bk1 t q (ckStep w pl false)) (hok : kp pl false < q → ckOk w pl false = true) (hol : (∀ j, ¬ (5 * t ≤ j ∧ j < 5 * t + 5) → lo1 j = lo j)) (hob : (∀ j, ¬ (300 * t ≤ j ∧ j < 300 * t + 300) → bk1 j = bk j)) (H : Heap) (locs : List Loc) (ls : Array Slot), va_P N.1 vwCl [(mm, .inr (11, [.ref an, .ref ak, .int (nI ke), .int (nI kn), .int fd, .ref ab, .ref az, .ref as_, .ref ae, .ref ao, .ref ar, .ref aw, .ref al, .ref am, .int (nI mn1), .ref af, .ref ac])), (al, .inl (N.2 0, 25, .inl lo1)), (aw, .inl (N.2 0, 1500, .inl bk1)), (am, .inl (N.2 0, 200, .inl md1))] H → va_D Ag [(mm, .inr (11, [.ref an, .ref ak, .int (nI ke), .int (nI kn), .int fd, .ref ab, .ref az, .ref as_, .ref ae, .ref ao, .ref ar, .ref aw, .ref al, .ref am, .int (nI mn1), .ref af, .ref ac])), (al, .inl (N.2 0, 25, .inl lo1)), (aw, .inl (N.2 0, 1500, .inl bk1)), (am, .inl (N.2 0, 200, .inl md1))] → va_S Ag sg.heap H locs → lv_has ls 7 [(6, .int (nI q)), (0, .ref mm), (1, .int (nI b)), (2, .int (nI t)), (3, .int (nI n)), (4, .int (nI pl)), (5, .int (b2i false))] → W pg l eg { frames := 5, cells := 0, slots := 0, locals := 127 } sg mg ([.ref mm, .int (nI b), .int (nI t), .int (nI n), .int (nI pl), .int (b2i false)]).toArray blw mth cg H locs 0 0 (ckQi N Ag blw sg ([.ref mm, .int (nI b), .int (nI t), .int (nI n), .int (nI pl), .int (b2i false)]).toArray { frames := 5, cells := 0, slots := 0, locals := 127 } (fun (r : Int32) (u : (Nat → Int32) × (Nat → Int32) × (Nat → Int32) × Nat) => (r = (b2i (ckOk w pl false))) ∧ ((ckOk w pl false = true → mB u.1 u.2.1 t n (ckStep w pl false)) ∧ (∀ j, ¬ (5 * t ≤ j ∧ j < 5 * t + 5) → u.1 j = lo j) ∧ (∀ j, ¬ (300 * t ≤ j ∧ j < 300 * t + 300) → u.2.1 j = bk j))) (fun (u : (Nat → Int32) × (Nat → Int32) × (Nat → Int32) × Nat) => [(mm, .inr (11, [.ref an, .ref ak, .int (nI ke), .int (nI kn), .int fd, .ref ab, .ref az, .ref as_, .ref ae, .ref ao, .ref ar, .ref aw, .ref al, .ref am, .int (nI u.2.2.2), .ref af, .ref ac])), (al, .inl (N.2 0, 25, .inl u.1)), (aw, .inl (N.2 0, 1500, .inl u.2.1)), (am, .inl (N.2 0, 200, .inl u.2.2.1))])) (F0 mg 3 ls []) := by
      intro dz
      induction dz using Nat.strongRecOn with
      | _ dz ih_3 =>
        intro q lo1 bk1 md1 mn1 hdz hq hBt hok hol hob H locs ls hP hD hS hl
        subst hdz
        refine lv_iload hx hb dX11_walks_3 (lv_at hl 0 rfl) ?_
        refine lv_iload_n hx hb dX11_walks_5 rfl (lv_at hl 4 rfl) ?_
        refine ck_ic_ge (tgt := 148) hx hb dX11_walks_6 (by decide) (by omega) (by omega) (fun cz_1 => ?_) (fun cz_1 => ?_)
        · refine lv_iconst (v := (nI 1)) hx hb dX11_walks_148 (by decide) ?_
          refine ck_top (y := (b2i true)) (by decide) ?_
          exact ck_zret (b := true) hx hb hrt hlk ⟨lo1, bk1, md1, mn1⟩ ⟨congrArg b2i (hok (Nat.lt_of_lt_of_le (kp_lt hp1) (by omega))).symm, fun _ => (by rw [(show q = n by omega)] at hBt; exact hBt), hol, hob⟩ hP hD hS ⟨Nat.le_of_ble_eq_true rfl, Nat.le_of_ble_eq_true rfl⟩ dX11_walks_149
        have hBf : mB lo1 bk1 b n w := mB_keep hB hn hbt hol hob
        have hlen : ∀ q, q < n → (ckStep w pl false q).length ≤ 180 := fun q hq => step_len hgd hp1 hq
        refine lv_aload_n hx hb dX11_walks_9 rfl (lv_at hl 1 rfl) ?_
        refine lv_iconst (v := (nI 0)) hx hb dX11_walks_10 (by decide) ?_
        refine va_put (ci := 11) (v := .int (nI 0)) (C := RX11) (T := TX11) (N := 17) hx hb hg inX11 tyX11 tyX11_ok nmX11 hown hE.1 hP hD hS 0 rfl rfl 14 (by decide) (hg _ k4_24) (fun _ h9 => h9) rfl (tyX11_ok 14 (by decide)) rfl rfl (Nat.le_of_ble_eq_true rfl) dX11_walks_11 (fun H locs hP hD hS => ?_)
        have hP : va_P N.1 vwCl [(mm, .inr (11, [.ref an, .ref ak, .int (nI ke), .int (nI kn), .int fd, .ref ab, .ref az, .ref as_, .ref ae, .ref ao, .ref ar, .ref aw, .ref al, .ref am, .int (nI 0), .ref af, .ref ac])), (al, .inl (N.2 0, 25, .inl lo1)), (aw, .inl (N.2 0, 1500, .inl bk1)), (am, .inl (N.2 0, 200, .inl md1))] H := hP
        have hD : va_D Ag [(mm, .inr (11, [.ref an, .ref ak, .int (nI ke), .int (nI kn), .int fd, .ref ab, .ref az, .ref as_, .ref ae, .ref ao, .ref ar, .ref aw, .ref al, .ref am, .int (nI 0), .ref af, .ref ac])), (al, .inl (N.2 0, 25, .inl lo1)), (aw, .inl (N.2 0, 1500, .inl bk1)), (am, .inl (N.2 0, 200, .inl md1))] := hD
        refine lv_iload hx hb dX11_walks_14 (lv_at hl 0 rfl) ?_
        refine lv_iload hx hb dX11_walks_16 (lv_at hl 5 rfl) ?_
        refine ck_ic_ne (tgt := 72) hx hb dX11_walks_18 (by decide) (by omega) (by omega) (fun cz_2 => ?_) (fun cz_2 => ?_)
        · refine lv_iload hx hb dX11_walks_72 (lv_at hl 0 rfl) ?_
          refine lv_iload hx hb dX11_walks_74 (lv_at hl 5 rfl) ?_
          refine lv_iconst (v := (nI 1)) hx hb dX11_walks_76 (by decide) ?_
          refine lv_iadd hx hb dX11_walks_77 ?_
          refine ck_top (y := (nI (pl + 1))) (nI_add _ _) ?_
          refine ck_ic_ne (tgt := 122) hx hb dX11_walks_78 (by decide) (by omega) (by omega) (fun cz_3 => ?_) (fun cz_3 => ?_)
          · refine lv_aload_n hx hb dX11_walks_122 rfl (lv_at hl 1 rfl) ?_
            refine lv_iload_n hx hb dX11_walks_123 rfl (lv_at hl 2 rfl) ?_
            refine lv_iload hx hb dX11_walks_124 (lv_at hl 0 rfl) ?_
            refine lv_iconst (v := (nI 0)) hx hb dX11_walks_126 (by decide) ?_
            refine ck_Vv (As := [.int (nI b), .int (nI q), .int (b2i false)]) (rest := []) (wr := []) C0 hP hD hS (c_X11_takes l N mm an ak ab az as_ ae ao ar aw al am af ac ke kn fd lo1 bk1 md1 ([]) w n b q false hBf (by omega) (by omega) (by omega) JR_nil L20_nil (by have y0 := (hgd q (by omega)).2.2; show 0 + _ ≤ 200; omega)) myX11_takes k4_195 ⟨Nat.le_of_ble_eq_true rfl, Nat.le_of_ble_eq_true rfl⟩ [0, 1, 2, 3] [] ⟨⟨rfl, rfl⟩, by decide, by decide, by decide⟩ 0 rfl rfl rfl rfl hl.1 rfl (Nat.le_of_ble_eq_true rfl) dX11_walks_127 ⟨Nat.le_of_ble_eq_true rfl, Nat.le_of_ble_eq_true rfl⟩ (fun u0 H locs hw0 hP hD hS => ?_)
            obtain ⟨md2_5, rfl⟩ : ∃ z, z = u0 := ⟨_, rfl⟩
            have hw_6 : JR md2_5 (mul ([]) (ckDir false (w q))) := hw0
            have hP : va_P N.1 vwCl [(mm, .inr (11, [.ref an, .ref ak, .int (nI ke), .int (nI kn), .int fd, .ref ab, .ref az, .ref as_, .ref ae, .ref ao, .ref ar, .ref aw, .ref al, .ref am, .int (nI ((mul ([]) (ckDir false (w q))).length)), .ref af, .ref ac])), (al, .inl (N.2 0, 25, .inl lo1)), (aw, .inl (N.2 0, 1500, .inl bk1)), (am, .inl (N.2 0, 200, .inl md2_5))] H := hP
            have hD : va_D Ag [(mm, .inr (11, [.ref an, .ref ak, .int (nI ke), .int (nI kn), .int fd, .ref ab, .ref az, .ref as_, .ref ae, .ref ao, .ref ar, .ref aw, .ref al, .ref am, .int (nI ((mul ([]) (ckDir false (w q))).length)), .ref af, .ref ac])), (al, .inl (N.2 0, 25, .inl lo1)), (aw, .inl (N.2 0, 1500, .inl bk1)), (am, .inl (N.2 0, 200, .inl md2_5))] := hD
            have hjq_7 := hw_6
            have hrq : mul ([]) (ckDir false (w q)) = (ckStep w pl false q).reverse := by
              rw [ckStep_ne w pl false cz_2 cz_3]; exact wd_rev hgd (by omega)
            have hjx := hjq_7
            rw [hrq] at hP hD hjx
            refine lv_aload_n hx hb dX11_walks_130 rfl (lv_at hl 1 rfl) ?_
            refine lv_iload_n hx hb dX11_walks_131 rfl (lv_at hl 3 rfl) ?_
            refine lv_iload hx hb dX11_walks_132 (lv_at hl 0 rfl) ?_
            refine ck_Vi (As := [.int (nI t), .int (nI q)]) (rest := []) (wr := []) C0 hP hD hS (c_X11_lays l N mm an ak ab az as_ ae ao ar aw al am af ac ke kn fd lo1 bk1 md2_5 ((ckStep w pl false q).reverse) t q (by omega) (by omega) (by have z := hlen q (by omega); rw [List.length_reverse]; omega)) myX11_lays k4_206 ⟨Nat.le_of_ble_eq_true rfl, Nat.le_of_ble_eq_true rfl⟩ [0, 1, 2, 3] [] ⟨⟨rfl, rfl⟩, by decide, by decide, by decide⟩ 0 rfl rfl rfl rfl hl.1 rfl (Nat.le_of_ble_eq_true rfl) dX11_walks_134 ⟨Nat.le_of_ble_eq_true rfl, Nat.le_of_ble_eq_true rfl⟩ (fun r_8 u0 H locs hw0 hP hD hS => ?_)
            obtain ⟨lo2_9, bk2_10⟩ := u0
            have hw_11 : (r_8 = (b2i (decide (((ckStep w pl false q).reverse).length ≤ 60)))) ∧ ((((ckStep w pl false q).reverse).length ≤ 60 → lo2_9 = upd lo1 (5 * t + q) (nI ((ckStep w pl false q).reverse).length) ∧ bk2_10 = guT bk1 (300 * t + 60 * q) md2_5 ((ckStep w pl false q).reverse).length) ∧ (¬ ((ckStep w pl false q).reverse).length ≤ 60 → lo2_9 = lo1 ∧ bk2_10 = bk1)) := hw0
            obtain ⟨hv_12, hw_11⟩ := hw_11
            subst hv_12
            have hP : va_P N.1 vwCl [(mm, .inr (11, [.ref an, .ref ak, .int (nI ke), .int (nI kn), .int fd, .ref ab, .ref az, .ref as_, .ref ae, .ref ao, .ref ar, .ref aw, .ref al, .ref am, .int (nI (((ckStep w pl false q).reverse).length)), .ref af, .ref ac])), (al, .inl (N.2 0, 25, .inl lo2_9)), (aw, .inl (N.2 0, 1500, .inl bk2_10)), (am, .inl (N.2 0, 200, .inl md2_5))] H := hP
            have hD : va_D Ag [(mm, .inr (11, [.ref an, .ref ak, .int (nI ke), .int (nI kn), .int fd, .ref ab, .ref az, .ref as_, .ref ae, .ref ao, .ref ar, .ref aw, .ref al, .ref am, .int (nI (((ckStep w pl false q).reverse).length)), .ref af, .ref ac])), (al, .inl (N.2 0, 25, .inl lo2_9)), (aw, .inl (N.2 0, 1500, .inl bk2_10)), (am, .inl (N.2 0, 200, .inl md2_5))] := hD
            obtain ⟨hla, hlb⟩ := hw_11
            refine ck_ifne (b := decide (((ckStep w pl false q).reverse).length ≤ 60)) (tgt := 142) hx hb dX11_walks_137 (by decide) (fun cz_13 => ?_) (fun cz_13 => ?_)
            · refine lv_iinc (v := (nI (q + 1))) (lv' := [(6, .int (nI (q + 1))), (0, .ref mm), (1, .int (nI b)), (2, .int (nI t)), (3, .int (nI n)), (4, .int (nI pl)), (5, .int (b2i false))]) hx hb dX11_walks_142 hl (k := 0) rfl (nI_1 _) (by decide) rfl (fun ls hl => ?_)
              refine lv_goto (tgt := 3) hx hb dX11_walks_145 (by decide) ?_
              exact ih_3 _ (by omega) (q + 1) lo2_9 bk2_10 md2_5 (((ckStep w pl false q).reverse).length) rfl (by omega) (by obtain ⟨e1, e2⟩ := hla (of_decide_eq_true cz_13); rw [e1, e2]; exact mB_lay hBt (by omega) hjx (of_decide_eq_true cz_13) (L20_rev (step_lt hgd hp1 (by omega))) (List.reverse_reverse _).symm) (fun z => (Nat.lt_or_eq_of_le (Nat.le_of_lt_succ z)).elim hok (fun e => step_fine (n := n) (by rw [e]; exact of_decide_eq_true cz_13))) (by rw [(hla (of_decide_eq_true cz_13)).1]; exact fun j hj => (pk_un (by omega)).trans (hol j hj)) (by rw [(hla (of_decide_eq_true cz_13)).2]; exact fun j hj => (guT_out (by have z := of_decide_eq_true cz_13; omega)).trans (hob j hj)) _ _ ls hP hD hS hl
            refine lv_iconst (v := (nI 0)) hx hb dX11_walks_140 (by decide) ?_
            refine ck_top (y := (b2i false)) (by decide) ?_
            exact ck_zret (b := false) hx hb hrt hlk ⟨lo2_9, bk2_10, md2_5, ((ckStep w pl false q).reverse).length⟩ (by have hz := of_decide_eq_false cz_13; have hno := step_long hgd hp1 (show q < n by omega) hz; exact ⟨congrArg b2i hno.symm, fun z => absurd (hno.symm.trans z) (by decide), by rw [(hlb hz).1]; exact hol, by rw [(hlb hz).2]; exact hob⟩) hP hD hS ⟨Nat.le_of_ble_eq_true rfl, Nat.le_of_ble_eq_true rfl⟩ dX11_walks_141
          refine lv_iload hx hb dX11_walks_81 (lv_at hl 6 rfl) ?_
          refine ck_ifne (b := false) (tgt := 96) hx hb dX11_walks_83 (by decide) (fun cz_14 => absurd cz_14 (by decide)) (fun cz_14 => ?_)
          refine lv_aload_n hx hb dX11_walks_86 rfl (lv_at hl 1 rfl) ?_
          refine lv_iload_n hx hb dX11_walks_87 rfl (lv_at hl 2 rfl) ?_
          refine lv_iload hx hb dX11_walks_88 (lv_at hl 5 rfl) ?_
          refine lv_iconst (v := (nI 1)) hx hb dX11_walks_90 (by decide) ?_
          refine lv_iadd hx hb dX11_walks_91 ?_
          refine ck_top (y := (nI (pl + 1))) (nI_add _ _) ?_
          refine lv_iconst (v := (nI 1)) hx hb dX11_walks_92 (by decide) ?_
          refine ck_Vv (As := [.int (nI b), .int (nI (pl + 1)), .int (b2i true)]) (rest := []) (wr := []) C0 hP hD hS (c_X11_takes l N mm an ak ab az as_ ae ao ar aw al am af ac ke kn fd lo1 bk1 md1 ([]) w n b (pl + 1) true hBf (by omega) (by omega) (by omega) JR_nil L20_nil (by have y0 := (hgd (pl + 1) (by omega)).2.2; show 0 + _ ≤ 200; omega)) myX11_takes k4_195 ⟨Nat.le_of_ble_eq_true rfl, Nat.le_of_ble_eq_true rfl⟩ [0, 1, 2, 3] [] ⟨⟨rfl, rfl⟩, by decide, by decide, by decide⟩ 0 rfl rfl rfl rfl hl.1 rfl (Nat.le_of_ble_eq_true rfl) dX11_walks_93 ⟨Nat.le_of_ble_eq_true rfl, Nat.le_of_ble_eq_true rfl⟩ (fun u0 H locs hw0 hP hD hS => ?_)
          obtain ⟨md2_16, rfl⟩ : ∃ z, z = u0 := ⟨_, rfl⟩
          have hw_17 : JR md2_16 (mul ([]) (ckDir true (w (pl + 1)))) := hw0
          have hP : va_P N.1 vwCl [(mm, .inr (11, [.ref an, .ref ak, .int (nI ke), .int (nI kn), .int fd, .ref ab, .ref az, .ref as_, .ref ae, .ref ao, .ref ar, .ref aw, .ref al, .ref am, .int (nI ((mul ([]) (ckDir true (w (pl + 1)))).length)), .ref af, .ref ac])), (al, .inl (N.2 0, 25, .inl lo1)), (aw, .inl (N.2 0, 1500, .inl bk1)), (am, .inl (N.2 0, 200, .inl md2_16))] H := hP
          have hD : va_D Ag [(mm, .inr (11, [.ref an, .ref ak, .int (nI ke), .int (nI kn), .int fd, .ref ab, .ref az, .ref as_, .ref ae, .ref ao, .ref ar, .ref aw, .ref al, .ref am, .int (nI ((mul ([]) (ckDir true (w (pl + 1)))).length)), .ref af, .ref ac])), (al, .inl (N.2 0, 25, .inl lo1)), (aw, .inl (N.2 0, 1500, .inl bk1)), (am, .inl (N.2 0, 200, .inl md2_16))] := hD
          have hjq_18 := hw_17
          refine lv_aload_n hx hb dX11_walks_96 rfl (lv_at hl 1 rfl) ?_
          refine lv_iload_n hx hb dX11_walks_97 rfl (lv_at hl 2 rfl) ?_
          refine lv_iload hx hb dX11_walks_98 (lv_at hl 5 rfl) ?_
          refine lv_iconst (v := (nI 0)) hx hb dX11_walks_100 (by decide) ?_
          refine ck_Vv (As := [.int (nI b), .int (nI pl), .int (b2i false)]) (rest := []) (wr := []) C0 hP hD hS (c_X11_takes l N mm an ak ab az as_ ae ao ar aw al am af ac ke kn fd lo1 bk1 md2_16 (mul ([]) (ckDir true (w (pl + 1)))) w n b pl false hBf (by omega) (by omega) (by omega) hjq_18 (mul_lt L20_nil (ckDir_lt (hgd (pl + 1) (by omega)).2.1)) (by have e0 : ([] : List Nat).length = 0 := rfl; have z0 := mul_len (ckDir true (w (pl + 1))) ([]); rw [ckDir_len] at z0; have y0 := (hgd (pl + 1) (by omega)).2.2; have y1 := (hgd pl (by omega)).2.2;  omega)) myX11_takes k4_195 ⟨Nat.le_of_ble_eq_true rfl, Nat.le_of_ble_eq_true rfl⟩ [0, 1, 2, 3] [] ⟨⟨rfl, rfl⟩, by decide, by decide, by decide⟩ 0 rfl rfl rfl rfl hl.1 rfl (Nat.le_of_ble_eq_true rfl) dX11_walks_101 ⟨Nat.le_of_ble_eq_true rfl, Nat.le_of_ble_eq_true rfl⟩ (fun u0 H locs hw0 hP hD hS => ?_)
          obtain ⟨md2_20, rfl⟩ : ∃ z, z = u0 := ⟨_, rfl⟩
          have hw_21 : JR md2_20 (mul (mul ([]) (ckDir true (w (pl + 1)))) (ckDir false (w pl))) := hw0
          have hP : va_P N.1 vwCl [(mm, .inr (11, [.ref an, .ref ak, .int (nI ke), .int (nI kn), .int fd, .ref ab, .ref az, .ref as_, .ref ae, .ref ao, .ref ar, .ref aw, .ref al, .ref am, .int (nI ((mul (mul ([]) (ckDir true (w (pl + 1)))) (ckDir false (w pl))).length)), .ref af, .ref ac])), (al, .inl (N.2 0, 25, .inl lo1)), (aw, .inl (N.2 0, 1500, .inl bk1)), (am, .inl (N.2 0, 200, .inl md2_20))] H := hP
          have hD : va_D Ag [(mm, .inr (11, [.ref an, .ref ak, .int (nI ke), .int (nI kn), .int fd, .ref ab, .ref az, .ref as_, .ref ae, .ref ao, .ref ar, .ref aw, .ref al, .ref am, .int (nI ((mul (mul ([]) (ckDir true (w (pl + 1)))) (ckDir false (w pl))).length)), .ref af, .ref ac])), (al, .inl (N.2 0, 25, .inl lo1)), (aw, .inl (N.2 0, 1500, .inl bk1)), (am, .inl (N.2 0, 200, .inl md2_20))] := hD
          have hjq_22 := hw_21
          refine lv_iload hx hb dX11_walks_104 (lv_at hl 6 rfl) ?_
          refine ck_ifne (b := false) (tgt := 130) hx hb dX11_walks_106 (by decide) (fun cz_23 => absurd cz_23 (by decide)) (fun cz_23 => ?_)
          refine lv_aload_n hx hb dX11_walks_109 rfl (lv_at hl 1 rfl) ?_
          refine lv_iload_n hx hb dX11_walks_110 rfl (lv_at hl 2 rfl) ?_
          refine lv_iload hx hb dX11_walks_111 (lv_at hl 5 rfl) ?_
          refine lv_iconst (v := (nI 1)) hx hb dX11_walks_113 (by decide) ?_
          refine lv_iadd hx hb dX11_walks_114 ?_
          refine ck_top (y := (nI (pl + 1))) (nI_add _ _) ?_
          refine lv_iconst (v := (nI 0)) hx hb dX11_walks_115 (by decide) ?_
          refine ck_Vv (As := [.int (nI b), .int (nI (pl + 1)), .int (b2i false)]) (rest := []) (wr := []) C0 hP hD hS (c_X11_takes l N mm an ak ab az as_ ae ao ar aw al am af ac ke kn fd lo1 bk1 md2_20 (mul (mul ([]) (ckDir true (w (pl + 1)))) (ckDir false (w pl))) w n b (pl + 1) false hBf (by omega) (by omega) (by omega) hjq_22 (mul_lt (mul_lt L20_nil (ckDir_lt (hgd (pl + 1) (by omega)).2.1)) (ckDir_lt (hgd pl (by omega)).2.1)) (by have e0 : ([] : List Nat).length = 0 := rfl; have z0 := mul_len (ckDir true (w (pl + 1))) ([]); rw [ckDir_len] at z0; have z1 := mul_len (ckDir false (w pl)) (mul ([]) (ckDir true (w (pl + 1)))); rw [ckDir_len] at z1; have y0 := (hgd (pl + 1) (by omega)).2.2; have y1 := (hgd pl (by omega)).2.2; have y2 := (hgd (pl + 1) (by omega)).2.2;  omega)) myX11_takes k4_195 ⟨Nat.le_of_ble_eq_true rfl, Nat.le_of_ble_eq_true rfl⟩ [0, 1, 2, 3] [] ⟨⟨rfl, rfl⟩, by decide, by decide, by decide⟩ 0 rfl rfl rfl rfl hl.1 rfl (Nat.le_of_ble_eq_true rfl) dX11_walks_116 ⟨Nat.le_of_ble_eq_true rfl, Nat.le_of_ble_eq_true rfl⟩ (fun u0 H locs hw0 hP hD hS => ?_)
          obtain ⟨md2_25, rfl⟩ : ∃ z, z = u0 := ⟨_, rfl⟩
          have hw_26 : JR md2_25 (mul (mul (mul ([]) (ckDir true (w (pl + 1)))) (ckDir false (w pl))) (ckDir false (w (pl + 1)))) := hw0
          have hP : va_P N.1 vwCl [(mm, .inr (11, [.ref an, .ref ak, .int (nI ke), .int (nI kn), .int fd, .ref ab, .ref az, .ref as_, .ref ae, .ref ao, .ref ar, .ref aw, .ref al, .ref am, .int (nI ((mul (mul (mul ([]) (ckDir true (w (pl + 1)))) (ckDir false (w pl))) (ckDir false (w (pl + 1)))).length)), .ref af, .ref ac])), (al, .inl (N.2 0, 25, .inl lo1)), (aw, .inl (N.2 0, 1500, .inl bk1)), (am, .inl (N.2 0, 200, .inl md2_25))] H := hP
          have hD : va_D Ag [(mm, .inr (11, [.ref an, .ref ak, .int (nI ke), .int (nI kn), .int fd, .ref ab, .ref az, .ref as_, .ref ae, .ref ao, .ref ar, .ref aw, .ref al, .ref am, .int (nI ((mul (mul (mul ([]) (ckDir true (w (pl + 1)))) (ckDir false (w pl))) (ckDir false (w (pl + 1)))).length)), .ref af, .ref ac])), (al, .inl (N.2 0, 25, .inl lo1)), (aw, .inl (N.2 0, 1500, .inl bk1)), (am, .inl (N.2 0, 200, .inl md2_25))] := hD
          have hjq_27 := hw_26
          refine lv_goto (tgt := 130) hx hb dX11_walks_119 (by decide) ?_
          have hrq : mul (mul (mul ([]) (ckDir true (w (pl + 1)))) (ckDir false (w pl))) (ckDir false (w (pl + 1))) = (ckStep w pl false q).reverse := by
            subst cz_3; rw [show ckStep w pl false (pl + 1) = _ from ckStep_kp w pl false, List.reverse_reverse]; rfl
          have hjx := hjq_27
          rw [hrq] at hP hD hjx
          refine lv_aload_n hx hb dX11_walks_130 rfl (lv_at hl 1 rfl) ?_
          refine lv_iload_n hx hb dX11_walks_131 rfl (lv_at hl 3 rfl) ?_
          refine lv_iload hx hb dX11_walks_132 (lv_at hl 0 rfl) ?_
          refine ck_Vi (As := [.int (nI t), .int (nI q)]) (rest := []) (wr := []) C0 hP hD hS (c_X11_lays l N mm an ak ab az as_ ae ao ar aw al am af ac ke kn fd lo1 bk1 md2_25 ((ckStep w pl false q).reverse) t q (by omega) (by omega) (by have z := hlen q (by omega); rw [List.length_reverse]; omega)) myX11_lays k4_206 ⟨Nat.le_of_ble_eq_true rfl, Nat.le_of_ble_eq_true rfl⟩ [0, 1, 2, 3] [] ⟨⟨rfl, rfl⟩, by decide, by decide, by decide⟩ 0 rfl rfl rfl rfl hl.1 rfl (Nat.le_of_ble_eq_true rfl) dX11_walks_134 ⟨Nat.le_of_ble_eq_true rfl, Nat.le_of_ble_eq_true rfl⟩ (fun r_28 u0 H locs hw0 hP hD hS => ?_)
          obtain ⟨lo2_29, bk2_30⟩ := u0
          have hw_31 : (r_28 = (b2i (decide (((ckStep w pl false q).reverse).length ≤ 60)))) ∧ ((((ckStep w pl false q).reverse).length ≤ 60 → lo2_29 = upd lo1 (5 * t + q) (nI ((ckStep w pl false q).reverse).length) ∧ bk2_30 = guT bk1 (300 * t + 60 * q) md2_25 ((ckStep w pl false q).reverse).length) ∧ (¬ ((ckStep w pl false q).reverse).length ≤ 60 → lo2_29 = lo1 ∧ bk2_30 = bk1)) := hw0
          obtain ⟨hv_32, hw_31⟩ := hw_31
          subst hv_32
          have hP : va_P N.1 vwCl [(mm, .inr (11, [.ref an, .ref ak, .int (nI ke), .int (nI kn), .int fd, .ref ab, .ref az, .ref as_, .ref ae, .ref ao, .ref ar, .ref aw, .ref al, .ref am, .int (nI (((ckStep w pl false q).reverse).length)), .ref af, .ref ac])), (al, .inl (N.2 0, 25, .inl lo2_29)), (aw, .inl (N.2 0, 1500, .inl bk2_30)), (am, .inl (N.2 0, 200, .inl md2_25))] H := hP
          have hD : va_D Ag [(mm, .inr (11, [.ref an, .ref ak, .int (nI ke), .int (nI kn), .int fd, .ref ab, .ref az, .ref as_, .ref ae, .ref ao, .ref ar, .ref aw, .ref al, .ref am, .int (nI (((ckStep w pl false q).reverse).length)), .ref af, .ref ac])), (al, .inl (N.2 0, 25, .inl lo2_29)), (aw, .inl (N.2 0, 1500, .inl bk2_30)), (am, .inl (N.2 0, 200, .inl md2_25))] := hD
          obtain ⟨hla, hlb⟩ := hw_31
          refine ck_ifne (b := decide (((ckStep w pl false q).reverse).length ≤ 60)) (tgt := 142) hx hb dX11_walks_137 (by decide) (fun cz_33 => ?_) (fun cz_33 => ?_)
          · refine lv_iinc (v := (nI (q + 1))) (lv' := [(6, .int (nI (q + 1))), (0, .ref mm), (1, .int (nI b)), (2, .int (nI t)), (3, .int (nI n)), (4, .int (nI pl)), (5, .int (b2i false))]) hx hb dX11_walks_142 hl (k := 0) rfl (nI_1 _) (by decide) rfl (fun ls hl => ?_)
            refine lv_goto (tgt := 3) hx hb dX11_walks_145 (by decide) ?_
            exact ih_3 _ (by omega) (q + 1) lo2_29 bk2_30 md2_25 (((ckStep w pl false q).reverse).length) rfl (by omega) (by obtain ⟨e1, e2⟩ := hla (of_decide_eq_true cz_33); rw [e1, e2]; exact mB_lay hBt (by omega) hjx (of_decide_eq_true cz_33) (L20_rev (step_lt hgd hp1 (by omega))) (List.reverse_reverse _).symm) (fun z => (Nat.lt_or_eq_of_le (Nat.le_of_lt_succ z)).elim hok (fun e => step_fine (n := n) (by rw [e]; exact of_decide_eq_true cz_33))) (by rw [(hla (of_decide_eq_true cz_33)).1]; exact fun j hj => (pk_un (by omega)).trans (hol j hj)) (by rw [(hla (of_decide_eq_true cz_33)).2]; exact fun j hj => (guT_out (by have z := of_decide_eq_true cz_33; omega)).trans (hob j hj)) _ _ ls hP hD hS hl
          refine lv_iconst (v := (nI 0)) hx hb dX11_walks_140 (by decide) ?_
          refine ck_top (y := (b2i false)) (by decide) ?_
          exact ck_zret (b := false) hx hb hrt hlk ⟨lo2_29, bk2_30, md2_25, ((ckStep w pl false q).reverse).length⟩ (by have hz := of_decide_eq_false cz_33; have hno := step_long hgd hp1 (show q < n by omega) hz; exact ⟨congrArg b2i hno.symm, fun z => absurd (hno.symm.trans z) (by decide), by rw [(hlb hz).1]; exact hol, by rw [(hlb hz).2]; exact hob⟩) hP hD hS ⟨Nat.le_of_ble_eq_true rfl, Nat.le_of_ble_eq_true rfl⟩ dX11_walks_141
        refine lv_aload_n hx hb dX11_walks_21 rfl (lv_at hl 1 rfl) ?_
        refine lv_iload_n hx hb dX11_walks_22 rfl (lv_at hl 2 rfl) ?_
        refine lv_iload hx hb dX11_walks_23 (lv_at hl 6 rfl) ?_
        refine ck_ifeq (b := false) (tgt := 33) hx hb dX11_walks_25 (by decide) (fun cz_34 => ?_) (fun cz_34 => absurd cz_34 (by decide))
        refine lv_iload hx hb dX11_walks_33 (lv_at hl 5 rfl) ?_
        refine lv_iconst (v := (nI 1)) hx hb dX11_walks_35 (by decide) ?_
        refine lv_iadd hx hb dX11_walks_36 ?_
        refine ck_top (y := (nI (pl + 1))) (nI_add _ _) ?_
        refine lv_iconst (v := (nI 0)) hx hb dX11_walks_37 (by decide) ?_
        refine ck_Vv (As := [.int (nI b), .int (nI (pl + 1)), .int (b2i false)]) (rest := []) (wr := []) C0 hP hD hS (c_X11_takes l N mm an ak ab az as_ ae ao ar aw al am af ac ke kn fd lo1 bk1 md1 ([]) w n b (pl + 1) false hBf (by omega) (by omega) (by omega) JR_nil L20_nil (by have y0 := (hgd (pl + 1) (by omega)).2.2; show 0 + _ ≤ 200; omega)) myX11_takes k4_195 ⟨Nat.le_of_ble_eq_true rfl, Nat.le_of_ble_eq_true rfl⟩ [0, 1, 2, 3] [] ⟨⟨rfl, rfl⟩, by decide, by decide, by decide⟩ 0 rfl rfl rfl rfl hl.1 rfl (Nat.le_of_ble_eq_true rfl) dX11_walks_38 ⟨Nat.le_of_ble_eq_true rfl, Nat.le_of_ble_eq_true rfl⟩ (fun u0 H locs hw0 hP hD hS => ?_)
        obtain ⟨md2_36, rfl⟩ : ∃ z, z = u0 := ⟨_, rfl⟩
        have hw_37 : JR md2_36 (mul ([]) (ckDir false (w (pl + 1)))) := hw0
        have hP : va_P N.1 vwCl [(mm, .inr (11, [.ref an, .ref ak, .int (nI ke), .int (nI kn), .int fd, .ref ab, .ref az, .ref as_, .ref ae, .ref ao, .ref ar, .ref aw, .ref al, .ref am, .int (nI ((mul ([]) (ckDir false (w (pl + 1)))).length)), .ref af, .ref ac])), (al, .inl (N.2 0, 25, .inl lo1)), (aw, .inl (N.2 0, 1500, .inl bk1)), (am, .inl (N.2 0, 200, .inl md2_36))] H := hP
        have hD : va_D Ag [(mm, .inr (11, [.ref an, .ref ak, .int (nI ke), .int (nI kn), .int fd, .ref ab, .ref az, .ref as_, .ref ae, .ref ao, .ref ar, .ref aw, .ref al, .ref am, .int (nI ((mul ([]) (ckDir false (w (pl + 1)))).length)), .ref af, .ref ac])), (al, .inl (N.2 0, 25, .inl lo1)), (aw, .inl (N.2 0, 1500, .inl bk1)), (am, .inl (N.2 0, 200, .inl md2_36))] := hD
        have hjq_38 := hw_37
        refine lv_iload hx hb dX11_walks_41 (lv_at hl 6 rfl) ?_
        refine ck_ifeq (b := false) (tgt := 56) hx hb dX11_walks_43 (by decide) (fun cz_39 => ?_) (fun cz_39 => absurd cz_39 (by decide))
        refine lv_iload hx hb dX11_walks_56 (lv_at hl 6 rfl) ?_
        refine ck_ifeq (b := false) (tgt := 130) hx hb dX11_walks_58 (by decide) (fun cz_40 => ?_) (fun cz_40 => absurd cz_40 (by decide))
        have hrq : mul ([]) (ckDir false (w (pl + 1))) = (ckStep w pl false q).reverse := by
          subst cz_2; rw [show ckStep w q false q = _ from ckStep_kt w q false]; exact wd_rev hgd (by omega)
        have hjx := hjq_38
        rw [hrq] at hP hD hjx
        refine lv_aload_n hx hb dX11_walks_130 rfl (lv_at hl 1 rfl) ?_
        refine lv_iload_n hx hb dX11_walks_131 rfl (lv_at hl 3 rfl) ?_
        refine lv_iload hx hb dX11_walks_132 (lv_at hl 0 rfl) ?_
        refine ck_Vi (As := [.int (nI t), .int (nI q)]) (rest := []) (wr := []) C0 hP hD hS (c_X11_lays l N mm an ak ab az as_ ae ao ar aw al am af ac ke kn fd lo1 bk1 md2_36 ((ckStep w pl false q).reverse) t q (by omega) (by omega) (by have z := hlen q (by omega); rw [List.length_reverse]; omega)) myX11_lays k4_206 ⟨Nat.le_of_ble_eq_true rfl, Nat.le_of_ble_eq_true rfl⟩ [0, 1, 2, 3] [] ⟨⟨rfl, rfl⟩, by decide, by decide, by decide⟩ 0 rfl rfl rfl rfl hl.1 rfl (Nat.le_of_ble_eq_true rfl) dX11_walks_134 ⟨Nat.le_of_ble_eq_true rfl, Nat.le_of_ble_eq_true rfl⟩ (fun r_41 u0 H locs hw0 hP hD hS => ?_)
        obtain ⟨lo2_42, bk2_43⟩ := u0
        have hw_44 : (r_41 = (b2i (decide (((ckStep w pl false q).reverse).length ≤ 60)))) ∧ ((((ckStep w pl false q).reverse).length ≤ 60 → lo2_42 = upd lo1 (5 * t + q) (nI ((ckStep w pl false q).reverse).length) ∧ bk2_43 = guT bk1 (300 * t + 60 * q) md2_36 ((ckStep w pl false q).reverse).length) ∧ (¬ ((ckStep w pl false q).reverse).length ≤ 60 → lo2_42 = lo1 ∧ bk2_43 = bk1)) := hw0
        obtain ⟨hv_45, hw_44⟩ := hw_44
        subst hv_45
        have hP : va_P N.1 vwCl [(mm, .inr (11, [.ref an, .ref ak, .int (nI ke), .int (nI kn), .int fd, .ref ab, .ref az, .ref as_, .ref ae, .ref ao, .ref ar, .ref aw, .ref al, .ref am, .int (nI (((ckStep w pl false q).reverse).length)), .ref af, .ref ac])), (al, .inl (N.2 0, 25, .inl lo2_42)), (aw, .inl (N.2 0, 1500, .inl bk2_43)), (am, .inl (N.2 0, 200, .inl md2_36))] H := hP
        have hD : va_D Ag [(mm, .inr (11, [.ref an, .ref ak, .int (nI ke), .int (nI kn), .int fd, .ref ab, .ref az, .ref as_, .ref ae, .ref ao, .ref ar, .ref aw, .ref al, .ref am, .int (nI (((ckStep w pl false q).reverse).length)), .ref af, .ref ac])), (al, .inl (N.2 0, 25, .inl lo2_42)), (aw, .inl (N.2 0, 1500, .inl bk2_43)), (am, .inl (N.2 0, 200, .inl md2_36))] := hD
        obtain ⟨hla, hlb⟩ := hw_44
        refine ck_ifne (b := decide (((ckStep w pl false q).reverse).length ≤ 60)) (tgt := 142) hx hb dX11_walks_137 (by decide) (fun cz_46 => ?_) (fun cz_46 => ?_)
        · refine lv_iinc (v := (nI (q + 1))) (lv' := [(6, .int (nI (q + 1))), (0, .ref mm), (1, .int (nI b)), (2, .int (nI t)), (3, .int (nI n)), (4, .int (nI pl)), (5, .int (b2i false))]) hx hb dX11_walks_142 hl (k := 0) rfl (nI_1 _) (by decide) rfl (fun ls hl => ?_)
          refine lv_goto (tgt := 3) hx hb dX11_walks_145 (by decide) ?_
          exact ih_3 _ (by omega) (q + 1) lo2_42 bk2_43 md2_36 (((ckStep w pl false q).reverse).length) rfl (by omega) (by obtain ⟨e1, e2⟩ := hla (of_decide_eq_true cz_46); rw [e1, e2]; exact mB_lay hBt (by omega) hjx (of_decide_eq_true cz_46) (L20_rev (step_lt hgd hp1 (by omega))) (List.reverse_reverse _).symm) (fun z => (Nat.lt_or_eq_of_le (Nat.le_of_lt_succ z)).elim hok (fun e => step_fine (n := n) (by rw [e]; exact of_decide_eq_true cz_46))) (by rw [(hla (of_decide_eq_true cz_46)).1]; exact fun j hj => (pk_un (by omega)).trans (hol j hj)) (by rw [(hla (of_decide_eq_true cz_46)).2]; exact fun j hj => (guT_out (by have z := of_decide_eq_true cz_46; omega)).trans (hob j hj)) _ _ ls hP hD hS hl
        refine lv_iconst (v := (nI 0)) hx hb dX11_walks_140 (by decide) ?_
        refine ck_top (y := (b2i false)) (by decide) ?_
        exact ck_zret (b := false) hx hb hrt hlk ⟨lo2_42, bk2_43, md2_36, ((ckStep w pl false q).reverse).length⟩ (by have hz := of_decide_eq_false cz_46; have hno := step_long hgd hp1 (show q < n by omega) hz; exact ⟨congrArg b2i hno.symm, fun z => absurd (hno.symm.trans z) (by decide), by rw [(hlb hz).1]; exact hol, by rw [(hlb hz).2]; exact hob⟩) hP hD hS ⟨Nat.le_of_ble_eq_true rfl, Nat.le_of_ble_eq_true rfl⟩ dX11_walks_141
    exact lp_3 _ 0 lo bk md mn rfl (by omega) (fun p hp => absurd hp (Nat.not_lt_zero p)) (fun z => absurd z (Nat.not_lt_zero _)) (fun j hj => rfl) (fun j hj => rfl) _ _ ls hP hD hS hl
  · refine lv_iconst (v := (nI 0)) hx hb dX11_walks_0 (by decide) ?_
    refine lv_istore (lv' := [(6, .int (nI 0)), (0, .ref mm), (1, .int (nI b)), (2, .int (nI t)), (3, .int (nI n)), (4, .int (nI pl)), (5, .int (b2i true))]) hx hb dX11_walks_1 hl (by decide) rfl (fun ls hl => ?_)
    have lp_3 : ∀ (dz : Nat) (q : Nat) (lo1 : Nat → Int32) (bk1 : Nat → Int32) (md1 : Nat → Int32) (mn1 : Nat) (hdz : n - q = dz) (hq : q ≤ n) (hBt : mB lo1 bk1 t q (ckStep w pl true)) (hok : kp pl true < q → ckOk w pl true = true) (hol : (∀ j, ¬ (5 * t ≤ j ∧ j < 5 * t + 5) → lo1 j = lo j)) (hob : (∀ j, ¬ (300 * t ≤ j ∧ j < 300 * t + 300) → bk1 j = bk j)) (H : Heap) (locs : List Loc) (ls : Array Slot), va_P N.1 vwCl [(mm, .inr (11, [.ref an, .ref ak, .int (nI ke), .int (nI kn), .int fd, .ref ab, .ref az, .ref as_, .ref ae, .ref ao, .ref ar, .ref aw, .ref al, .ref am, .int (nI mn1), .ref af, .ref ac])), (al, .inl (N.2 0, 25, .inl lo1)), (aw, .inl (N.2 0, 1500, .inl bk1)), (am, .inl (N.2 0, 200, .inl md1))] H → va_D Ag [(mm, .inr (11, [.ref an, .ref ak, .int (nI ke), .int (nI kn), .int fd, .ref ab, .ref az, .ref as_, .ref ae, .ref ao, .ref ar, .ref aw, .ref al, .ref am, .int (nI mn1), .ref af, .ref ac])), (al, .inl (N.2 0, 25, .inl lo1)), (aw, .inl (N.2 0, 1500, .inl bk1)), (am, .inl (N.2 0, 200, .inl md1))] → va_S Ag sg.heap H locs → lv_has ls 7 [(6, .int (nI q)), (0, .ref mm), (1, .int (nI b)), (2, .int (nI t)), (3, .int (nI n)), (4, .int (nI pl)), (5, .int (b2i true))] → W pg l eg { frames := 5, cells := 0, slots := 0, locals := 127 } sg mg ([.ref mm, .int (nI b), .int (nI t), .int (nI n), .int (nI pl), .int (b2i true)]).toArray blw mth cg H locs 0 0 (ckQi N Ag blw sg ([.ref mm, .int (nI b), .int (nI t), .int (nI n), .int (nI pl), .int (b2i true)]).toArray { frames := 5, cells := 0, slots := 0, locals := 127 } (fun (r : Int32) (u : (Nat → Int32) × (Nat → Int32) × (Nat → Int32) × Nat) => (r = (b2i (ckOk w pl true))) ∧ ((ckOk w pl true = true → mB u.1 u.2.1 t n (ckStep w pl true)) ∧ (∀ j, ¬ (5 * t ≤ j ∧ j < 5 * t + 5) → u.1 j = lo j) ∧ (∀ j, ¬ (300 * t ≤ j ∧ j < 300 * t + 300) → u.2.1 j = bk j))) (fun (u : (Nat → Int32) × (Nat → Int32) × (Nat → Int32) × Nat) => [(mm, .inr (11, [.ref an, .ref ak, .int (nI ke), .int (nI kn), .int fd, .ref ab, .ref az, .ref as_, .ref ae, .ref ao, .ref ar, .ref aw, .ref al, .ref am, .int (nI u.2.2.2), .ref af, .ref ac])), (al, .inl (N.2 0, 25, .inl u.1)), (aw, .inl (N.2 0, 1500, .inl u.2.1)), (am, .inl (N.2 0, 200, .inl u.2.2.1))])) (F0 mg 3 ls []) := by
      intro dz
      induction dz using Nat.strongRecOn with
      | _ dz ih_3 =>
        intro q lo1 bk1 md1 mn1 hdz hq hBt hok hol hob H locs ls hP hD hS hl
        subst hdz
        refine lv_iload hx hb dX11_walks_3 (lv_at hl 0 rfl) ?_
        refine lv_iload_n hx hb dX11_walks_5 rfl (lv_at hl 4 rfl) ?_
        refine ck_ic_ge (tgt := 148) hx hb dX11_walks_6 (by decide) (by omega) (by omega) (fun cz_47 => ?_) (fun cz_47 => ?_)
        · refine lv_iconst (v := (nI 1)) hx hb dX11_walks_148 (by decide) ?_
          refine ck_top (y := (b2i true)) (by decide) ?_
          exact ck_zret (b := true) hx hb hrt hlk ⟨lo1, bk1, md1, mn1⟩ ⟨congrArg b2i (hok (Nat.lt_of_lt_of_le (kp_lt hp1) (by omega))).symm, fun _ => (by rw [(show q = n by omega)] at hBt; exact hBt), hol, hob⟩ hP hD hS ⟨Nat.le_of_ble_eq_true rfl, Nat.le_of_ble_eq_true rfl⟩ dX11_walks_149
        have hBf : mB lo1 bk1 b n w := mB_keep hB hn hbt hol hob
        have hlen : ∀ q, q < n → (ckStep w pl true q).length ≤ 180 := fun q hq => step_len hgd hp1 hq
        refine lv_aload_n hx hb dX11_walks_9 rfl (lv_at hl 1 rfl) ?_
        refine lv_iconst (v := (nI 0)) hx hb dX11_walks_10 (by decide) ?_
        refine va_put (ci := 11) (v := .int (nI 0)) (C := RX11) (T := TX11) (N := 17) hx hb hg inX11 tyX11 tyX11_ok nmX11 hown hE.1 hP hD hS 0 rfl rfl 14 (by decide) (hg _ k4_24) (fun _ h9 => h9) rfl (tyX11_ok 14 (by decide)) rfl rfl (Nat.le_of_ble_eq_true rfl) dX11_walks_11 (fun H locs hP hD hS => ?_)
        have hP : va_P N.1 vwCl [(mm, .inr (11, [.ref an, .ref ak, .int (nI ke), .int (nI kn), .int fd, .ref ab, .ref az, .ref as_, .ref ae, .ref ao, .ref ar, .ref aw, .ref al, .ref am, .int (nI 0), .ref af, .ref ac])), (al, .inl (N.2 0, 25, .inl lo1)), (aw, .inl (N.2 0, 1500, .inl bk1)), (am, .inl (N.2 0, 200, .inl md1))] H := hP
        have hD : va_D Ag [(mm, .inr (11, [.ref an, .ref ak, .int (nI ke), .int (nI kn), .int fd, .ref ab, .ref az, .ref as_, .ref ae, .ref ao, .ref ar, .ref aw, .ref al, .ref am, .int (nI 0), .ref af, .ref ac])), (al, .inl (N.2 0, 25, .inl lo1)), (aw, .inl (N.2 0, 1500, .inl bk1)), (am, .inl (N.2 0, 200, .inl md1))] := hD
        refine lv_iload hx hb dX11_walks_14 (lv_at hl 0 rfl) ?_
        refine lv_iload hx hb dX11_walks_16 (lv_at hl 5 rfl) ?_
        refine ck_ic_ne (tgt := 72) hx hb dX11_walks_18 (by decide) (by omega) (by omega) (fun cz_48 => ?_) (fun cz_48 => ?_)
        · refine lv_iload hx hb dX11_walks_72 (lv_at hl 0 rfl) ?_
          refine lv_iload hx hb dX11_walks_74 (lv_at hl 5 rfl) ?_
          refine lv_iconst (v := (nI 1)) hx hb dX11_walks_76 (by decide) ?_
          refine lv_iadd hx hb dX11_walks_77 ?_
          refine ck_top (y := (nI (pl + 1))) (nI_add _ _) ?_
          refine ck_ic_ne (tgt := 122) hx hb dX11_walks_78 (by decide) (by omega) (by omega) (fun cz_49 => ?_) (fun cz_49 => ?_)
          · refine lv_aload_n hx hb dX11_walks_122 rfl (lv_at hl 1 rfl) ?_
            refine lv_iload_n hx hb dX11_walks_123 rfl (lv_at hl 2 rfl) ?_
            refine lv_iload hx hb dX11_walks_124 (lv_at hl 0 rfl) ?_
            refine lv_iconst (v := (nI 0)) hx hb dX11_walks_126 (by decide) ?_
            refine ck_Vv (As := [.int (nI b), .int (nI q), .int (b2i false)]) (rest := []) (wr := []) C0 hP hD hS (c_X11_takes l N mm an ak ab az as_ ae ao ar aw al am af ac ke kn fd lo1 bk1 md1 ([]) w n b q false hBf (by omega) (by omega) (by omega) JR_nil L20_nil (by have y0 := (hgd q (by omega)).2.2; show 0 + _ ≤ 200; omega)) myX11_takes k4_195 ⟨Nat.le_of_ble_eq_true rfl, Nat.le_of_ble_eq_true rfl⟩ [0, 1, 2, 3] [] ⟨⟨rfl, rfl⟩, by decide, by decide, by decide⟩ 0 rfl rfl rfl rfl hl.1 rfl (Nat.le_of_ble_eq_true rfl) dX11_walks_127 ⟨Nat.le_of_ble_eq_true rfl, Nat.le_of_ble_eq_true rfl⟩ (fun u0 H locs hw0 hP hD hS => ?_)
            obtain ⟨md2_51, rfl⟩ : ∃ z, z = u0 := ⟨_, rfl⟩
            have hw_52 : JR md2_51 (mul ([]) (ckDir false (w q))) := hw0
            have hP : va_P N.1 vwCl [(mm, .inr (11, [.ref an, .ref ak, .int (nI ke), .int (nI kn), .int fd, .ref ab, .ref az, .ref as_, .ref ae, .ref ao, .ref ar, .ref aw, .ref al, .ref am, .int (nI ((mul ([]) (ckDir false (w q))).length)), .ref af, .ref ac])), (al, .inl (N.2 0, 25, .inl lo1)), (aw, .inl (N.2 0, 1500, .inl bk1)), (am, .inl (N.2 0, 200, .inl md2_51))] H := hP
            have hD : va_D Ag [(mm, .inr (11, [.ref an, .ref ak, .int (nI ke), .int (nI kn), .int fd, .ref ab, .ref az, .ref as_, .ref ae, .ref ao, .ref ar, .ref aw, .ref al, .ref am, .int (nI ((mul ([]) (ckDir false (w q))).length)), .ref af, .ref ac])), (al, .inl (N.2 0, 25, .inl lo1)), (aw, .inl (N.2 0, 1500, .inl bk1)), (am, .inl (N.2 0, 200, .inl md2_51))] := hD
            have hjq_53 := hw_52
            have hrq : mul ([]) (ckDir false (w q)) = (ckStep w pl true q).reverse := by
              rw [ckStep_ne w pl true cz_48 cz_49]; exact wd_rev hgd (by omega)
            have hjx := hjq_53
            rw [hrq] at hP hD hjx
            refine lv_aload_n hx hb dX11_walks_130 rfl (lv_at hl 1 rfl) ?_
            refine lv_iload_n hx hb dX11_walks_131 rfl (lv_at hl 3 rfl) ?_
            refine lv_iload hx hb dX11_walks_132 (lv_at hl 0 rfl) ?_
            refine ck_Vi (As := [.int (nI t), .int (nI q)]) (rest := []) (wr := []) C0 hP hD hS (c_X11_lays l N mm an ak ab az as_ ae ao ar aw al am af ac ke kn fd lo1 bk1 md2_51 ((ckStep w pl true q).reverse) t q (by omega) (by omega) (by have z := hlen q (by omega); rw [List.length_reverse]; omega)) myX11_lays k4_206 ⟨Nat.le_of_ble_eq_true rfl, Nat.le_of_ble_eq_true rfl⟩ [0, 1, 2, 3] [] ⟨⟨rfl, rfl⟩, by decide, by decide, by decide⟩ 0 rfl rfl rfl rfl hl.1 rfl (Nat.le_of_ble_eq_true rfl) dX11_walks_134 ⟨Nat.le_of_ble_eq_true rfl, Nat.le_of_ble_eq_true rfl⟩ (fun r_54 u0 H locs hw0 hP hD hS => ?_)
            obtain ⟨lo2_55, bk2_56⟩ := u0
            have hw_57 : (r_54 = (b2i (decide (((ckStep w pl true q).reverse).length ≤ 60)))) ∧ ((((ckStep w pl true q).reverse).length ≤ 60 → lo2_55 = upd lo1 (5 * t + q) (nI ((ckStep w pl true q).reverse).length) ∧ bk2_56 = guT bk1 (300 * t + 60 * q) md2_51 ((ckStep w pl true q).reverse).length) ∧ (¬ ((ckStep w pl true q).reverse).length ≤ 60 → lo2_55 = lo1 ∧ bk2_56 = bk1)) := hw0
            obtain ⟨hv_58, hw_57⟩ := hw_57
            subst hv_58
            have hP : va_P N.1 vwCl [(mm, .inr (11, [.ref an, .ref ak, .int (nI ke), .int (nI kn), .int fd, .ref ab, .ref az, .ref as_, .ref ae, .ref ao, .ref ar, .ref aw, .ref al, .ref am, .int (nI (((ckStep w pl true q).reverse).length)), .ref af, .ref ac])), (al, .inl (N.2 0, 25, .inl lo2_55)), (aw, .inl (N.2 0, 1500, .inl bk2_56)), (am, .inl (N.2 0, 200, .inl md2_51))] H := hP
            have hD : va_D Ag [(mm, .inr (11, [.ref an, .ref ak, .int (nI ke), .int (nI kn), .int fd, .ref ab, .ref az, .ref as_, .ref ae, .ref ao, .ref ar, .ref aw, .ref al, .ref am, .int (nI (((ckStep w pl true q).reverse).length)), .ref af, .ref ac])), (al, .inl (N.2 0, 25, .inl lo2_55)), (aw, .inl (N.2 0, 1500, .inl bk2_56)), (am, .inl (N.2 0, 200, .inl md2_51))] := hD
            obtain ⟨hla, hlb⟩ := hw_57
            refine ck_ifne (b := decide (((ckStep w pl true q).reverse).length ≤ 60)) (tgt := 142) hx hb dX11_walks_137 (by decide) (fun cz_59 => ?_) (fun cz_59 => ?_)
            · refine lv_iinc (v := (nI (q + 1))) (lv' := [(6, .int (nI (q + 1))), (0, .ref mm), (1, .int (nI b)), (2, .int (nI t)), (3, .int (nI n)), (4, .int (nI pl)), (5, .int (b2i true))]) hx hb dX11_walks_142 hl (k := 0) rfl (nI_1 _) (by decide) rfl (fun ls hl => ?_)
              refine lv_goto (tgt := 3) hx hb dX11_walks_145 (by decide) ?_
              exact ih_3 _ (by omega) (q + 1) lo2_55 bk2_56 md2_51 (((ckStep w pl true q).reverse).length) rfl (by omega) (by obtain ⟨e1, e2⟩ := hla (of_decide_eq_true cz_59); rw [e1, e2]; exact mB_lay hBt (by omega) hjx (of_decide_eq_true cz_59) (L20_rev (step_lt hgd hp1 (by omega))) (List.reverse_reverse _).symm) (fun z => (Nat.lt_or_eq_of_le (Nat.le_of_lt_succ z)).elim hok (fun e => step_fine (n := n) (by rw [e]; exact of_decide_eq_true cz_59))) (by rw [(hla (of_decide_eq_true cz_59)).1]; exact fun j hj => (pk_un (by omega)).trans (hol j hj)) (by rw [(hla (of_decide_eq_true cz_59)).2]; exact fun j hj => (guT_out (by have z := of_decide_eq_true cz_59; omega)).trans (hob j hj)) _ _ ls hP hD hS hl
            refine lv_iconst (v := (nI 0)) hx hb dX11_walks_140 (by decide) ?_
            refine ck_top (y := (b2i false)) (by decide) ?_
            exact ck_zret (b := false) hx hb hrt hlk ⟨lo2_55, bk2_56, md2_51, ((ckStep w pl true q).reverse).length⟩ (by have hz := of_decide_eq_false cz_59; have hno := step_long hgd hp1 (show q < n by omega) hz; exact ⟨congrArg b2i hno.symm, fun z => absurd (hno.symm.trans z) (by decide), by rw [(hlb hz).1]; exact hol, by rw [(hlb hz).2]; exact hob⟩) hP hD hS ⟨Nat.le_of_ble_eq_true rfl, Nat.le_of_ble_eq_true rfl⟩ dX11_walks_141
          refine lv_iload hx hb dX11_walks_81 (lv_at hl 6 rfl) ?_
          refine ck_ifne (b := true) (tgt := 96) hx hb dX11_walks_83 (by decide) (fun cz_60 => ?_) (fun cz_60 => absurd cz_60 (by decide))
          refine lv_aload_n hx hb dX11_walks_96 rfl (lv_at hl 1 rfl) ?_
          refine lv_iload_n hx hb dX11_walks_97 rfl (lv_at hl 2 rfl) ?_
          refine lv_iload hx hb dX11_walks_98 (lv_at hl 5 rfl) ?_
          refine lv_iconst (v := (nI 0)) hx hb dX11_walks_100 (by decide) ?_
          refine ck_Vv (As := [.int (nI b), .int (nI pl), .int (b2i false)]) (rest := []) (wr := []) C0 hP hD hS (c_X11_takes l N mm an ak ab az as_ ae ao ar aw al am af ac ke kn fd lo1 bk1 md1 ([]) w n b pl false hBf (by omega) (by omega) (by omega) JR_nil L20_nil (by have y0 := (hgd pl (by omega)).2.2; show 0 + _ ≤ 200; omega)) myX11_takes k4_195 ⟨Nat.le_of_ble_eq_true rfl, Nat.le_of_ble_eq_true rfl⟩ [0, 1, 2, 3] [] ⟨⟨rfl, rfl⟩, by decide, by decide, by decide⟩ 0 rfl rfl rfl rfl hl.1 rfl (Nat.le_of_ble_eq_true rfl) dX11_walks_101 ⟨Nat.le_of_ble_eq_true rfl, Nat.le_of_ble_eq_true rfl⟩ (fun u0 H locs hw0 hP hD hS => ?_)
          obtain ⟨md2_62, rfl⟩ : ∃ z, z = u0 := ⟨_, rfl⟩
          have hw_63 : JR md2_62 (mul ([]) (ckDir false (w pl))) := hw0
          have hP : va_P N.1 vwCl [(mm, .inr (11, [.ref an, .ref ak, .int (nI ke), .int (nI kn), .int fd, .ref ab, .ref az, .ref as_, .ref ae, .ref ao, .ref ar, .ref aw, .ref al, .ref am, .int (nI ((mul ([]) (ckDir false (w pl))).length)), .ref af, .ref ac])), (al, .inl (N.2 0, 25, .inl lo1)), (aw, .inl (N.2 0, 1500, .inl bk1)), (am, .inl (N.2 0, 200, .inl md2_62))] H := hP
          have hD : va_D Ag [(mm, .inr (11, [.ref an, .ref ak, .int (nI ke), .int (nI kn), .int fd, .ref ab, .ref az, .ref as_, .ref ae, .ref ao, .ref ar, .ref aw, .ref al, .ref am, .int (nI ((mul ([]) (ckDir false (w pl))).length)), .ref af, .ref ac])), (al, .inl (N.2 0, 25, .inl lo1)), (aw, .inl (N.2 0, 1500, .inl bk1)), (am, .inl (N.2 0, 200, .inl md2_62))] := hD
          have hjq_64 := hw_63
          refine lv_iload hx hb dX11_walks_104 (lv_at hl 6 rfl) ?_
          refine ck_ifne (b := true) (tgt := 130) hx hb dX11_walks_106 (by decide) (fun cz_65 => ?_) (fun cz_65 => absurd cz_65 (by decide))
          have hrq : mul ([]) (ckDir false (w pl)) = (ckStep w pl true q).reverse := by
            subst cz_49; rw [show ckStep w pl true (pl + 1) = _ from ckStep_kt w pl true]; exact wd_rev hgd (by omega)
          have hjx := hjq_64
          rw [hrq] at hP hD hjx
          refine lv_aload_n hx hb dX11_walks_130 rfl (lv_at hl 1 rfl) ?_
          refine lv_iload_n hx hb dX11_walks_131 rfl (lv_at hl 3 rfl) ?_
          refine lv_iload hx hb dX11_walks_132 (lv_at hl 0 rfl) ?_
          refine ck_Vi (As := [.int (nI t), .int (nI q)]) (rest := []) (wr := []) C0 hP hD hS (c_X11_lays l N mm an ak ab az as_ ae ao ar aw al am af ac ke kn fd lo1 bk1 md2_62 ((ckStep w pl true q).reverse) t q (by omega) (by omega) (by have z := hlen q (by omega); rw [List.length_reverse]; omega)) myX11_lays k4_206 ⟨Nat.le_of_ble_eq_true rfl, Nat.le_of_ble_eq_true rfl⟩ [0, 1, 2, 3] [] ⟨⟨rfl, rfl⟩, by decide, by decide, by decide⟩ 0 rfl rfl rfl rfl hl.1 rfl (Nat.le_of_ble_eq_true rfl) dX11_walks_134 ⟨Nat.le_of_ble_eq_true rfl, Nat.le_of_ble_eq_true rfl⟩ (fun r_66 u0 H locs hw0 hP hD hS => ?_)
          obtain ⟨lo2_67, bk2_68⟩ := u0
          have hw_69 : (r_66 = (b2i (decide (((ckStep w pl true q).reverse).length ≤ 60)))) ∧ ((((ckStep w pl true q).reverse).length ≤ 60 → lo2_67 = upd lo1 (5 * t + q) (nI ((ckStep w pl true q).reverse).length) ∧ bk2_68 = guT bk1 (300 * t + 60 * q) md2_62 ((ckStep w pl true q).reverse).length) ∧ (¬ ((ckStep w pl true q).reverse).length ≤ 60 → lo2_67 = lo1 ∧ bk2_68 = bk1)) := hw0
          obtain ⟨hv_70, hw_69⟩ := hw_69
          subst hv_70
          have hP : va_P N.1 vwCl [(mm, .inr (11, [.ref an, .ref ak, .int (nI ke), .int (nI kn), .int fd, .ref ab, .ref az, .ref as_, .ref ae, .ref ao, .ref ar, .ref aw, .ref al, .ref am, .int (nI (((ckStep w pl true q).reverse).length)), .ref af, .ref ac])), (al, .inl (N.2 0, 25, .inl lo2_67)), (aw, .inl (N.2 0, 1500, .inl bk2_68)), (am, .inl (N.2 0, 200, .inl md2_62))] H := hP
          have hD : va_D Ag [(mm, .inr (11, [.ref an, .ref ak, .int (nI ke), .int (nI kn), .int fd, .ref ab, .ref az, .ref as_, .ref ae, .ref ao, .ref ar, .ref aw, .ref al, .ref am, .int (nI (((ckStep w pl true q).reverse).length)), .ref af, .ref ac])), (al, .inl (N.2 0, 25, .inl lo2_67)), (aw, .inl (N.2 0, 1500, .inl bk2_68)), (am, .inl (N.2 0, 200, .inl md2_62))] := hD
          obtain ⟨hla, hlb⟩ := hw_69
          refine ck_ifne (b := decide (((ckStep w pl true q).reverse).length ≤ 60)) (tgt := 142) hx hb dX11_walks_137 (by decide) (fun cz_71 => ?_) (fun cz_71 => ?_)
          · refine lv_iinc (v := (nI (q + 1))) (lv' := [(6, .int (nI (q + 1))), (0, .ref mm), (1, .int (nI b)), (2, .int (nI t)), (3, .int (nI n)), (4, .int (nI pl)), (5, .int (b2i true))]) hx hb dX11_walks_142 hl (k := 0) rfl (nI_1 _) (by decide) rfl (fun ls hl => ?_)
            refine lv_goto (tgt := 3) hx hb dX11_walks_145 (by decide) ?_
            exact ih_3 _ (by omega) (q + 1) lo2_67 bk2_68 md2_62 (((ckStep w pl true q).reverse).length) rfl (by omega) (by obtain ⟨e1, e2⟩ := hla (of_decide_eq_true cz_71); rw [e1, e2]; exact mB_lay hBt (by omega) hjx (of_decide_eq_true cz_71) (L20_rev (step_lt hgd hp1 (by omega))) (List.reverse_reverse _).symm) (fun z => (Nat.lt_or_eq_of_le (Nat.le_of_lt_succ z)).elim hok (fun e => step_fine (n := n) (by rw [e]; exact of_decide_eq_true cz_71))) (by rw [(hla (of_decide_eq_true cz_71)).1]; exact fun j hj => (pk_un (by omega)).trans (hol j hj)) (by rw [(hla (of_decide_eq_true cz_71)).2]; exact fun j hj => (guT_out (by have z := of_decide_eq_true cz_71; omega)).trans (hob j hj)) _ _ ls hP hD hS hl
          refine lv_iconst (v := (nI 0)) hx hb dX11_walks_140 (by decide) ?_
          refine ck_top (y := (b2i false)) (by decide) ?_
          exact ck_zret (b := false) hx hb hrt hlk ⟨lo2_67, bk2_68, md2_62, ((ckStep w pl true q).reverse).length⟩ (by have hz := of_decide_eq_false cz_71; have hno := step_long hgd hp1 (show q < n by omega) hz; exact ⟨congrArg b2i hno.symm, fun z => absurd (hno.symm.trans z) (by decide), by rw [(hlb hz).1]; exact hol, by rw [(hlb hz).2]; exact hob⟩) hP hD hS ⟨Nat.le_of_ble_eq_true rfl, Nat.le_of_ble_eq_true rfl⟩ dX11_walks_141
        refine lv_aload_n hx hb dX11_walks_21 rfl (lv_at hl 1 rfl) ?_
        refine lv_iload_n hx hb dX11_walks_22 rfl (lv_at hl 2 rfl) ?_
        refine lv_iload hx hb dX11_walks_23 (lv_at hl 6 rfl) ?_
        refine ck_ifeq (b := true) (tgt := 33) hx hb dX11_walks_25 (by decide) (fun cz_72 => absurd cz_72 (by decide)) (fun cz_72 => ?_)
        refine lv_iload hx hb dX11_walks_28 (lv_at hl 5 rfl) ?_
        refine lv_goto (tgt := 37) hx hb dX11_walks_30 (by decide) ?_
        refine lv_iconst (v := (nI 0)) hx hb dX11_walks_37 (by decide) ?_
        refine ck_Vv (As := [.int (nI b), .int (nI pl), .int (b2i false)]) (rest := []) (wr := []) C0 hP hD hS (c_X11_takes l N mm an ak ab az as_ ae ao ar aw al am af ac ke kn fd lo1 bk1 md1 ([]) w n b pl false hBf (by omega) (by omega) (by omega) JR_nil L20_nil (by have y0 := (hgd pl (by omega)).2.2; show 0 + _ ≤ 200; omega)) myX11_takes k4_195 ⟨Nat.le_of_ble_eq_true rfl, Nat.le_of_ble_eq_true rfl⟩ [0, 1, 2, 3] [] ⟨⟨rfl, rfl⟩, by decide, by decide, by decide⟩ 0 rfl rfl rfl rfl hl.1 rfl (Nat.le_of_ble_eq_true rfl) dX11_walks_38 ⟨Nat.le_of_ble_eq_true rfl, Nat.le_of_ble_eq_true rfl⟩ (fun u0 H locs hw0 hP hD hS => ?_)
        obtain ⟨md2_74, rfl⟩ : ∃ z, z = u0 := ⟨_, rfl⟩
        have hw_75 : JR md2_74 (mul ([]) (ckDir false (w pl))) := hw0
        have hP : va_P N.1 vwCl [(mm, .inr (11, [.ref an, .ref ak, .int (nI ke), .int (nI kn), .int fd, .ref ab, .ref az, .ref as_, .ref ae, .ref ao, .ref ar, .ref aw, .ref al, .ref am, .int (nI ((mul ([]) (ckDir false (w pl))).length)), .ref af, .ref ac])), (al, .inl (N.2 0, 25, .inl lo1)), (aw, .inl (N.2 0, 1500, .inl bk1)), (am, .inl (N.2 0, 200, .inl md2_74))] H := hP
        have hD : va_D Ag [(mm, .inr (11, [.ref an, .ref ak, .int (nI ke), .int (nI kn), .int fd, .ref ab, .ref az, .ref as_, .ref ae, .ref ao, .ref ar, .ref aw, .ref al, .ref am, .int (nI ((mul ([]) (ckDir false (w pl))).length)), .ref af, .ref ac])), (al, .inl (N.2 0, 25, .inl lo1)), (aw, .inl (N.2 0, 1500, .inl bk1)), (am, .inl (N.2 0, 200, .inl md2_74))] := hD
        have hjq_76 := hw_75
        refine lv_iload hx hb dX11_walks_41 (lv_at hl 6 rfl) ?_
        refine ck_ifeq (b := true) (tgt := 56) hx hb dX11_walks_43 (by decide) (fun cz_77 => absurd cz_77 (by decide)) (fun cz_77 => ?_)
        refine lv_aload_n hx hb dX11_walks_46 rfl (lv_at hl 1 rfl) ?_
        refine lv_iload_n hx hb dX11_walks_47 rfl (lv_at hl 2 rfl) ?_
        refine lv_iload hx hb dX11_walks_48 (lv_at hl 5 rfl) ?_
        refine lv_iconst (v := (nI 1)) hx hb dX11_walks_50 (by decide) ?_
        refine lv_iadd hx hb dX11_walks_51 ?_
        refine ck_top (y := (nI (pl + 1))) (nI_add _ _) ?_
        refine lv_iconst (v := (nI 0)) hx hb dX11_walks_52 (by decide) ?_
        refine ck_Vv (As := [.int (nI b), .int (nI (pl + 1)), .int (b2i false)]) (rest := []) (wr := []) C0 hP hD hS (c_X11_takes l N mm an ak ab az as_ ae ao ar aw al am af ac ke kn fd lo1 bk1 md2_74 (mul ([]) (ckDir false (w pl))) w n b (pl + 1) false hBf (by omega) (by omega) (by omega) hjq_76 (mul_lt L20_nil (ckDir_lt (hgd pl (by omega)).2.1)) (by have e0 : ([] : List Nat).length = 0 := rfl; have z0 := mul_len (ckDir false (w pl)) ([]); rw [ckDir_len] at z0; have y0 := (hgd pl (by omega)).2.2; have y1 := (hgd (pl + 1) (by omega)).2.2;  omega)) myX11_takes k4_195 ⟨Nat.le_of_ble_eq_true rfl, Nat.le_of_ble_eq_true rfl⟩ [0, 1, 2, 3] [] ⟨⟨rfl, rfl⟩, by decide, by decide, by decide⟩ 0 rfl rfl rfl rfl hl.1 rfl (Nat.le_of_ble_eq_true rfl) dX11_walks_53 ⟨Nat.le_of_ble_eq_true rfl, Nat.le_of_ble_eq_true rfl⟩ (fun u0 H locs hw0 hP hD hS => ?_)
        obtain ⟨md2_79, rfl⟩ : ∃ z, z = u0 := ⟨_, rfl⟩
        have hw_80 : JR md2_79 (mul (mul ([]) (ckDir false (w pl))) (ckDir false (w (pl + 1)))) := hw0
        have hP : va_P N.1 vwCl [(mm, .inr (11, [.ref an, .ref ak, .int (nI ke), .int (nI kn), .int fd, .ref ab, .ref az, .ref as_, .ref ae, .ref ao, .ref ar, .ref aw, .ref al, .ref am, .int (nI ((mul (mul ([]) (ckDir false (w pl))) (ckDir false (w (pl + 1)))).length)), .ref af, .ref ac])), (al, .inl (N.2 0, 25, .inl lo1)), (aw, .inl (N.2 0, 1500, .inl bk1)), (am, .inl (N.2 0, 200, .inl md2_79))] H := hP
        have hD : va_D Ag [(mm, .inr (11, [.ref an, .ref ak, .int (nI ke), .int (nI kn), .int fd, .ref ab, .ref az, .ref as_, .ref ae, .ref ao, .ref ar, .ref aw, .ref al, .ref am, .int (nI ((mul (mul ([]) (ckDir false (w pl))) (ckDir false (w (pl + 1)))).length)), .ref af, .ref ac])), (al, .inl (N.2 0, 25, .inl lo1)), (aw, .inl (N.2 0, 1500, .inl bk1)), (am, .inl (N.2 0, 200, .inl md2_79))] := hD
        have hjq_81 := hw_80
        refine lv_iload hx hb dX11_walks_56 (lv_at hl 6 rfl) ?_
        refine ck_ifeq (b := true) (tgt := 130) hx hb dX11_walks_58 (by decide) (fun cz_82 => absurd cz_82 (by decide)) (fun cz_82 => ?_)
        refine lv_aload_n hx hb dX11_walks_61 rfl (lv_at hl 1 rfl) ?_
        refine lv_iload_n hx hb dX11_walks_62 rfl (lv_at hl 2 rfl) ?_
        refine lv_iload hx hb dX11_walks_63 (lv_at hl 5 rfl) ?_
        refine lv_iconst (v := (nI 1)) hx hb dX11_walks_65 (by decide) ?_
        refine ck_Vv (As := [.int (nI b), .int (nI pl), .int (b2i true)]) (rest := []) (wr := []) C0 hP hD hS (c_X11_takes l N mm an ak ab az as_ ae ao ar aw al am af ac ke kn fd lo1 bk1 md2_79 (mul (mul ([]) (ckDir false (w pl))) (ckDir false (w (pl + 1)))) w n b pl true hBf (by omega) (by omega) (by omega) hjq_81 (mul_lt (mul_lt L20_nil (ckDir_lt (hgd pl (by omega)).2.1)) (ckDir_lt (hgd (pl + 1) (by omega)).2.1)) (by have e0 : ([] : List Nat).length = 0 := rfl; have z0 := mul_len (ckDir false (w pl)) ([]); rw [ckDir_len] at z0; have z1 := mul_len (ckDir false (w (pl + 1))) (mul ([]) (ckDir false (w pl))); rw [ckDir_len] at z1; have y0 := (hgd pl (by omega)).2.2; have y1 := (hgd (pl + 1) (by omega)).2.2; have y2 := (hgd pl (by omega)).2.2;  omega)) myX11_takes k4_195 ⟨Nat.le_of_ble_eq_true rfl, Nat.le_of_ble_eq_true rfl⟩ [0, 1, 2, 3] [] ⟨⟨rfl, rfl⟩, by decide, by decide, by decide⟩ 0 rfl rfl rfl rfl hl.1 rfl (Nat.le_of_ble_eq_true rfl) dX11_walks_66 ⟨Nat.le_of_ble_eq_true rfl, Nat.le_of_ble_eq_true rfl⟩ (fun u0 H locs hw0 hP hD hS => ?_)
        obtain ⟨md2_84, rfl⟩ : ∃ z, z = u0 := ⟨_, rfl⟩
        have hw_85 : JR md2_84 (mul (mul (mul ([]) (ckDir false (w pl))) (ckDir false (w (pl + 1)))) (ckDir true (w pl))) := hw0
        have hP : va_P N.1 vwCl [(mm, .inr (11, [.ref an, .ref ak, .int (nI ke), .int (nI kn), .int fd, .ref ab, .ref az, .ref as_, .ref ae, .ref ao, .ref ar, .ref aw, .ref al, .ref am, .int (nI ((mul (mul (mul ([]) (ckDir false (w pl))) (ckDir false (w (pl + 1)))) (ckDir true (w pl))).length)), .ref af, .ref ac])), (al, .inl (N.2 0, 25, .inl lo1)), (aw, .inl (N.2 0, 1500, .inl bk1)), (am, .inl (N.2 0, 200, .inl md2_84))] H := hP
        have hD : va_D Ag [(mm, .inr (11, [.ref an, .ref ak, .int (nI ke), .int (nI kn), .int fd, .ref ab, .ref az, .ref as_, .ref ae, .ref ao, .ref ar, .ref aw, .ref al, .ref am, .int (nI ((mul (mul (mul ([]) (ckDir false (w pl))) (ckDir false (w (pl + 1)))) (ckDir true (w pl))).length)), .ref af, .ref ac])), (al, .inl (N.2 0, 25, .inl lo1)), (aw, .inl (N.2 0, 1500, .inl bk1)), (am, .inl (N.2 0, 200, .inl md2_84))] := hD
        have hjq_86 := hw_85
        refine lv_goto (tgt := 130) hx hb dX11_walks_69 (by decide) ?_
        have hrq : mul (mul (mul ([]) (ckDir false (w pl))) (ckDir false (w (pl + 1)))) (ckDir true (w pl)) = (ckStep w pl true q).reverse := by
          subst cz_48; rw [show ckStep w q true q = _ from ckStep_kp w q true, List.reverse_reverse]; rfl
        have hjx := hjq_86
        rw [hrq] at hP hD hjx
        refine lv_aload_n hx hb dX11_walks_130 rfl (lv_at hl 1 rfl) ?_
        refine lv_iload_n hx hb dX11_walks_131 rfl (lv_at hl 3 rfl) ?_
        refine lv_iload hx hb dX11_walks_132 (lv_at hl 0 rfl) ?_
        refine ck_Vi (As := [.int (nI t), .int (nI q)]) (rest := []) (wr := []) C0 hP hD hS (c_X11_lays l N mm an ak ab az as_ ae ao ar aw al am af ac ke kn fd lo1 bk1 md2_84 ((ckStep w pl true q).reverse) t q (by omega) (by omega) (by have z := hlen q (by omega); rw [List.length_reverse]; omega)) myX11_lays k4_206 ⟨Nat.le_of_ble_eq_true rfl, Nat.le_of_ble_eq_true rfl⟩ [0, 1, 2, 3] [] ⟨⟨rfl, rfl⟩, by decide, by decide, by decide⟩ 0 rfl rfl rfl rfl hl.1 rfl (Nat.le_of_ble_eq_true rfl) dX11_walks_134 ⟨Nat.le_of_ble_eq_true rfl, Nat.le_of_ble_eq_true rfl⟩ (fun r_87 u0 H locs hw0 hP hD hS => ?_)
        obtain ⟨lo2_88, bk2_89⟩ := u0
        have hw_90 : (r_87 = (b2i (decide (((ckStep w pl true q).reverse).length ≤ 60)))) ∧ ((((ckStep w pl true q).reverse).length ≤ 60 → lo2_88 = upd lo1 (5 * t + q) (nI ((ckStep w pl true q).reverse).length) ∧ bk2_89 = guT bk1 (300 * t + 60 * q) md2_84 ((ckStep w pl true q).reverse).length) ∧ (¬ ((ckStep w pl true q).reverse).length ≤ 60 → lo2_88 = lo1 ∧ bk2_89 = bk1)) := hw0
        obtain ⟨hv_91, hw_90⟩ := hw_90
        subst hv_91
        have hP : va_P N.1 vwCl [(mm, .inr (11, [.ref an, .ref ak, .int (nI ke), .int (nI kn), .int fd, .ref ab, .ref az, .ref as_, .ref ae, .ref ao, .ref ar, .ref aw, .ref al, .ref am, .int (nI (((ckStep w pl true q).reverse).length)), .ref af, .ref ac])), (al, .inl (N.2 0, 25, .inl lo2_88)), (aw, .inl (N.2 0, 1500, .inl bk2_89)), (am, .inl (N.2 0, 200, .inl md2_84))] H := hP
        have hD : va_D Ag [(mm, .inr (11, [.ref an, .ref ak, .int (nI ke), .int (nI kn), .int fd, .ref ab, .ref az, .ref as_, .ref ae, .ref ao, .ref ar, .ref aw, .ref al, .ref am, .int (nI (((ckStep w pl true q).reverse).length)), .ref af, .ref ac])), (al, .inl (N.2 0, 25, .inl lo2_88)), (aw, .inl (N.2 0, 1500, .inl bk2_89)), (am, .inl (N.2 0, 200, .inl md2_84))] := hD
        obtain ⟨hla, hlb⟩ := hw_90
        refine ck_ifne (b := decide (((ckStep w pl true q).reverse).length ≤ 60)) (tgt := 142) hx hb dX11_walks_137 (by decide) (fun cz_92 => ?_) (fun cz_92 => ?_)
        · refine lv_iinc (v := (nI (q + 1))) (lv' := [(6, .int (nI (q + 1))), (0, .ref mm), (1, .int (nI b)), (2, .int (nI t)), (3, .int (nI n)), (4, .int (nI pl)), (5, .int (b2i true))]) hx hb dX11_walks_142 hl (k := 0) rfl (nI_1 _) (by decide) rfl (fun ls hl => ?_)
          refine lv_goto (tgt := 3) hx hb dX11_walks_145 (by decide) ?_
          exact ih_3 _ (by omega) (q + 1) lo2_88 bk2_89 md2_84 (((ckStep w pl true q).reverse).length) rfl (by omega) (by obtain ⟨e1, e2⟩ := hla (of_decide_eq_true cz_92); rw [e1, e2]; exact mB_lay hBt (by omega) hjx (of_decide_eq_true cz_92) (L20_rev (step_lt hgd hp1 (by omega))) (List.reverse_reverse _).symm) (fun z => (Nat.lt_or_eq_of_le (Nat.le_of_lt_succ z)).elim hok (fun e => step_fine (n := n) (by rw [e]; exact of_decide_eq_true cz_92))) (by rw [(hla (of_decide_eq_true cz_92)).1]; exact fun j hj => (pk_un (by omega)).trans (hol j hj)) (by rw [(hla (of_decide_eq_true cz_92)).2]; exact fun j hj => (guT_out (by have z := of_decide_eq_true cz_92; omega)).trans (hob j hj)) _ _ ls hP hD hS hl
        refine lv_iconst (v := (nI 0)) hx hb dX11_walks_140 (by decide) ?_
        refine ck_top (y := (b2i false)) (by decide) ?_
        exact ck_zret (b := false) hx hb hrt hlk ⟨lo2_88, bk2_89, md2_84, ((ckStep w pl true q).reverse).length⟩ (by have hz := of_decide_eq_false cz_92; have hno := step_long hgd hp1 (show q < n by omega) hz; exact ⟨congrArg b2i hno.symm, fun z => absurd (hno.symm.trans z) (by decide), by rw [(hlb hz).1]; exact hol, by rw [(hlb hz).2]; exact hob⟩) hP hD hS ⟨Nat.le_of_ble_eq_true rfl, Nat.le_of_ble_eq_true rfl⟩ dX11_walks_141
    exact lp_3 _ 0 lo bk md mn rfl (by omega) (fun p hp => absurd hp (Nat.not_lt_zero p)) (fun z => absurd z (Nat.not_lt_zero _)) (fun j hj => rfl) (fun j hj => rfl) _ _ ls hP hD hS hl
set_option maxHeartbeats 4000000 in
set_option maxRecDepth 100000 in
/-- X11_firstWords -/
theorem c_X11_firstWords (l : Launch) (N : ckN) (mm : Nat) (an : Nat) (ak : Nat) (ab : Nat) (az : Nat) (as_ : Nat) (ae : Nat) (ao : Nat) (ar : Nat) (aw : Nat) (al : Nat) (am : Nat) (af : Nat) (ac : Nat) (ke : Nat) (kn : Nat) (fd : Int32) (mn : Nat) (lo : Nat → Int32) (bk : Nat → Int32) (t : Nat) (ht5 : t < 5) : ckV l yX11_firstWords cX11_firstWords 3 none { frames := 2, cells := 0, slots := 0, locals := 60 } N [.ref mm, .int (nI t)] [(mm, .inr (11, [.ref an, .ref ak, .int (nI ke), .int (nI kn), .int fd, .ref ab, .ref az, .ref as_, .ref ae, .ref ao, .ref ar, .ref aw, .ref al, .ref am, .int (nI mn), .ref af, .ref ac])), (al, .inl (N.2 0, 25, .inl lo)), (aw, .inl (N.2 0, 1500, .inl bk))] (fun (u : (Nat → Int32) × (Nat → Int32)) => mB u.1 u.2 t 5 first0 ∧ (∀ j, ¬ (5 * t ≤ j ∧ j < 5 * t + 5) → u.1 j = lo j) ∧ (∀ j, ¬ (300 * t ≤ j ∧ j < 300 * t + 300) → u.2 j = bk j)) (fun (u : (Nat → Int32) × (Nat → Int32)) => [(mm, .inr (11, [.ref an, .ref ak, .int (nI ke), .int (nI kn), .int fd, .ref ab, .ref az, .ref as_, .ref ae, .ref ao, .ref ar, .ref aw, .ref al, .ref am, .int (nI mn), .ref af, .ref ac])), (al, .inl (N.2 0, 25, .inl u.1)), (aw, .inl (N.2 0, 1500, .inl u.2))]) := by
  refine ckV.of (by decide) (Nat.le_of_ble_eq_true rfl) ?_
  intro pg eg sg mg blw mth cg Ag ls hx hb hrt hml hown hlk hin hg hE hA hP hD hS hl
  have hown : sg.vm.findClass RX11 = some mg.cls := hown
  have hl : lv_has ls 3 [(0, .ref mm), (1, .int (nI t))] := hl
  have C0 : ckC pg sg mg ([.ref mm, .int (nI t)]).toArray cg cX11_firstWords 3 RX11 N Ag := ⟨⟨hx, hb, hml, hown, hg⟩, hE, hA⟩
  generalize hHe : sg.heap = H at hP
  have hS : va_S Ag sg.heap H [] := hHe ▸ hS
  refine lv_iconst (v := (nI 0)) hx hb dX11_firstWords_0 (by decide) ?_
  refine lv_istore_n (lv' := [(2, .int (nI 0)), (0, .ref mm), (1, .int (nI t))]) hx hb dX11_firstWords_1 rfl hl (by decide) rfl (fun ls hl => ?_)
  have lp_2 : ∀ (dz : Nat) (k : Nat) (lo1 : Nat → Int32) (bk1 : Nat → Int32) (hdz : 5 - k = dz) (hk : k ≤ 5) (hz : mB lo1 bk1 t k first0) (hol : (∀ j, ¬ (5 * t ≤ j ∧ j < 5 * t + 5) → lo1 j = lo j)) (hob : (∀ j, ¬ (300 * t ≤ j ∧ j < 300 * t + 300) → bk1 j = bk j)) (H : Heap) (locs : List Loc) (ls : Array Slot), va_P N.1 vwCl [(mm, .inr (11, [.ref an, .ref ak, .int (nI ke), .int (nI kn), .int fd, .ref ab, .ref az, .ref as_, .ref ae, .ref ao, .ref ar, .ref aw, .ref al, .ref am, .int (nI mn), .ref af, .ref ac])), (al, .inl (N.2 0, 25, .inl lo1)), (aw, .inl (N.2 0, 1500, .inl bk1))] H → va_D Ag [(mm, .inr (11, [.ref an, .ref ak, .int (nI ke), .int (nI kn), .int fd, .ref ab, .ref az, .ref as_, .ref ae, .ref ao, .ref ar, .ref aw, .ref al, .ref am, .int (nI mn), .ref af, .ref ac])), (al, .inl (N.2 0, 25, .inl lo1)), (aw, .inl (N.2 0, 1500, .inl bk1))] → va_S Ag sg.heap H locs → lv_has ls 3 [(2, .int (nI k)), (0, .ref mm), (1, .int (nI t))] → W pg l eg { frames := 2, cells := 0, slots := 0, locals := 60 } sg mg ([.ref mm, .int (nI t)]).toArray blw mth cg H locs 0 0 (ckQv N Ag blw sg ([.ref mm, .int (nI t)]).toArray { frames := 2, cells := 0, slots := 0, locals := 60 } (fun (u : (Nat → Int32) × (Nat → Int32)) => mB u.1 u.2 t 5 first0 ∧ (∀ j, ¬ (5 * t ≤ j ∧ j < 5 * t + 5) → u.1 j = lo j) ∧ (∀ j, ¬ (300 * t ≤ j ∧ j < 300 * t + 300) → u.2 j = bk j)) (fun (u : (Nat → Int32) × (Nat → Int32)) => [(mm, .inr (11, [.ref an, .ref ak, .int (nI ke), .int (nI kn), .int fd, .ref ab, .ref az, .ref as_, .ref ae, .ref ao, .ref ar, .ref aw, .ref al, .ref am, .int (nI mn), .ref af, .ref ac])), (al, .inl (N.2 0, 25, .inl u.1)), (aw, .inl (N.2 0, 1500, .inl u.2))])) (F0 mg 2 ls []) := by
    intro dz
    induction dz using Nat.strongRecOn with
    | _ dz ih_2 =>
      intro k lo1 bk1 hdz hk hz hol hob H locs ls hP hD hS hl
      subst hdz
      refine lv_iload_n hx hb dX11_firstWords_2 rfl (lv_at hl 0 rfl) ?_
      refine lv_iconst (v := (nI 5)) hx hb dX11_firstWords_3 (by decide) ?_
      refine ck_ic_ge (tgt := 40) hx hb dX11_firstWords_4 (by decide) (by omega) (by omega) (fun cz_1 => ?_) (fun cz_1 => ?_)
      · exact ck_vret hx hb hrt hlk ⟨lo1, bk1⟩ (by have e : k = 5 := (by omega); subst e; exact ⟨hz, hol, hob⟩) hP hD hS ⟨Nat.le_of_ble_eq_true rfl, Nat.le_of_ble_eq_true rfl⟩ dX11_firstWords_40
      refine lv_aload_n hx hb dX11_firstWords_7 rfl (lv_at hl 1 rfl) ?_
      refine va_get (ci := 11) (v := .ref al) (C := RX11) (T := TX11) (N := 17) hx hb hg inX11 hown hE.1 hP 0 rfl rfl 12 (by decide) (hg _ k4_22) (fun _ h9 => h9) rfl dX11_firstWords_8 ?_
      refine lv_iconst (v := (nI 5)) hx hb dX11_firstWords_11 (by decide) ?_
      refine lv_iload_n hx hb dX11_firstWords_12 rfl (lv_at hl 2 rfl) ?_
      refine lv_imul hx hb dX11_firstWords_13 ?_
      refine ck_top (y := (nI (5 * t))) (pk_mul _ _) ?_
      refine lv_iload_n hx hb dX11_firstWords_14 rfl (lv_at hl 0 rfl) ?_
      refine lv_iadd hx hb dX11_firstWords_15 ?_
      refine ck_top (y := (nI (5 * t + k))) (nI_add _ _) ?_
      refine lv_iconst (v := (nI 1)) hx hb dX11_firstWords_16 (by decide) ?_
      refine ck_iast hx hb hE hP hD hS 1 rfl (by omega) (by decide) dX11_firstWords_17 (ws1 := [(mm, .inr (11, [.ref an, .ref ak, .int (nI ke), .int (nI kn), .int fd, .ref ab, .ref az, .ref as_, .ref ae, .ref ao, .ref ar, .ref aw, .ref al, .ref am, .int (nI mn), .ref af, .ref ac])), (al, .inl (N.2 0, 25, .inl (upd lo1 (5 * t + k) (nI 1)))), (aw, .inl (N.2 0, 1500, .inl bk1))]) rfl (fun H locs hP hD hS => ?_)
      refine lv_aload_n hx hb dX11_firstWords_18 rfl (lv_at hl 1 rfl) ?_
      refine va_get (ci := 11) (v := .ref aw) (C := RX11) (T := TX11) (N := 17) hx hb hg inX11 hown hE.1 hP 0 rfl rfl 11 (by decide) (hg _ k4_21) (fun _ h9 => h9) rfl dX11_firstWords_19 ?_
      refine lv_sipush (v := (nI 300)) hx hb dX11_firstWords_22 (by decide) ?_
      refine lv_iload_n hx hb dX11_firstWords_25 rfl (lv_at hl 2 rfl) ?_
      refine lv_imul hx hb dX11_firstWords_26 ?_
      refine ck_top (y := (nI (300 * t))) (pk_mul _ _) ?_
      refine lv_bipush (v := (nI 60)) hx hb dX11_firstWords_27 (by decide) ?_
      refine lv_iload_n hx hb dX11_firstWords_29 rfl (lv_at hl 0 rfl) ?_
      refine lv_imul hx hb dX11_firstWords_30 ?_
      refine ck_top (y := (nI (60 * k))) (pk_mul _ _) ?_
      refine lv_iadd hx hb dX11_firstWords_31 ?_
      refine ck_top (y := (nI (300 * t + (60 * k)))) (nI_add _ _) ?_
      refine lv_iload_n hx hb dX11_firstWords_32 rfl (lv_at hl 0 rfl) ?_
      refine ck_iast hx hb hE hP hD hS 2 rfl (by omega) (by decide) dX11_firstWords_33 (ws1 := [(mm, .inr (11, [.ref an, .ref ak, .int (nI ke), .int (nI kn), .int fd, .ref ab, .ref az, .ref as_, .ref ae, .ref ao, .ref ar, .ref aw, .ref al, .ref am, .int (nI mn), .ref af, .ref ac])), (al, .inl (N.2 0, 25, .inl (upd lo1 (5 * t + k) (nI 1)))), (aw, .inl (N.2 0, 1500, .inl (upd bk1 (300 * t + (60 * k)) (nI k))))]) rfl (fun H locs hP hD hS => ?_)
      refine lv_iinc (v := (nI (k + 1))) (lv' := [(2, .int (nI (k + 1))), (0, .ref mm), (1, .int (nI t))]) hx hb dX11_firstWords_34 hl (k := 0) rfl (nI_1 _) (by decide) rfl (fun ls hl => ?_)
      refine lv_goto (tgt := 2) hx hb dX11_firstWords_37 (by decide) ?_
      exact ih_2 _ (by omega) (k + 1) (upd lo1 (5 * t + k) (nI 1)) (upd bk1 (300 * t + (60 * k)) (nI k)) rfl (by omega) (mB_one hz (by omega)) (fun j hj => (pk_un (by omega)).trans (hol j hj)) (fun j hj => (pk_un (by omega)).trans (hob j hj)) _ _ ls hP hD hS hl
  exact lp_2 _ 0 lo bk rfl (by omega) (fun p hp => absurd hp (Nat.not_lt_zero p)) (fun j hj => rfl) (fun j hj => rfl) _ _ ls hP hD hS hl
set_option maxHeartbeats 4000000 in
set_option maxRecDepth 100000 in
/-- X11_fromNow -/
theorem c_X11_fromNow (l : Launch) (N : ckN) (mm : Nat) (an : Nat) (ak : Nat) (ab : Nat) (az : Nat) (as_ : Nat) (ae : Nat) (ao : Nat) (ar : Nat) (aw : Nat) (al : Nat) (am : Nat) (af : Nat) (ac : Nat) (ke : Nat) (kn : Nat) (fd : Int32) (mn : Nat) (nw : Nat → Int32) (lo : Nat → Int32) (bk : Nat → Int32) (cf : Nat) (n : Nat) (wk : Int32) (tr : Nat → Int32) (di : Nat → Int32) (fo : Nat → Int32) (w : Nat → List Nat) (sdf : Nat → Int32) (wof : Nat → Int32) (shf : Nat → Int32) (twf : Nat → Int32) (hV : mV nw cf n wk tr di fo w sdf wof shf twf) (hn : n ≤ 5) : ckV l yX11_fromNow cX11_fromNow 2 none { frames := 2, cells := 0, slots := 0, locals := 60 } N [.ref mm] [(mm, .inr (11, [.ref an, .ref ak, .int (nI ke), .int (nI kn), .int fd, .ref ab, .ref az, .ref as_, .ref ae, .ref ao, .ref ar, .ref aw, .ref al, .ref am, .int (nI mn), .ref af, .ref ac])), (an, .inl (N.2 0, 572, .inl nw)), (al, .inl (N.2 0, 25, .inl lo)), (aw, .inl (N.2 0, 1500, .inl bk))] (fun (u : (Nat → Int32) × (Nat → Int32)) => mB u.1 u.2 0 n w ∧ (∀ j, 5 ≤ j → u.1 j = lo j) ∧ (∀ j, 300 ≤ j → u.2 j = bk j)) (fun (u : (Nat → Int32) × (Nat → Int32)) => [(mm, .inr (11, [.ref an, .ref ak, .int (nI ke), .int (nI kn), .int fd, .ref ab, .ref az, .ref as_, .ref ae, .ref ao, .ref ar, .ref aw, .ref al, .ref am, .int (nI mn), .ref af, .ref ac])), (an, .inl (N.2 0, 572, .inl nw)), (al, .inl (N.2 0, 25, .inl u.1)), (aw, .inl (N.2 0, 1500, .inl u.2))]) := by
  refine ckV.of (by decide) (Nat.le_of_ble_eq_true rfl) ?_
  intro pg eg sg mg blw mth cg Ag ls hx hb hrt hml hown hlk hin hg hE hA hP hD hS hl
  have hown : sg.vm.findClass RX11 = some mg.cls := hown
  have hl : lv_has ls 2 [(0, .ref mm)] := hl
  have C0 : ckC pg sg mg ([.ref mm]).toArray cg cX11_fromNow 2 RX11 N Ag := ⟨⟨hx, hb, hml, hown, hg⟩, hE, hA⟩
  generalize hHe : sg.heap = H at hP
  have hS : va_S Ag sg.heap H [] := hHe ▸ hS
  refine lv_iconst (v := (nI 0)) hx hb dX11_fromNow_0 (by decide) ?_
  refine lv_istore_n (lv' := [(1, .int (nI 0)), (0, .ref mm)]) hx hb dX11_fromNow_1 rfl hl (by decide) rfl (fun ls hl => ?_)
  have lp_2 : ∀ (dz : Nat) (k : Nat) (lo1 : Nat → Int32) (hdz : 5 - k = dz) (hk : k ≤ 5) (hl1 : lo1 = guT lo 0 (fun p => nw (232 + p)) k) (H : Heap) (locs : List Loc) (ls : Array Slot), va_P N.1 vwCl [(mm, .inr (11, [.ref an, .ref ak, .int (nI ke), .int (nI kn), .int fd, .ref ab, .ref az, .ref as_, .ref ae, .ref ao, .ref ar, .ref aw, .ref al, .ref am, .int (nI mn), .ref af, .ref ac])), (an, .inl (N.2 0, 572, .inl nw)), (al, .inl (N.2 0, 25, .inl lo1)), (aw, .inl (N.2 0, 1500, .inl bk))] H → va_D Ag [(mm, .inr (11, [.ref an, .ref ak, .int (nI ke), .int (nI kn), .int fd, .ref ab, .ref az, .ref as_, .ref ae, .ref ao, .ref ar, .ref aw, .ref al, .ref am, .int (nI mn), .ref af, .ref ac])), (an, .inl (N.2 0, 572, .inl nw)), (al, .inl (N.2 0, 25, .inl lo1)), (aw, .inl (N.2 0, 1500, .inl bk))] → va_S Ag sg.heap H locs → lv_has ls 2 [(1, .int (nI k)), (0, .ref mm)] → W pg l eg { frames := 2, cells := 0, slots := 0, locals := 60 } sg mg ([.ref mm]).toArray blw mth cg H locs 0 0 (ckQv N Ag blw sg ([.ref mm]).toArray { frames := 2, cells := 0, slots := 0, locals := 60 } (fun (u : (Nat → Int32) × (Nat → Int32)) => mB u.1 u.2 0 n w ∧ (∀ j, 5 ≤ j → u.1 j = lo j) ∧ (∀ j, 300 ≤ j → u.2 j = bk j)) (fun (u : (Nat → Int32) × (Nat → Int32)) => [(mm, .inr (11, [.ref an, .ref ak, .int (nI ke), .int (nI kn), .int fd, .ref ab, .ref az, .ref as_, .ref ae, .ref ao, .ref ar, .ref aw, .ref al, .ref am, .int (nI mn), .ref af, .ref ac])), (an, .inl (N.2 0, 572, .inl nw)), (al, .inl (N.2 0, 25, .inl u.1)), (aw, .inl (N.2 0, 1500, .inl u.2))])) (F0 mg 2 ls []) := by
    intro dz
    induction dz using Nat.strongRecOn with
    | _ dz ih_2 =>
      intro k lo1 hdz hk hl1 H locs ls hP hD hS hl
      subst hdz
      refine lv_iload_n hx hb dX11_fromNow_2 rfl (lv_at hl 0 rfl) ?_
      refine lv_iconst (v := (nI 5)) hx hb dX11_fromNow_3 (by decide) ?_
      refine ck_ic_ge (tgt := 29) hx hb dX11_fromNow_4 (by decide) (by omega) (by omega) (fun cz_1 => ?_) (fun cz_1 => ?_)
      · refine lv_iconst (v := (nI 0)) hx hb dX11_fromNow_29 (by decide) ?_
        refine lv_istore_n (lv' := [(1, .int (nI 0)), (0, .ref mm)]) hx hb dX11_fromNow_30 rfl hl (by decide) rfl (fun ls hl => ?_)
        have lp_31 : ∀ (dz : Nat) (k2 : Nat) (bk1 : Nat → Int32) (hdz : 300 - k2 = dz) (hk2 : k2 ≤ 300) (hb1 : bk1 = guT bk 0 (fun p => nw (272 + p)) k2) (H : Heap) (locs : List Loc) (ls : Array Slot), va_P N.1 vwCl [(mm, .inr (11, [.ref an, .ref ak, .int (nI ke), .int (nI kn), .int fd, .ref ab, .ref az, .ref as_, .ref ae, .ref ao, .ref ar, .ref aw, .ref al, .ref am, .int (nI mn), .ref af, .ref ac])), (an, .inl (N.2 0, 572, .inl nw)), (al, .inl (N.2 0, 25, .inl lo1)), (aw, .inl (N.2 0, 1500, .inl bk1))] H → va_D Ag [(mm, .inr (11, [.ref an, .ref ak, .int (nI ke), .int (nI kn), .int fd, .ref ab, .ref az, .ref as_, .ref ae, .ref ao, .ref ar, .ref aw, .ref al, .ref am, .int (nI mn), .ref af, .ref ac])), (an, .inl (N.2 0, 572, .inl nw)), (al, .inl (N.2 0, 25, .inl lo1)), (aw, .inl (N.2 0, 1500, .inl bk1))] → va_S Ag sg.heap H locs → lv_has ls 2 [(1, .int (nI k2)), (0, .ref mm)] → W pg l eg { frames := 2, cells := 0, slots := 0, locals := 60 } sg mg ([.ref mm]).toArray blw mth cg H locs 0 0 (ckQv N Ag blw sg ([.ref mm]).toArray { frames := 2, cells := 0, slots := 0, locals := 60 } (fun (u : (Nat → Int32) × (Nat → Int32)) => mB u.1 u.2 0 n w ∧ (∀ j, 5 ≤ j → u.1 j = lo j) ∧ (∀ j, 300 ≤ j → u.2 j = bk j)) (fun (u : (Nat → Int32) × (Nat → Int32)) => [(mm, .inr (11, [.ref an, .ref ak, .int (nI ke), .int (nI kn), .int fd, .ref ab, .ref az, .ref as_, .ref ae, .ref ao, .ref ar, .ref aw, .ref al, .ref am, .int (nI mn), .ref af, .ref ac])), (an, .inl (N.2 0, 572, .inl nw)), (al, .inl (N.2 0, 25, .inl u.1)), (aw, .inl (N.2 0, 1500, .inl u.2))])) (F0 mg 31 ls []) := by
          intro dz
          induction dz using Nat.strongRecOn with
          | _ dz ih_31 =>
            intro k2 bk1 hdz hk2 hb1 H locs ls hP hD hS hl
            subst hdz
            refine lv_iload_n hx hb dX11_fromNow_31 rfl (lv_at hl 0 rfl) ?_
            refine lv_sipush (v := (nI 300)) hx hb dX11_fromNow_32 (by decide) ?_
            refine ck_ic_ge (tgt := 60) hx hb dX11_fromNow_35 (by decide) (by omega) (by omega) (fun cz_2 => ?_) (fun cz_2 => ?_)
            · exact ck_vret hx hb hrt hlk ⟨lo1, bk1⟩ (by rw [hl1, hb1, (show k = 5 by omega), (show k2 = 300 by omega)]; exact ⟨ckWd_congr hV.2.2.2.2.2.2.2.2.2.2 (fun p hp => (show guT lo 0 (fun p => nw (232 + p)) 5 (5 * 0 + p) = nw (232 + p) from (guT_in (by omega)).trans (congrArg nw (by omega)))) (fun p k hp hk => (show guT bk 0 (fun p => nw (272 + p)) 300 (300 * 0 + (p * 60 + k)) = nw (272 + (p * 60 + k)) from (guT_in (by omega)).trans (congrArg nw (by omega)))), fun j hj => (show guT lo 0 (fun p => nw (232 + p)) 5 j = lo j from guT_out (by omega)), fun j hj => (show guT bk 0 (fun p => nw (272 + p)) 300 j = bk j from guT_out (by omega))⟩) hP hD hS ⟨Nat.le_of_ble_eq_true rfl, Nat.le_of_ble_eq_true rfl⟩ dX11_fromNow_60
            refine lv_aload_n hx hb dX11_fromNow_38 rfl (lv_at hl 1 rfl) ?_
            refine va_get (ci := 11) (v := .ref aw) (C := RX11) (T := TX11) (N := 17) hx hb hg inX11 hown hE.1 hP 0 rfl rfl 11 (by decide) (hg _ k4_21) (fun _ h9 => h9) rfl dX11_fromNow_39 ?_
            refine lv_iload_n hx hb dX11_fromNow_42 rfl (lv_at hl 0 rfl) ?_
            refine lv_aload_n hx hb dX11_fromNow_43 rfl (lv_at hl 1 rfl) ?_
            refine va_get (ci := 11) (v := .ref an) (C := RX11) (T := TX11) (N := 17) hx hb hg inX11 hown hE.1 hP 0 rfl rfl 0 (by decide) (hg _ k4_10) (fun _ h9 => h9) rfl dX11_fromNow_44 ?_
            refine lv_sipush (v := (nI 272)) hx hb dX11_fromNow_47 (by decide) ?_
            refine lv_iload_n hx hb dX11_fromNow_50 rfl (lv_at hl 0 rfl) ?_
            refine lv_iadd hx hb dX11_fromNow_51 ?_
            refine ck_top (y := (nI (272 + k2))) (nI_add _ _) ?_
            refine ck_iald hx hb hE hP 1 rfl (by omega) (by decide) dX11_fromNow_52 ?_
            refine ck_iast hx hb hE hP hD hS 3 rfl (by omega) (by decide) dX11_fromNow_53 (ws1 := [(mm, .inr (11, [.ref an, .ref ak, .int (nI ke), .int (nI kn), .int fd, .ref ab, .ref az, .ref as_, .ref ae, .ref ao, .ref ar, .ref aw, .ref al, .ref am, .int (nI mn), .ref af, .ref ac])), (an, .inl (N.2 0, 572, .inl nw)), (al, .inl (N.2 0, 25, .inl lo1)), (aw, .inl (N.2 0, 1500, .inl (upd bk1 k2 (nw (272 + k2)))))]) rfl (fun H locs hP hD hS => ?_)
            refine lv_iinc (v := (nI (k2 + 1))) (lv' := [(1, .int (nI (k2 + 1))), (0, .ref mm)]) hx hb dX11_fromNow_54 hl (k := 0) rfl (nI_1 _) (by decide) rfl (fun ls hl => ?_)
            refine lv_goto (tgt := 31) hx hb dX11_fromNow_57 (by decide) ?_
            exact ih_31 _ (by omega) (k2 + 1) (upd bk1 k2 (nw (272 + k2))) rfl (by omega) (by rw [hb1]; exact guT_s0 bk (fun p => nw (272 + p)) k2) _ _ ls hP hD hS hl
        exact lp_31 _ 0 bk rfl (by omega) (guT_0 _ _ _).symm _ _ ls hP hD hS hl
      refine lv_aload_n hx hb dX11_fromNow_7 rfl (lv_at hl 1 rfl) ?_
      refine va_get (ci := 11) (v := .ref al) (C := RX11) (T := TX11) (N := 17) hx hb hg inX11 hown hE.1 hP 0 rfl rfl 12 (by decide) (hg _ k4_22) (fun _ h9 => h9) rfl dX11_fromNow_8 ?_
      refine lv_iload_n hx hb dX11_fromNow_11 rfl (lv_at hl 0 rfl) ?_
      refine lv_aload_n hx hb dX11_fromNow_12 rfl (lv_at hl 1 rfl) ?_
      refine va_get (ci := 11) (v := .ref an) (C := RX11) (T := TX11) (N := 17) hx hb hg inX11 hown hE.1 hP 0 rfl rfl 0 (by decide) (hg _ k4_10) (fun _ h9 => h9) rfl dX11_fromNow_13 ?_
      refine lv_sipush (v := (nI 232)) hx hb dX11_fromNow_16 (by decide) ?_
      refine lv_iload_n hx hb dX11_fromNow_19 rfl (lv_at hl 0 rfl) ?_
      refine lv_iadd hx hb dX11_fromNow_20 ?_
      refine ck_top (y := (nI (232 + k))) (nI_add _ _) ?_
      refine ck_iald hx hb hE hP 1 rfl (by omega) (by decide) dX11_fromNow_21 ?_
      refine ck_iast hx hb hE hP hD hS 2 rfl (by omega) (by decide) dX11_fromNow_22 (ws1 := [(mm, .inr (11, [.ref an, .ref ak, .int (nI ke), .int (nI kn), .int fd, .ref ab, .ref az, .ref as_, .ref ae, .ref ao, .ref ar, .ref aw, .ref al, .ref am, .int (nI mn), .ref af, .ref ac])), (an, .inl (N.2 0, 572, .inl nw)), (al, .inl (N.2 0, 25, .inl (upd lo1 k (nw (232 + k))))), (aw, .inl (N.2 0, 1500, .inl bk))]) rfl (fun H locs hP hD hS => ?_)
      refine lv_iinc (v := (nI (k + 1))) (lv' := [(1, .int (nI (k + 1))), (0, .ref mm)]) hx hb dX11_fromNow_23 hl (k := 0) rfl (nI_1 _) (by decide) rfl (fun ls hl => ?_)
      refine lv_goto (tgt := 2) hx hb dX11_fromNow_26 (by decide) ?_
      exact ih_2 _ (by omega) (k + 1) (upd lo1 k (nw (232 + k))) rfl (by omega) (by rw [hl1]; exact guT_s0 lo (fun p => nw (232 + p)) k) _ _ ls hP hD hS hl
  exact lp_2 _ 0 lo rfl (by omega) (guT_0 _ _ _).symm _ _ ls hP hD hS hl
set_option maxHeartbeats 4000000 in
set_option maxRecDepth 100000 in
/-- X11_toNow -/
theorem c_X11_toNow (l : Launch) (N : ckN) (mm : Nat) (an : Nat) (ak : Nat) (ab : Nat) (az : Nat) (as_ : Nat) (ae : Nat) (ao : Nat) (ar : Nat) (aw : Nat) (al : Nat) (am : Nat) (af : Nat) (ac : Nat) (ke : Nat) (kn : Nat) (fd : Int32) (mn : Nat) (nw : Nat → Int32) (lo : Nat → Int32) (bk : Nat → Int32) (b : Nat) (hb5 : b < 5) : ckV l yX11_toNow cX11_toNow 3 none { frames := 2, cells := 0, slots := 0, locals := 60 } N [.ref mm, .int (nI b)] [(mm, .inr (11, [.ref an, .ref ak, .int (nI ke), .int (nI kn), .int fd, .ref ab, .ref az, .ref as_, .ref ae, .ref ao, .ref ar, .ref aw, .ref al, .ref am, .int (nI mn), .ref af, .ref ac])), (an, .inl (N.2 0, 572, .inl nw)), (al, .inl (N.2 0, 25, .inl lo)), (aw, .inl (N.2 0, 1500, .inl bk))] (fun (u : (Nat → Int32)) => (∀ j, j < 232 ∨ 237 ≤ j ∧ j < 272 → u j = nw j) ∧ (∀ p, p < 5 → u (232 + p) = lo (5 * b + p)) ∧ (∀ k, k < 300 → u (272 + k) = bk (300 * b + k))) (fun (u : (Nat → Int32)) => [(mm, .inr (11, [.ref an, .ref ak, .int (nI ke), .int (nI kn), .int fd, .ref ab, .ref az, .ref as_, .ref ae, .ref ao, .ref ar, .ref aw, .ref al, .ref am, .int (nI mn), .ref af, .ref ac])), (an, .inl (N.2 0, 572, .inl u)), (al, .inl (N.2 0, 25, .inl lo)), (aw, .inl (N.2 0, 1500, .inl bk))]) := by
  refine ckV.of (by decide) (Nat.le_of_ble_eq_true rfl) ?_
  intro pg eg sg mg blw mth cg Ag ls hx hb hrt hml hown hlk hin hg hE hA hP hD hS hl
  have hown : sg.vm.findClass RX11 = some mg.cls := hown
  have hl : lv_has ls 3 [(0, .ref mm), (1, .int (nI b))] := hl
  have C0 : ckC pg sg mg ([.ref mm, .int (nI b)]).toArray cg cX11_toNow 3 RX11 N Ag := ⟨⟨hx, hb, hml, hown, hg⟩, hE, hA⟩
  generalize hHe : sg.heap = H at hP
  have hS : va_S Ag sg.heap H [] := hHe ▸ hS
  refine lv_iconst (v := (nI 0)) hx hb dX11_toNow_0 (by decide) ?_
  refine lv_istore_n (lv' := [(2, .int (nI 0)), (0, .ref mm), (1, .int (nI b))]) hx hb dX11_toNow_1 rfl hl (by decide) rfl (fun ls hl => ?_)
  have lp_2 : ∀ (dz : Nat) (k : Nat) (nw1 : Nat → Int32) (hdz : 5 - k = dz) (hk : k ≤ 5) (hl1 : nw1 = guT nw 232 (fun p => lo (5 * b + p)) k) (H : Heap) (locs : List Loc) (ls : Array Slot), va_P N.1 vwCl [(mm, .inr (11, [.ref an, .ref ak, .int (nI ke), .int (nI kn), .int fd, .ref ab, .ref az, .ref as_, .ref ae, .ref ao, .ref ar, .ref aw, .ref al, .ref am, .int (nI mn), .ref af, .ref ac])), (an, .inl (N.2 0, 572, .inl nw1)), (al, .inl (N.2 0, 25, .inl lo)), (aw, .inl (N.2 0, 1500, .inl bk))] H → va_D Ag [(mm, .inr (11, [.ref an, .ref ak, .int (nI ke), .int (nI kn), .int fd, .ref ab, .ref az, .ref as_, .ref ae, .ref ao, .ref ar, .ref aw, .ref al, .ref am, .int (nI mn), .ref af, .ref ac])), (an, .inl (N.2 0, 572, .inl nw1)), (al, .inl (N.2 0, 25, .inl lo)), (aw, .inl (N.2 0, 1500, .inl bk))] → va_S Ag sg.heap H locs → lv_has ls 3 [(2, .int (nI k)), (0, .ref mm), (1, .int (nI b))] → W pg l eg { frames := 2, cells := 0, slots := 0, locals := 60 } sg mg ([.ref mm, .int (nI b)]).toArray blw mth cg H locs 0 0 (ckQv N Ag blw sg ([.ref mm, .int (nI b)]).toArray { frames := 2, cells := 0, slots := 0, locals := 60 } (fun (u : (Nat → Int32)) => (∀ j, j < 232 ∨ 237 ≤ j ∧ j < 272 → u j = nw j) ∧ (∀ p, p < 5 → u (232 + p) = lo (5 * b + p)) ∧ (∀ k, k < 300 → u (272 + k) = bk (300 * b + k))) (fun (u : (Nat → Int32)) => [(mm, .inr (11, [.ref an, .ref ak, .int (nI ke), .int (nI kn), .int fd, .ref ab, .ref az, .ref as_, .ref ae, .ref ao, .ref ar, .ref aw, .ref al, .ref am, .int (nI mn), .ref af, .ref ac])), (an, .inl (N.2 0, 572, .inl u)), (al, .inl (N.2 0, 25, .inl lo)), (aw, .inl (N.2 0, 1500, .inl bk))])) (F0 mg 2 ls []) := by
    intro dz
    induction dz using Nat.strongRecOn with
    | _ dz ih_2 =>
      intro k nw1 hdz hk hl1 H locs ls hP hD hS hl
      subst hdz
      refine lv_iload_n hx hb dX11_toNow_2 rfl (lv_at hl 0 rfl) ?_
      refine lv_iconst (v := (nI 5)) hx hb dX11_toNow_3 (by decide) ?_
      refine ck_ic_ge (tgt := 33) hx hb dX11_toNow_4 (by decide) (by omega) (by omega) (fun cz_1 => ?_) (fun cz_1 => ?_)
      · refine lv_iconst (v := (nI 0)) hx hb dX11_toNow_33 (by decide) ?_
        refine lv_istore_n (lv' := [(2, .int (nI 0)), (0, .ref mm), (1, .int (nI b))]) hx hb dX11_toNow_34 rfl hl (by decide) rfl (fun ls hl => ?_)
        have lp_35 : ∀ (dz : Nat) (k2 : Nat) (nw3 : Nat → Int32) (hdz : 300 - k2 = dz) (hk2 : k2 ≤ 300) (hb1 : nw3 = guT nw1 272 (fun p => bk (300 * b + p)) k2) (H : Heap) (locs : List Loc) (ls : Array Slot), va_P N.1 vwCl [(mm, .inr (11, [.ref an, .ref ak, .int (nI ke), .int (nI kn), .int fd, .ref ab, .ref az, .ref as_, .ref ae, .ref ao, .ref ar, .ref aw, .ref al, .ref am, .int (nI mn), .ref af, .ref ac])), (an, .inl (N.2 0, 572, .inl nw3)), (al, .inl (N.2 0, 25, .inl lo)), (aw, .inl (N.2 0, 1500, .inl bk))] H → va_D Ag [(mm, .inr (11, [.ref an, .ref ak, .int (nI ke), .int (nI kn), .int fd, .ref ab, .ref az, .ref as_, .ref ae, .ref ao, .ref ar, .ref aw, .ref al, .ref am, .int (nI mn), .ref af, .ref ac])), (an, .inl (N.2 0, 572, .inl nw3)), (al, .inl (N.2 0, 25, .inl lo)), (aw, .inl (N.2 0, 1500, .inl bk))] → va_S Ag sg.heap H locs → lv_has ls 3 [(2, .int (nI k2)), (0, .ref mm), (1, .int (nI b))] → W pg l eg { frames := 2, cells := 0, slots := 0, locals := 60 } sg mg ([.ref mm, .int (nI b)]).toArray blw mth cg H locs 0 0 (ckQv N Ag blw sg ([.ref mm, .int (nI b)]).toArray { frames := 2, cells := 0, slots := 0, locals := 60 } (fun (u : (Nat → Int32)) => (∀ j, j < 232 ∨ 237 ≤ j ∧ j < 272 → u j = nw j) ∧ (∀ p, p < 5 → u (232 + p) = lo (5 * b + p)) ∧ (∀ k, k < 300 → u (272 + k) = bk (300 * b + k))) (fun (u : (Nat → Int32)) => [(mm, .inr (11, [.ref an, .ref ak, .int (nI ke), .int (nI kn), .int fd, .ref ab, .ref az, .ref as_, .ref ae, .ref ao, .ref ar, .ref aw, .ref al, .ref am, .int (nI mn), .ref af, .ref ac])), (an, .inl (N.2 0, 572, .inl u)), (al, .inl (N.2 0, 25, .inl lo)), (aw, .inl (N.2 0, 1500, .inl bk))])) (F0 mg 35 ls []) := by
          intro dz
          induction dz using Nat.strongRecOn with
          | _ dz ih_35 =>
            intro k2 nw3 hdz hk2 hb1 H locs ls hP hD hS hl
            subst hdz
            refine lv_iload_n hx hb dX11_toNow_35 rfl (lv_at hl 0 rfl) ?_
            refine lv_sipush (v := (nI 300)) hx hb dX11_toNow_36 (by decide) ?_
            refine ck_ic_ge (tgt := 70) hx hb dX11_toNow_39 (by decide) (by omega) (by omega) (fun cz_2 => ?_) (fun cz_2 => ?_)
            · exact ck_vret hx hb hrt hlk (nw3) (by rw [hb1, hl1, (show k = 5 by omega), (show k2 = 300 by omega)]; exact ⟨fun j hj => (guT_out (by omega)).trans (guT_out (by omega)), fun p hp => (guT_out (by omega)).trans ((guT_in (by omega)).trans (congrArg (fun z => lo (5 * b + z)) (by omega))), fun k hk => (guT_in (by omega)).trans (congrArg (fun z => bk (300 * b + z)) (by omega))⟩) hP hD hS ⟨Nat.le_of_ble_eq_true rfl, Nat.le_of_ble_eq_true rfl⟩ dX11_toNow_70
            refine lv_aload_n hx hb dX11_toNow_42 rfl (lv_at hl 1 rfl) ?_
            refine va_get (ci := 11) (v := .ref an) (C := RX11) (T := TX11) (N := 17) hx hb hg inX11 hown hE.1 hP 0 rfl rfl 0 (by decide) (hg _ k4_10) (fun _ h9 => h9) rfl dX11_toNow_43 ?_
            refine lv_sipush (v := (nI 272)) hx hb dX11_toNow_46 (by decide) ?_
            refine lv_iload_n hx hb dX11_toNow_49 rfl (lv_at hl 0 rfl) ?_
            refine lv_iadd hx hb dX11_toNow_50 ?_
            refine ck_top (y := (nI (272 + k2))) (nI_add _ _) ?_
            refine lv_aload_n hx hb dX11_toNow_51 rfl (lv_at hl 1 rfl) ?_
            refine va_get (ci := 11) (v := .ref aw) (C := RX11) (T := TX11) (N := 17) hx hb hg inX11 hown hE.1 hP 0 rfl rfl 11 (by decide) (hg _ k4_21) (fun _ h9 => h9) rfl dX11_toNow_52 ?_
            refine lv_sipush (v := (nI 300)) hx hb dX11_toNow_55 (by decide) ?_
            refine lv_iload_n hx hb dX11_toNow_58 rfl (lv_at hl 2 rfl) ?_
            refine lv_imul hx hb dX11_toNow_59 ?_
            refine ck_top (y := (nI (300 * b))) (pk_mul _ _) ?_
            refine lv_iload_n hx hb dX11_toNow_60 rfl (lv_at hl 0 rfl) ?_
            refine lv_iadd hx hb dX11_toNow_61 ?_
            refine ck_top (y := (nI (300 * b + k2))) (nI_add _ _) ?_
            refine ck_iald hx hb hE hP 3 rfl (by omega) (by decide) dX11_toNow_62 ?_
            refine ck_iast hx hb hE hP hD hS 1 rfl (by omega) (by decide) dX11_toNow_63 (ws1 := [(mm, .inr (11, [.ref an, .ref ak, .int (nI ke), .int (nI kn), .int fd, .ref ab, .ref az, .ref as_, .ref ae, .ref ao, .ref ar, .ref aw, .ref al, .ref am, .int (nI mn), .ref af, .ref ac])), (an, .inl (N.2 0, 572, .inl (upd nw3 (272 + k2) (bk (300 * b + k2))))), (al, .inl (N.2 0, 25, .inl lo)), (aw, .inl (N.2 0, 1500, .inl bk))]) rfl (fun H locs hP hD hS => ?_)
            refine lv_iinc (v := (nI (k2 + 1))) (lv' := [(2, .int (nI (k2 + 1))), (0, .ref mm), (1, .int (nI b))]) hx hb dX11_toNow_64 hl (k := 0) rfl (nI_1 _) (by decide) rfl (fun ls hl => ?_)
            refine lv_goto (tgt := 35) hx hb dX11_toNow_67 (by decide) ?_
            exact ih_35 _ (by omega) (k2 + 1) (upd nw3 (272 + k2) (bk (300 * b + k2))) rfl (by omega) (by rw [hb1]; exact guT_s nw1 272 (fun p => bk (300 * b + p)) k2) _ _ ls hP hD hS hl
        exact lp_35 _ 0 nw1 rfl (by omega) (guT_0 _ _ _).symm _ _ ls hP hD hS hl
      refine lv_aload_n hx hb dX11_toNow_7 rfl (lv_at hl 1 rfl) ?_
      refine va_get (ci := 11) (v := .ref an) (C := RX11) (T := TX11) (N := 17) hx hb hg inX11 hown hE.1 hP 0 rfl rfl 0 (by decide) (hg _ k4_10) (fun _ h9 => h9) rfl dX11_toNow_8 ?_
      refine lv_sipush (v := (nI 232)) hx hb dX11_toNow_11 (by decide) ?_
      refine lv_iload_n hx hb dX11_toNow_14 rfl (lv_at hl 0 rfl) ?_
      refine lv_iadd hx hb dX11_toNow_15 ?_
      refine ck_top (y := (nI (232 + k))) (nI_add _ _) ?_
      refine lv_aload_n hx hb dX11_toNow_16 rfl (lv_at hl 1 rfl) ?_
      refine va_get (ci := 11) (v := .ref al) (C := RX11) (T := TX11) (N := 17) hx hb hg inX11 hown hE.1 hP 0 rfl rfl 12 (by decide) (hg _ k4_22) (fun _ h9 => h9) rfl dX11_toNow_17 ?_
      refine lv_iconst (v := (nI 5)) hx hb dX11_toNow_20 (by decide) ?_
      refine lv_iload_n hx hb dX11_toNow_21 rfl (lv_at hl 2 rfl) ?_
      refine lv_imul hx hb dX11_toNow_22 ?_
      refine ck_top (y := (nI (5 * b))) (pk_mul _ _) ?_
      refine lv_iload_n hx hb dX11_toNow_23 rfl (lv_at hl 0 rfl) ?_
      refine lv_iadd hx hb dX11_toNow_24 ?_
      refine ck_top (y := (nI (5 * b + k))) (nI_add _ _) ?_
      refine ck_iald hx hb hE hP 2 rfl (by omega) (by decide) dX11_toNow_25 ?_
      refine ck_iast hx hb hE hP hD hS 1 rfl (by omega) (by decide) dX11_toNow_26 (ws1 := [(mm, .inr (11, [.ref an, .ref ak, .int (nI ke), .int (nI kn), .int fd, .ref ab, .ref az, .ref as_, .ref ae, .ref ao, .ref ar, .ref aw, .ref al, .ref am, .int (nI mn), .ref af, .ref ac])), (an, .inl (N.2 0, 572, .inl (upd nw1 (232 + k) (lo (5 * b + k))))), (al, .inl (N.2 0, 25, .inl lo)), (aw, .inl (N.2 0, 1500, .inl bk))]) rfl (fun H locs hP hD hS => ?_)
      refine lv_iinc (v := (nI (k + 1))) (lv' := [(2, .int (nI (k + 1))), (0, .ref mm), (1, .int (nI b))]) hx hb dX11_toNow_27 hl (k := 0) rfl (nI_1 _) (by decide) rfl (fun ls hl => ?_)
      refine lv_goto (tgt := 2) hx hb dX11_toNow_30 (by decide) ?_
      exact ih_2 _ (by omega) (k + 1) (upd nw1 (232 + k) (lo (5 * b + k))) rfl (by omega) (by rw [hl1]; exact guT_s nw 232 (fun p => lo (5 * b + p)) k) _ _ ls hP hD hS hl
  exact lp_2 _ 0 nw rfl (by omega) (guT_0 _ _ _).symm _ _ ls hP hD hS hl
set_option maxHeartbeats 4000000 in
set_option maxRecDepth 100000 in
/-- X11_isFirst -/
theorem c_X11_isFirst (l : Launch) (N : ckN) (mm : Nat) (an : Nat) (ak : Nat) (ab : Nat) (az : Nat) (as_ : Nat) (ae : Nat) (ao : Nat) (ar : Nat) (aw : Nat) (al : Nat) (am : Nat) (af : Nat) (ac : Nat) (ke : Nat) (kn : Nat) (fd : Int32) (mn : Nat) (lo : Nat → Int32) (bk : Nat → Int32) (w : Nat → List Nat) (b : Nat) (n : Nat) (hB : mB lo bk b n w) (hb5 : b < 5) (hn : n ≤ 5) : ckI l yX11_isFirst cX11_isFirst 4 (some FieldType.boolean) { frames := 2, cells := 0, slots := 0, locals := 60 } N [.ref mm, .int (nI b), .int (nI n)] [(mm, .inr (11, [.ref an, .ref ak, .int (nI ke), .int (nI kn), .int fd, .ref ab, .ref az, .ref as_, .ref ae, .ref ao, .ref ar, .ref aw, .ref al, .ref am, .int (nI mn), .ref af, .ref ac])), (al, .inl (N.2 0, 25, .inl lo)), (aw, .inl (N.2 0, 1500, .inl bk))] (fun (r : Int32) (u : Unit) => r = (b2i (ckFirst w n))) (fun (u : Unit) => [(mm, .inr (11, [.ref an, .ref ak, .int (nI ke), .int (nI kn), .int fd, .ref ab, .ref az, .ref as_, .ref ae, .ref ao, .ref ar, .ref aw, .ref al, .ref am, .int (nI mn), .ref af, .ref ac])), (al, .inl (N.2 0, 25, .inl lo)), (aw, .inl (N.2 0, 1500, .inl bk))]) := by
  refine ckI.of (by decide) (Nat.le_of_ble_eq_true rfl) ?_
  intro pg eg sg mg blw mth cg Ag ls hx hb hrt hml hown hlk hin hg hE hA hP hD hS hl
  have hown : sg.vm.findClass RX11 = some mg.cls := hown
  have hl : lv_has ls 4 [(0, .ref mm), (1, .int (nI b)), (2, .int (nI n))] := hl
  have C0 : ckC pg sg mg ([.ref mm, .int (nI b), .int (nI n)]).toArray cg cX11_isFirst 4 RX11 N Ag := ⟨⟨hx, hb, hml, hown, hg⟩, hE, hA⟩
  generalize hHe : sg.heap = H at hP
  have hS : va_S Ag sg.heap H [] := hHe ▸ hS
  refine lv_iconst (v := (nI 0)) hx hb dX11_isFirst_0 (by decide) ?_
  refine lv_istore_n (lv' := [(3, .int (nI 0)), (0, .ref mm), (1, .int (nI b)), (2, .int (nI n))]) hx hb dX11_isFirst_1 rfl hl (by decide) rfl (fun ls hl => ?_)
  have lp_2 : ∀ (dz : Nat) (k : Nat) (hdz : n - k = dz) (hk : k ≤ n) (hz : ∀ q, q < k → w q = [q]) (H : Heap) (locs : List Loc) (ls : Array Slot), va_P N.1 vwCl [(mm, .inr (11, [.ref an, .ref ak, .int (nI ke), .int (nI kn), .int fd, .ref ab, .ref az, .ref as_, .ref ae, .ref ao, .ref ar, .ref aw, .ref al, .ref am, .int (nI mn), .ref af, .ref ac])), (al, .inl (N.2 0, 25, .inl lo)), (aw, .inl (N.2 0, 1500, .inl bk))] H → va_D Ag [(mm, .inr (11, [.ref an, .ref ak, .int (nI ke), .int (nI kn), .int fd, .ref ab, .ref az, .ref as_, .ref ae, .ref ao, .ref ar, .ref aw, .ref al, .ref am, .int (nI mn), .ref af, .ref ac])), (al, .inl (N.2 0, 25, .inl lo)), (aw, .inl (N.2 0, 1500, .inl bk))] → va_S Ag sg.heap H locs → lv_has ls 4 [(3, .int (nI k)), (0, .ref mm), (1, .int (nI b)), (2, .int (nI n))] → W pg l eg { frames := 2, cells := 0, slots := 0, locals := 60 } sg mg ([.ref mm, .int (nI b), .int (nI n)]).toArray blw mth cg H locs 0 0 (ckQi N Ag blw sg ([.ref mm, .int (nI b), .int (nI n)]).toArray { frames := 2, cells := 0, slots := 0, locals := 60 } (fun (r : Int32) (u : Unit) => r = (b2i (ckFirst w n))) (fun (u : Unit) => [(mm, .inr (11, [.ref an, .ref ak, .int (nI ke), .int (nI kn), .int fd, .ref ab, .ref az, .ref as_, .ref ae, .ref ao, .ref ar, .ref aw, .ref al, .ref am, .int (nI mn), .ref af, .ref ac])), (al, .inl (N.2 0, 25, .inl lo)), (aw, .inl (N.2 0, 1500, .inl bk))])) (F0 mg 2 ls []) := by
    intro dz
    induction dz using Nat.strongRecOn with
    | _ dz ih_2 =>
      intro k hdz hk hz H locs ls hP hD hS hl
      subst hdz
      refine lv_iload_n hx hb dX11_isFirst_2 rfl (lv_at hl 0 rfl) ?_
      refine lv_iload_n hx hb dX11_isFirst_3 rfl (lv_at hl 3 rfl) ?_
      refine ck_ic_ge (tgt := 48) hx hb dX11_isFirst_4 (by decide) (by omega) (by omega) (fun cz_1 => ?_) (fun cz_1 => ?_)
      · refine lv_iconst (v := (nI 1)) hx hb dX11_isFirst_48 (by decide) ?_
        refine ck_top (y := (b2i true)) (by decide) ?_
        exact ck_zret (b := true) hx hb hrt hlk () (congrArg b2i (Eq.symm (decide_eq_true (fun q hq => hz q (by omega))))) hP hD hS ⟨Nat.le_of_ble_eq_true rfl, Nat.le_of_ble_eq_true rfl⟩ dX11_isFirst_49
      refine lv_aload_n hx hb dX11_isFirst_7 rfl (lv_at hl 1 rfl) ?_
      refine va_get (ci := 11) (v := .ref al) (C := RX11) (T := TX11) (N := 17) hx hb hg inX11 hown hE.1 hP 0 rfl rfl 12 (by decide) (hg _ k4_22) (fun _ h9 => h9) rfl dX11_isFirst_8 ?_
      refine lv_iconst (v := (nI 5)) hx hb dX11_isFirst_11 (by decide) ?_
      refine lv_iload_n hx hb dX11_isFirst_12 rfl (lv_at hl 2 rfl) ?_
      refine lv_imul hx hb dX11_isFirst_13 ?_
      refine ck_top (y := (nI (5 * b))) (pk_mul _ _) ?_
      refine lv_iload_n hx hb dX11_isFirst_14 rfl (lv_at hl 0 rfl) ?_
      refine lv_iadd hx hb dX11_isFirst_15 ?_
      refine ck_top (y := (nI (5 * b + k))) (nI_add _ _) ?_
      refine ck_iald hx hb hE hP 1 rfl (by omega) (by decide) dX11_isFirst_16 ?_
      refine ck_top (y := (nI ((w k).length))) (hB k (by omega)).1 ?_
      refine lv_iconst (v := (nI 1)) hx hb dX11_isFirst_17 (by decide) ?_
      refine ck_ic_ne (tgt := 40) hx hb dX11_isFirst_18 (by decide) (Nat.lt_of_le_of_lt (hB k (by omega)).2.1 (by decide)) (by decide) (fun cz_2 => ?_) (fun cz_2 => ?_)
      · refine lv_iconst (v := (nI 0)) hx hb dX11_isFirst_40 (by decide) ?_
        refine ck_top (y := (b2i false)) (by decide) ?_
        exact ck_zret (b := false) hx hb hrt hlk () (congrArg b2i (Eq.symm (decide_eq_false (fun hh => cz_2 (by rw [hh k (by omega)]; rfl))))) hP hD hS ⟨Nat.le_of_ble_eq_true rfl, Nat.le_of_ble_eq_true rfl⟩ dX11_isFirst_41
      refine lv_aload_n hx hb dX11_isFirst_21 rfl (lv_at hl 1 rfl) ?_
      refine va_get (ci := 11) (v := .ref aw) (C := RX11) (T := TX11) (N := 17) hx hb hg inX11 hown hE.1 hP 0 rfl rfl 11 (by decide) (hg _ k4_21) (fun _ h9 => h9) rfl dX11_isFirst_22 ?_
      refine lv_sipush (v := (nI 300)) hx hb dX11_isFirst_25 (by decide) ?_
      refine lv_iload_n hx hb dX11_isFirst_28 rfl (lv_at hl 2 rfl) ?_
      refine lv_imul hx hb dX11_isFirst_29 ?_
      refine ck_top (y := (nI (300 * b))) (pk_mul _ _) ?_
      refine lv_bipush (v := (nI 60)) hx hb dX11_isFirst_30 (by decide) ?_
      refine lv_iload_n hx hb dX11_isFirst_32 rfl (lv_at hl 0 rfl) ?_
      refine lv_imul hx hb dX11_isFirst_33 ?_
      refine ck_top (y := (nI (60 * k))) (pk_mul _ _) ?_
      refine lv_iadd hx hb dX11_isFirst_34 ?_
      refine ck_top (y := (nI (300 * b + (60 * k)))) (nI_add _ _) ?_
      refine ck_iald hx hb hE hP 2 rfl (by omega) (by decide) dX11_isFirst_35 ?_
      refine lv_iload_n hx hb dX11_isFirst_36 rfl (lv_at hl 0 rfl) ?_
      refine lv_icmp_eq (tgt := 42) hx hb dX11_isFirst_37 (by decide) (fun cz_3 => ?_) (fun cz_3 => ?_)
      · refine lv_iinc (v := (nI (k + 1))) (lv' := [(3, .int (nI (k + 1))), (0, .ref mm), (1, .int (nI b)), (2, .int (nI n))]) hx hb dX11_isFirst_42 hl (k := 0) rfl (nI_1 _) (by decide) rfl (fun ls hl => ?_)
        refine lv_goto (tgt := 2) hx hb dX11_isFirst_45 (by decide) ?_
        exact ih_2 _ (by omega) (k + 1) rfl (by omega) (lt_s hz (ckWd_ft (gf := fun k => bk (300 * b + k)) hB (by omega) (by omega) cz_2 ((congrArg bk (by omega)).trans cz_3))) _ _ ls hP hD hS hl
      refine lv_iconst (v := (nI 0)) hx hb dX11_isFirst_40 (by decide) ?_
      refine ck_top (y := (b2i false)) (by decide) ?_
      exact ck_zret (b := false) hx hb hrt hlk () (congrArg b2i (Eq.symm (decide_eq_false (fun hh => cz_3 ((congrArg bk (by omega)).trans (ckWd_ff (gf := fun k => bk (300 * b + k)) hB (by omega) (hh k (by omega)))))))) hP hD hS ⟨Nat.le_of_ble_eq_true rfl, Nat.le_of_ble_eq_true rfl⟩ dX11_isFirst_41
  exact lp_2 _ 0 rfl (by omega) (fun q hq => absurd hq (Nat.not_lt_zero q)) _ _ ls hP hD hS hl
