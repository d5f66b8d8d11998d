theorem ckWd_ft {lf gf : Nat → Int32} {n p : Nat} {w : Nat → List Nat} (h : ckWd lf gf n w) (hp : p < n) (hp2 : p < 2 ^ 31) (hl : (w p).length = 1) (hg : gf (p * 60 + 0) = nI p) : w p = [p] := (ckWd_one h hp).mpr (Or.inl ⟨hl, hg, hp2⟩)
theorem ckWd_ff {lf gf : Nat → Int32} {n p : Nat} {w : Nat → List Nat} (h : ckWd lf gf n w) (hp : p < n) (e : w p = [p]) : gf (p * 60 + 0) = nI p := by
  have := (h p hp).2.2.2 0 (by rw [e]; exact Nat.one_pos)
  rw [e] at this
  exact this
theorem list_eq : ∀ {a b : List Nat}, a.length = b.length → (∀ j, j < a.length → a.getD j 0 = b.getD j 0) → a = b
  | [], [], _, _ => rfl
  | [], _ :: _, h, _ => by cases h
  | _ :: _, [], h, _ => by cases h
  | x :: a, y :: b, h, hj => by
    have h0 : x = y := hj 0 (Nat.zero_lt_succ _)
    have h1 : a = b := list_eq (Nat.succ.inj h) (fun j hl => by
      have := hj (j + 1) (Nat.succ_lt_succ hl)
      rwa [List.getD_cons_succ, List.getD_cons_succ] at this)
    rw [h0, h1]
theorem tryW_no {f : (Nat → List Nat) → Option (List Nat)} {w : Nat → List Nat} {t c : Nat} (hc : 0 < c) (ho : ckOk w (t / 2) (decide (t % 2 = 0)) = false) : tryW f w t c = tryW f w (t + 1) (c - 1) := by
  obtain ⟨d, rfl⟩ : ∃ d, c = d + 1 := ⟨c - 1, by omega⟩
  rw [tryW, ho]
  rfl
theorem tryW_nf {f : (Nat → List Nat) → Option (List Nat)} {w : Nat → List Nat} {t c : Nat} (hc : 0 < c) (ho : ckOk w (t / 2) (decide (t % 2 = 0)) = true) (hf : (f (ckStep w (t / 2) (decide (t % 2 = 0)))).isSome = false) : tryW f w t c = tryW f w (t + 1) (c - 1) := by
  obtain ⟨d, rfl⟩ : ∃ d, c = d + 1 := ⟨c - 1, by omega⟩
  have hn : f (ckStep w (t / 2) (decide (t % 2 = 0))) = none := by
    cases h : f (ckStep w (t / 2) (decide (t % 2 = 0))) with
    | none => rfl
    | some l => rw [h] at hf; cases hf
  rw [tryW, if_pos ho, hn]
  rfl
theorem tryW_yes {f : (Nat → List Nat) → Option (List Nat)} {w : Nat → List Nat} {t c : Nat} (hc : 0 < c) (ho : ckOk w (t / 2) (decide (t % 2 = 0)) = true) (hf : (f (ckStep w (t / 2) (decide (t % 2 = 0)))).isSome = true) : ∃ l, f (ckStep w (t / 2) (decide (t % 2 = 0))) = some l ∧ tryW f w t c = some (t :: l) := by
  obtain ⟨d, rfl⟩ : ∃ d, c = d + 1 := ⟨c - 1, by omega⟩
  obtain ⟨l, hl⟩ := Option.isSome_iff_exists.mp hf
  refine ⟨l, hl, ?_⟩
  rw [tryW, if_pos ho, hl]
/-- the fewest, of at most three -/
def ckFew (n : Nat) (w : Nat → List Nat) : Option (List Nat) := match ckPrn n 0 w with
  | some l => some l
  | none => match ckPrn n 1 w with
    | some l => some l
    | none => match ckPrn n 2 w with
      | some l => some l
      | none => ckPrn n 3 w
theorem isN {o : Option (List Nat)} (h : o.isSome = false) : o = none := by cases o with
  | none => rfl
  | some l => cases h
def ckFewN (n : Nat) (w : Nat → List Nat) : Int32 := match ckFew n w with
  | some l => nI l.length
  | none => -1
set_option maxHeartbeats 4000000 in
set_option maxRecDepth 100000 in
/-- X9_settle -/
theorem c_X9_settle (l : Launch) (N : ckN) (ja : Nat) (jj : Nat) (jl : Nat → Int32) (b : Nat) (lw : Nat) (gw : Nat) (lf : Nat → Int32) (gf : Nat → Int32) (n : Nat) (r : List Nat) (w : Nat → List Nat) (p : Nat) (fr : Bool) (hw : ckWd lf gf n w) (hp : p + 1 < n) (hn : n ≤ 5) (hr : JR jl r) (h20 : L20 r) (hl6 : r.length ≤ 60) : ckV l yX9_settle cX9_settle 6 none { frames := 3, cells := 0, slots := 0, locals := 84 } N [.ref b, .int (nI p), .int (b2i fr), .ref ja] [(b, .inr (9, [.ref lw, .ref gw, .int (nI n)])), (lw, .inl (N.2 0, 5, .inl lf)), (gw, .inl (N.2 0, 300, .inl gf)), (ja, .inr (3, [.ref jj, .int (nI r.length)])), (jj, .inl (N.2 0, 180, .inl jl))] (fun (u : (Nat → Int32) × (Nat → Int32)) => ckWd u.1 u.2 n (ckMv w p fr r.reverse)) (fun (u : (Nat → Int32) × (Nat → Int32)) => [(b, .inr (9, [.ref lw, .ref gw, .int (nI n)])), (lw, .inl (N.2 0, 5, .inl u.1)), (gw, .inl (N.2 0, 300, .inl u.2)), (ja, .inr (3, [.ref jj, .int (nI r.length)])), (jj, .inl (N.2 0, 180, .inl jl))]) := by
  refine ckV.of (by decide) (Nat.le_of_ble_eq_true rfl) ?_
  intro pg eg sg mg blw mth cg Ag ls hx hb hrt hml hown hlk hin hg hE hA hP hD hS hl
  have hown : sg.vm.findClass RX9 = some mg.cls := hown
  have hl : lv_has ls 6 [(0, .ref b), (1, .int (nI p)), (2, .int (b2i fr)), (3, .ref ja)] := hl
  have C0 : ckC pg sg mg ([.ref b, .int (nI p), .int (b2i fr), .ref ja]).toArray cg cX9_settle 6 RX9 N Ag := ⟨⟨hx, hb, hml, hown, hg⟩, hE, hA⟩
  generalize hHe : sg.heap = H at hP
  have hS : va_S Ag sg.heap H [] := hHe ▸ hS
  refine lv_iload_n hx hb dX9_settle_0 rfl (lv_at hl 2 rfl) ?_
  refine ck_ifeq (b := fr) (tgt := 8) hx hb dX9_settle_1 (by decide) (fun cz_1 => ?_) (fun cz_1 => ?_)
  · subst cz_1
    refine lv_iload_n hx hb dX9_settle_8 rfl (lv_at hl 1 rfl) ?_
    refine lv_iconst (v := (nI 1)) hx hb dX9_settle_9 (by decide) ?_
    refine lv_iadd hx hb dX9_settle_10 ?_
    refine ck_top (y := (nI (p + 1))) (nI_add _ _) ?_
    refine lv_istore (lv' := [(4, .int (nI (p + 1))), (0, .ref b), (1, .int (nI p)), (2, .int (b2i false)), (3, .ref ja)]) hx hb dX9_settle_11 hl (by decide) rfl (fun ls hl => ?_)
    refine lv_iload_n hx hb dX9_settle_13 rfl (lv_at hl 3 rfl) ?_
    refine ck_ifeq (b := false) (tgt := 23) hx hb dX9_settle_14 (by decide) (fun cz_2 => ?_) (fun cz_2 => absurd cz_2 (by decide))
    refine lv_iload_n hx hb dX9_settle_23 rfl (lv_at hl 2 rfl) ?_
    refine lv_istore (lv' := [(5, .int (nI p)), (4, .int (nI (p + 1))), (0, .ref b), (1, .int (nI p)), (2, .int (b2i false)), (3, .ref ja)]) hx hb dX9_settle_24 hl (by decide) rfl (fun ls hl => ?_)
    refine lv_aload_n hx hb dX9_settle_26 rfl (lv_at hl 2 rfl) ?_
    refine lv_iload hx hb dX9_settle_27 (lv_at hl 0 rfl) ?_
    refine lv_aload_n hx hb dX9_settle_29 rfl (lv_at hl 2 rfl) ?_
    refine va_get (ci := 9) (v := .ref gw) (C := RX9) (T := TX9) (N := 3) hx hb hg inX9 hown hE.1 hP 0 rfl rfl 1 (by decide) (hg _ k1_94) (fun _ h9 => h9) rfl dX9_settle_30 ?_
    refine lv_iload hx hb dX9_settle_33 (lv_at hl 1 rfl) ?_
    refine lv_bipush (v := (nI 60)) hx hb dX9_settle_35 (by decide) ?_
    refine lv_imul hx hb dX9_settle_37 ?_
    refine ck_top (y := (nI ((p + 1) * 60))) (pk_mul _ _) ?_
    refine lv_aload_n hx hb dX9_settle_38 rfl (lv_at hl 2 rfl) ?_
    refine va_get (ci := 9) (v := .ref lw) (C := RX9) (T := TX9) (N := 3) hx hb hg inX9 hown hE.1 hP 0 rfl rfl 0 (by decide) (hg _ k1_91) (fun _ h9 => h9) rfl dX9_settle_39 ?_
    refine lv_iload hx hb dX9_settle_42 (lv_at hl 1 rfl) ?_
    refine ck_iald hx hb hE hP 1 rfl (by omega) (by decide) dX9_settle_44 ?_
    refine ck_top (y := (nI ((w (p + 1)).length))) (hw (p + 1) (by omega)).1 ?_
    have hq1 := (hw p (by omega)).2.1
    have hq2 := (hw (p + 1) (by omega)).2.1
    refine ck_Vv (As := [.int (nI p), .ref gw, .int (nI ((p + 1) * 60)), .int (nI ((w (p + 1)).length))]) (rest := []) (wr := [(ja, .inr (3, [.ref jj, .int (nI r.length)])), (jj, .inl (N.2 0, 180, .inl jl))]) C0 hP hD hS (c_X9_setWord_s l N b lw gw lf gf n p ((p + 1) * 60) ((w (p + 1)).length) (by omega) (by omega) (by omega) (by omega)) myX9_setWord k2_66 ⟨Nat.le_of_ble_eq_true rfl, Nat.le_of_ble_eq_true rfl⟩ [0, 1, 2] [3, 4] ⟨⟨rfl, rfl⟩, by decide, by decide, by decide⟩ 0 rfl rfl rfl rfl hl.1 rfl (Nat.le_of_ble_eq_true rfl) dX9_settle_45 ⟨Nat.le_of_ble_eq_true rfl, Nat.le_of_ble_eq_true rfl⟩ (fun u0 H locs hw0 hP hD hS => ?_)
    have hP : va_P N.1 vwCl [(ja, .inr (3, [.ref jj, .int (nI r.length)])), (jj, .inl (N.2 0, 180, .inl jl)), (b, .inr (9, [.ref lw, .ref gw, .int (nI n)])), (lw, .inl (N.2 0, 5, .inl (upd lf p (nI ((w (p + 1)).length))))), (gw, .inl (N.2 0, 300, .inl (va_cpy gf gf ((p + 1) * 60) (p * 60) ((w (p + 1)).length))))] H := hP
    have hD : va_D Ag [(ja, .inr (3, [.ref jj, .int (nI r.length)])), (jj, .inl (N.2 0, 180, .inl jl)), (b, .inr (9, [.ref lw, .ref gw, .int (nI n)])), (lw, .inl (N.2 0, 5, .inl (upd lf p (nI ((w (p + 1)).length))))), (gw, .inl (N.2 0, 300, .inl (va_cpy gf gf ((p + 1) * 60) (p * 60) ((w (p + 1)).length))))] := hD
    refine lv_aload_n hx hb dX9_settle_48 rfl (lv_at hl 2 rfl) ?_
    refine lv_iload hx hb dX9_settle_49 (lv_at hl 1 rfl) ?_
    refine lv_aload_n hx hb dX9_settle_51 rfl (lv_at hl 5 rfl) ?_
    refine va_getN (ci := 3) (v := .ref jj) (C := RX3) (T := TX3) (N := 2) (host := "KiteMeet") hx hb hg inX3 hown hE.1 hP 0 rfl rfl 0 (by decide) (hE.nf 18 rfl _) (fun _ h9 => h9) rfl dX9_settle_52 ?_
    refine lv_iconst (v := (nI 0)) hx hb dX9_settle_55 (by decide) ?_
    refine lv_aload_n hx hb dX9_settle_56 rfl (lv_at hl 5 rfl) ?_
    refine va_getN (ci := 3) (v := .int (nI r.length)) (C := RX3) (T := TX3) (N := 2) (host := "KiteMeet") hx hb hg inX3 hown hE.1 hP 0 rfl rfl 1 (by decide) (hE.nf 19 rfl _) (fun _ h9 => h9) rfl dX9_settle_57 ?_
    refine ck_Vv (As := [.int (nI (p + 1)), .ref jj, .int (nI 0), .int (nI r.length)]) (rest := []) (wr := [(ja, .inr (3, [.ref jj, .int (nI r.length)]))]) C0 hP hD hS (c_X9_setWord l N b lw gw (upd lf p (nI ((w (p + 1)).length))) (va_cpy gf gf ((p + 1) * 60) (p * 60) ((w (p + 1)).length)) n (p + 1) jj 180 jl 0 r.length (by omega) (by omega) (by omega) (by omega)) myX9_setWord k2_66 ⟨Nat.le_of_ble_eq_true rfl, Nat.le_of_ble_eq_true rfl⟩ [2, 3, 4, 1] [0] ⟨⟨rfl, rfl⟩, by decide, by decide, by decide⟩ 2 rfl rfl rfl rfl hl.1 rfl (Nat.le_of_ble_eq_true rfl) dX9_settle_60 ⟨Nat.le_of_ble_eq_true rfl, Nat.le_of_ble_eq_true rfl⟩ (fun u0 H locs hw0 hP hD hS => ?_)
    have hP : va_P N.1 vwCl [(ja, .inr (3, [.ref jj, .int (nI r.length)])), (b, .inr (9, [.ref lw, .ref gw, .int (nI n)])), (lw, .inl (N.2 0, 5, .inl (upd (upd lf p (nI ((w (p + 1)).length))) (p + 1) (nI r.length)))), (gw, .inl (N.2 0, 300, .inl (va_cpy jl (va_cpy gf gf ((p + 1) * 60) (p * 60) ((w (p + 1)).length)) 0 ((p + 1) * 60) r.length))), (jj, .inl (N.2 0, 180, .inl jl))] H := hP
    have hD : va_D Ag [(ja, .inr (3, [.ref jj, .int (nI r.length)])), (b, .inr (9, [.ref lw, .ref gw, .int (nI n)])), (lw, .inl (N.2 0, 5, .inl (upd (upd lf p (nI ((w (p + 1)).length))) (p + 1) (nI r.length)))), (gw, .inl (N.2 0, 300, .inl (va_cpy jl (va_cpy gf gf ((p + 1) * 60) (p * 60) ((w (p + 1)).length)) 0 ((p + 1) * 60) r.length))), (jj, .inl (N.2 0, 180, .inl jl))] := hD
    exact ck_vret hx hb hrt hlk ⟨upd (upd lf p (nI ((w (p + 1)).length))) (p + 1) (nI r.length), va_cpy jl (va_cpy gf gf ((p + 1) * 60) (p * 60) ((w (p + 1)).length)) 0 ((p + 1) * 60) r.length⟩ (by have h1 := ckWd_set (p := p) (fm := (p + 1) * 60) hw hn (hw (p + 1) (by omega)).2.1 (hw (p + 1) (by omega)).2.2.1 (hw (p + 1) (by omega)).2.2.2; have h2 := ckWd_set (p := p + 1) (x := r.reverse) (fm := 0) h1 hn (by rw [List.length_reverse]; exact hl6) (L20_rev h20) (JR_rev hr); rw [List.length_reverse] at h2; exact h2) (hP.sub [1, 2, 3, 0, 4] rfl) (hD.sub [1, 2, 3, 0, 4] (by decide) rfl) hS ⟨Nat.le_of_ble_eq_true rfl, Nat.le_of_ble_eq_true rfl⟩ dX9_settle_63
  subst cz_1
  refine lv_iload_n hx hb dX9_settle_4 rfl (lv_at hl 1 rfl) ?_
  refine lv_goto (tgt := 11) hx hb dX9_settle_5 (by decide) ?_
  refine lv_istore (lv' := [(4, .int (nI p)), (0, .ref b), (1, .int (nI p)), (2, .int (b2i true)), (3, .ref ja)]) hx hb dX9_settle_11 hl (by decide) rfl (fun ls hl => ?_)
  refine lv_iload_n hx hb dX9_settle_13 rfl (lv_at hl 3 rfl) ?_
  refine ck_ifeq (b := true) (tgt := 23) hx hb dX9_settle_14 (by decide) (fun cz_7 => absurd cz_7 (by decide)) (fun cz_7 => ?_)
  refine lv_iload_n hx hb dX9_settle_17 rfl (lv_at hl 2 rfl) ?_
  refine lv_iconst (v := (nI 1)) hx hb dX9_settle_18 (by decide) ?_
  refine lv_iadd hx hb dX9_settle_19 ?_
  refine ck_top (y := (nI (p + 1))) (nI_add _ _) ?_
  refine lv_goto (tgt := 24) hx hb dX9_settle_20 (by decide) ?_
  refine lv_istore (lv' := [(5, .int (nI (p + 1))), (4, .int (nI p)), (0, .ref b), (1, .int (nI p)), (2, .int (b2i true)), (3, .ref ja)]) hx hb dX9_settle_24 hl (by decide) rfl (fun ls hl => ?_)
  refine lv_aload_n hx hb dX9_settle_26 rfl (lv_at hl 2 rfl) ?_
  refine lv_iload hx hb dX9_settle_27 (lv_at hl 0 rfl) ?_
  refine lv_aload_n hx hb dX9_settle_29 rfl (lv_at hl 2 rfl) ?_
  refine va_get (ci := 9) (v := .ref gw) (C := RX9) (T := TX9) (N := 3) hx hb hg inX9 hown hE.1 hP 0 rfl rfl 1 (by decide) (hg _ k1_94) (fun _ h9 => h9) rfl dX9_settle_30 ?_
  refine lv_iload hx hb dX9_settle_33 (lv_at hl 1 rfl) ?_
  refine lv_bipush (v := (nI 60)) hx hb dX9_settle_35 (by decide) ?_
  refine lv_imul hx hb dX9_settle_37 ?_
  refine ck_top (y := (nI (p * 60))) (pk_mul _ _) ?_
  refine lv_aload_n hx hb dX9_settle_38 rfl (lv_at hl 2 rfl) ?_
  refine va_get (ci := 9) (v := .ref lw) (C := RX9) (T := TX9) (N := 3) hx hb hg inX9 hown hE.1 hP 0 rfl rfl 0 (by decide) (hg _ k1_91) (fun _ h9 => h9) rfl dX9_settle_39 ?_
  refine lv_iload hx hb dX9_settle_42 (lv_at hl 1 rfl) ?_
  refine ck_iald hx hb hE hP 1 rfl (by omega) (by decide) dX9_settle_44 ?_
  refine ck_top (y := (nI ((w p).length))) (hw p (by omega)).1 ?_
  have hq1 := (hw p (by omega)).2.1
  have hq2 := (hw (p + 1) (by omega)).2.1
  refine ck_Vv (As := [.int (nI (p + 1)), .ref gw, .int (nI (p * 60)), .int (nI ((w p).length))]) (rest := []) (wr := [(ja, .inr (3, [.ref jj, .int (nI r.length)])), (jj, .inl (N.2 0, 180, .inl jl))]) C0 hP hD hS (c_X9_setWord_s l N b lw gw lf gf n (p + 1) (p * 60) ((w p).length) (by omega) (by omega) (by omega) (by omega)) myX9_setWord k2_66 ⟨Nat.le_of_ble_eq_true rfl, Nat.le_of_ble_eq_true rfl⟩ [0, 1, 2] [3, 4] ⟨⟨rfl, rfl⟩, by decide, by decide, by decide⟩ 0 rfl rfl rfl rfl hl.1 rfl (Nat.le_of_ble_eq_true rfl) dX9_settle_45 ⟨Nat.le_of_ble_eq_true rfl, Nat.le_of_ble_eq_true rfl⟩ (fun u0 H locs hw0 hP hD hS => ?_)
  have hP : va_P N.1 vwCl [(ja, .inr (3, [.ref jj, .int (nI r.length)])), (jj, .inl (N.2 0, 180, .inl jl)), (b, .inr (9, [.ref lw, .ref gw, .int (nI n)])), (lw, .inl (N.2 0, 5, .inl (upd lf (p + 1) (nI ((w p).length))))), (gw, .inl (N.2 0, 300, .inl (va_cpy gf gf (p * 60) ((p + 1) * 60) ((w p).length))))] H := hP
  have hD : va_D Ag [(ja, .inr (3, [.ref jj, .int (nI r.length)])), (jj, .inl (N.2 0, 180, .inl jl)), (b, .inr (9, [.ref lw, .ref gw, .int (nI n)])), (lw, .inl (N.2 0, 5, .inl (upd lf (p + 1) (nI ((w p).length))))), (gw, .inl (N.2 0, 300, .inl (va_cpy gf gf (p * 60) ((p + 1) * 60) ((w p).length))))] := hD
  refine lv_aload_n hx hb dX9_settle_48 rfl (lv_at hl 2 rfl) ?_
  refine lv_iload hx hb dX9_settle_49 (lv_at hl 1 rfl) ?_
  refine lv_aload_n hx hb dX9_settle_51 rfl (lv_at hl 5 rfl) ?_
  refine va_getN (ci := 3) (v := .ref jj) (C := RX3) (T := TX3) (N := 2) (host := "KiteMeet") hx hb hg inX3 hown hE.1 hP 0 rfl rfl 0 (by decide) (hE.nf 18 rfl _) (fun _ h9 => h9) rfl dX9_settle_52 ?_
  refine lv_iconst (v := (nI 0)) hx hb dX9_settle_55 (by decide) ?_
  refine lv_aload_n hx hb dX9_settle_56 rfl (lv_at hl 5 rfl) ?_
  refine va_getN (ci := 3) (v := .int (nI r.length)) (C := RX3) (T := TX3) (N := 2) (host := "KiteMeet") hx hb hg inX3 hown hE.1 hP 0 rfl rfl 1 (by decide) (hE.nf 19 rfl _) (fun _ h9 => h9) rfl dX9_settle_57 ?_
  refine ck_Vv (As := [.int (nI p), .ref jj, .int (nI 0), .int (nI r.length)]) (rest := []) (wr := [(ja, .inr (3, [.ref jj, .int (nI r.length)]))]) C0 hP hD hS (c_X9_setWord l N b lw gw (upd lf (p + 1) (nI ((w p).length))) (va_cpy gf gf (p * 60) ((p + 1) * 60) ((w p).length)) n p jj 180 jl 0 r.length (by omega) (by omega) (by omega) (by omega)) myX9_setWord k2_66 ⟨Nat.le_of_ble_eq_true rfl, Nat.le_of_ble_eq_true rfl⟩ [2, 3, 4, 1] [0] ⟨⟨rfl, rfl⟩, by decide, by decide, by decide⟩ 2 rfl rfl rfl rfl hl.1 rfl (Nat.le_of_ble_eq_true rfl) dX9_settle_60 ⟨Nat.le_of_ble_eq_true rfl, Nat.le_of_ble_eq_true rfl⟩ (fun u0 H locs hw0 hP hD hS => ?_)
  have hP : va_P N.1 vwCl [(ja, .inr (3, [.ref jj, .int (nI r.length)])), (b, .inr (9, [.ref lw, .ref gw, .int (nI n)])), (lw, .inl (N.2 0, 5, .inl (upd (upd lf (p + 1) (nI ((w p).length))) p (nI r.length)))), (gw, .inl (N.2 0, 300, .inl (va_cpy jl (va_cpy gf gf (p * 60) ((p + 1) * 60) ((w p).length)) 0 (p * 60) r.length))), (jj, .inl (N.2 0, 180, .inl jl))] H := hP
  have hD : va_D Ag [(ja, .inr (3, [.ref jj, .int (nI r.length)])), (b, .inr (9, [.ref lw, .ref gw, .int (nI n)])), (lw, .inl (N.2 0, 5, .inl (upd (upd lf (p + 1) (nI ((w p).length))) p (nI r.length)))), (gw, .inl (N.2 0, 300, .inl (va_cpy jl (va_cpy gf gf (p * 60) ((p + 1) * 60) ((w p).length)) 0 (p * 60) r.length))), (jj, .inl (N.2 0, 180, .inl jl))] := hD
  exact ck_vret hx hb hrt hlk ⟨upd (upd lf (p + 1) (nI ((w p).length))) p (nI r.length), va_cpy jl (va_cpy gf gf (p * 60) ((p + 1) * 60) ((w p).length)) 0 (p * 60) r.length⟩ (by have h1 := ckWd_set (p := p + 1) (fm := p * 60) hw hn (hw (p) (by omega)).2.1 (hw (p) (by omega)).2.2.1 (hw (p) (by omega)).2.2.2; have h2 := ckWd_set (p := p) (x := r.reverse) (fm := 0) h1 hn (by rw [List.length_reverse]; exact hl6) (L20_rev h20) (JR_rev hr); rw [List.length_reverse] at h2; exact h2) (hP.sub [1, 2, 3, 0, 4] rfl) (hD.sub [1, 2, 3, 0, 4] (by decide) rfl) hS ⟨Nat.le_of_ble_eq_true rfl, Nat.le_of_ble_eq_true rfl⟩ dX9_settle_63
set_option maxHeartbeats 4000000 in
set_option maxRecDepth 100000 in
/-- X9_pass -/
theorem c_X9_pass (l : Launch) (N : ckN) (ja : Nat) (jj : Nat) (jl : Nat → Int32) (b : Nat) (lw : Nat) (gw : Nat) (lf : Nat → Int32) (gf : Nat → Int32) (n : Nat) (jn : Int32) (w : Nat → List Nat) (p : Nat) (fr : Bool) (hw : ckWd lf gf n w) (hp : p + 1 < n) (hn : n ≤ 5) : ckI l yX9_pass cX9_pass 4 (some FieldType.boolean) { frames := 6, cells := 0, slots := 0, locals := 147 } N [.ref b, .int (nI p), .int (b2i fr), .ref ja] [(b, .inr (9, [.ref lw, .ref gw, .int (nI n)])), (lw, .inl (N.2 0, 5, .inl lf)), (gw, .inl (N.2 0, 300, .inl gf)), (ja, .inr (3, [.ref jj, .int jn])), (jj, .inl (N.2 0, 180, .inl jl))] (fun (r : Int32) (u : (Nat → Int32) × (Nat → Int32) × (Nat → Int32) × Int32) => (r = (b2i (ckOk w p fr))) ∧ (ckWd u.1 u.2.1 n (if ckOk w p fr then ckStep w p fr else w))) (fun (u : (Nat → Int32) × (Nat → Int32) × (Nat → Int32) × Int32) => [(b, .inr (9, [.ref lw, .ref gw, .int (nI n)])), (lw, .inl (N.2 0, 5, .inl u.1)), (gw, .inl (N.2 0, 300, .inl u.2.1)), (ja, .inr (3, [.ref jj, .int u.2.2.2])), (jj, .inl (N.2 0, 180, .inl u.2.2.1))]) := by
  refine ckI.of (by decide) (Nat.le_of_ble_eq_true rfl) ?_
  intro pg eg sg mg blw mth cg Ag ls hx hb hrt hml hown hlk hin hg hE hA hP hD hS hl
  have hown : sg.vm.findClass RX9 = some mg.cls := hown
  have hl : lv_has ls 4 [(0, .ref b), (1, .int (nI p)), (2, .int (b2i fr)), (3, .ref ja)] := hl
  have C0 : ckC pg sg mg ([.ref b, .int (nI p), .int (b2i fr), .ref ja]).toArray cg cX9_pass 4 RX9 N Ag := ⟨⟨hx, hb, hml, hown, hg⟩, hE, hA⟩
  generalize hHe : sg.heap = H at hP
  have hS : va_S Ag sg.heap H [] := hHe ▸ hS
  refine lv_aload_n hx hb dX9_pass_0 rfl (lv_at hl 0 rfl) ?_
  refine lv_iload_n hx hb dX9_pass_1 rfl (lv_at hl 1 rfl) ?_
  refine lv_iload_n hx hb dX9_pass_2 rfl (lv_at hl 2 rfl) ?_
  refine lv_aload_n hx hb dX9_pass_3 rfl (lv_at hl 3 rfl) ?_
  refine ck_Vi (As := [.int (nI p), .int (b2i fr), .ref ja]) (rest := []) (wr := []) C0 hP hD hS (c_X9_canPass l N ja jj jl b lw gw lf gf n jn w p fr hw (by omega) (by omega)) myX9_canPass k3_143 ⟨Nat.le_of_ble_eq_true rfl, Nat.le_of_ble_eq_true rfl⟩ [0, 1, 2, 3, 4] [] ⟨⟨rfl, rfl⟩, by decide, by decide, by decide⟩ 0 rfl rfl rfl rfl hl.1 rfl (Nat.le_of_ble_eq_true rfl) dX9_pass_4 ⟨Nat.le_of_ble_eq_true rfl, Nat.le_of_ble_eq_true rfl⟩ (fun r_1 u0 H locs hw0 hP hD hS => ?_)
  obtain ⟨jl2_2, rfl⟩ : ∃ z, z = u0 := ⟨_, rfl⟩
  have hw_3 : (r_1 = (b2i (ckOk w p fr))) ∧ (JR jl2_2 (ckNew (w p) (w (p + 1)) fr)) := hw0
  obtain ⟨hv_4, hw_3⟩ := hw_3
  subst hv_4
  have hP : va_P N.1 vwCl [(b, .inr (9, [.ref lw, .ref gw, .int (nI n)])), (lw, .inl (N.2 0, 5, .inl lf)), (gw, .inl (N.2 0, 300, .inl gf)), (ja, .inr (3, [.ref jj, .int (nI ((ckNew (w p) (w (p + 1)) fr).length))])), (jj, .inl (N.2 0, 180, .inl jl2_2))] H := hP
  have hD : va_D Ag [(b, .inr (9, [.ref lw, .ref gw, .int (nI n)])), (lw, .inl (N.2 0, 5, .inl lf)), (gw, .inl (N.2 0, 300, .inl gf)), (ja, .inr (3, [.ref jj, .int (nI ((ckNew (w p) (w (p + 1)) fr).length))])), (jj, .inl (N.2 0, 180, .inl jl2_2))] := hD
  have hjr := hw_3
  refine ck_ifne (b := ckOk w p fr) (tgt := 12) hx hb dX9_pass_7 (by decide) (fun cz_5 => ?_) (fun cz_5 => ?_)
  · refine lv_aload_n hx hb dX9_pass_12 rfl (lv_at hl 0 rfl) ?_
    refine lv_iload_n hx hb dX9_pass_13 rfl (lv_at hl 1 rfl) ?_
    refine lv_iload_n hx hb dX9_pass_14 rfl (lv_at hl 2 rfl) ?_
    refine lv_aload_n hx hb dX9_pass_15 rfl (lv_at hl 3 rfl) ?_
    refine ck_Vv (As := [.int (nI p), .int (b2i fr), .ref ja]) (rest := []) (wr := []) C0 hP hD hS (c_X9_settle l N ja jj jl2_2 b lw gw lf gf n (ckNew (w p) (w (p + 1)) fr) w p fr hw (by omega) (by omega) hjr (ckNew_lt (hw p (by omega)).2.2.1 (hw (p + 1) (by omega)).2.2.1 fr) (of_decide_eq_true cz_5)) myX9_settle k3_144 ⟨Nat.le_of_ble_eq_true rfl, Nat.le_of_ble_eq_true rfl⟩ [0, 1, 2, 3, 4] [] ⟨⟨rfl, rfl⟩, by decide, by decide, by decide⟩ 0 rfl rfl rfl rfl hl.1 rfl (Nat.le_of_ble_eq_true rfl) dX9_pass_16 ⟨Nat.le_of_ble_eq_true rfl, Nat.le_of_ble_eq_true rfl⟩ (fun u0 H locs hw0 hP hD hS => ?_)
    obtain ⟨lf2_7, gf2_8⟩ := u0
    have hw_9 : ckWd lf2_7 gf2_8 n (ckMv w p fr (ckNew (w p) (w (p + 1)) fr).reverse) := hw0
    have hP : va_P N.1 vwCl [(b, .inr (9, [.ref lw, .ref gw, .int (nI n)])), (lw, .inl (N.2 0, 5, .inl lf2_7)), (gw, .inl (N.2 0, 300, .inl gf2_8)), (ja, .inr (3, [.ref jj, .int (nI ((ckNew (w p) (w (p + 1)) fr).length))])), (jj, .inl (N.2 0, 180, .inl jl2_2))] H := hP
    have hD : va_D Ag [(b, .inr (9, [.ref lw, .ref gw, .int (nI n)])), (lw, .inl (N.2 0, 5, .inl lf2_7)), (gw, .inl (N.2 0, 300, .inl gf2_8)), (ja, .inr (3, [.ref jj, .int (nI ((ckNew (w p) (w (p + 1)) fr).length))])), (jj, .inl (N.2 0, 180, .inl jl2_2))] := hD
    refine lv_iconst (v := (nI 1)) hx hb dX9_pass_19 (by decide) ?_
    refine ck_top (y := (b2i true)) (by decide) ?_
    exact ck_zret (b := true) hx hb hrt hlk ⟨lf2_7, gf2_8, jl2_2, (nI ((ckNew (w p) (w (p + 1)) fr).length))⟩ ⟨congrArg b2i cz_5.symm, by rw [if_pos cz_5]; exact hw_9⟩ hP hD hS ⟨Nat.le_of_ble_eq_true rfl, Nat.le_of_ble_eq_true rfl⟩ dX9_pass_20
  refine lv_iconst (v := (nI 0)) hx hb dX9_pass_10 (by decide) ?_
  refine ck_top (y := (b2i false)) (by decide) ?_
  exact ck_zret (b := false) hx hb hrt hlk ⟨lf, gf, jl2_2, (nI ((ckNew (w p) (w (p + 1)) fr).length))⟩ ⟨congrArg b2i cz_5.symm, by rw [cz_5]; exact hw⟩ hP hD hS ⟨Nat.le_of_ble_eq_true rfl, Nat.le_of_ble_eq_true rfl⟩ dX9_pass_11
set_option maxHeartbeats 4000000 in
set_option maxRecDepth 100000 in
/-- X9_tangled -/
theorem c_X9_tangled (l : Launch) (N : ckN) (b : Nat) (lw : Nat) (gw : Nat) (lf : Nat → Int32) (gf : Nat → Int32) (n : Nat) (w : Nat → List Nat) (hw : ckWd lf gf n w) (hn : n ≤ 5) : ckI l yX9_tangled cX9_tangled 3 (some FieldType.int) { frames := 2, cells := 0, slots := 0, locals := 60 } N [.ref b] [(b, .inr (9, [.ref lw, .ref gw, .int (nI n)])), (lw, .inl (N.2 0, 5, .inl lf)), (gw, .inl (N.2 0, 300, .inl gf))] (fun (r : Int32) (u : Unit) => r = (nI (psum (fun q => (w q).length) n) - nI n)) (fun (u : Unit) => [(b, .inr (9, [.ref lw, .ref gw, .int (nI n)])), (lw, .inl (N.2 0, 5, .inl lf)), (gw, .inl (N.2 0, 300, .inl gf))]) := by
  refine ckI.of (by decide) (Nat.le_of_ble_eq_true rfl) ?_
  intro pg eg sg mg blw mth cg Ag ls hx hb hrt hml hown hlk hin hg hE hA hP hD hS hl
  have hown : sg.vm.findClass RX9 = some mg.cls := hown
  have hl : lv_has ls 3 [(0, .ref b)] := hl
  have C0 : ckC pg sg mg ([.ref b]).toArray cg cX9_tangled 3 RX9 N Ag := ⟨⟨hx, hb, hml, hown, hg⟩, hE, hA⟩
  generalize hHe : sg.heap = H at hP
  have hS : va_S Ag sg.heap H [] := hHe ▸ hS
  refine lv_iconst (v := (nI 0)) hx hb dX9_tangled_0 (by decide) ?_
  refine lv_istore_n (lv' := [(1, .int (nI 0)), (0, .ref b)]) hx hb dX9_tangled_1 rfl hl (by decide) rfl (fun ls hl => ?_)
  refine lv_iconst (v := (nI 0)) hx hb dX9_tangled_2 (by decide) ?_
  refine lv_istore_n (lv' := [(2, .int (nI 0)), (1, .int (nI 0)), (0, .ref b)]) hx hb dX9_tangled_3 rfl hl (by decide) rfl (fun ls hl => ?_)
  have lp_4 : ∀ (dz : Nat) (k : Nat) (ac : Nat) (hdz : n - k = dz) (hk : k ≤ n) (ha : ac = psum (fun q => (w q).length) k) (H : Heap) (locs : List Loc) (ls : Array Slot), va_P N.1 vwCl [(b, .inr (9, [.ref lw, .ref gw, .int (nI n)])), (lw, .inl (N.2 0, 5, .inl lf)), (gw, .inl (N.2 0, 300, .inl gf))] H → va_D Ag [(b, .inr (9, [.ref lw, .ref gw, .int (nI n)])), (lw, .inl (N.2 0, 5, .inl lf)), (gw, .inl (N.2 0, 300, .inl gf))] → va_S Ag sg.heap H locs → lv_has ls 3 [(2, .int (nI k)), (1, .int (nI ac)), (0, .ref b)] → W pg l eg { frames := 2, cells := 0, slots := 0, locals := 60 } sg mg ([.ref b]).toArray blw mth cg H locs 0 0 (ckQi N Ag blw sg ([.ref b]).toArray { frames := 2, cells := 0, slots := 0, locals := 60 } (fun (r : Int32) (u : Unit) => r = (nI (psum (fun q => (w q).length) n) - nI n)) (fun (u : Unit) => [(b, .inr (9, [.ref lw, .ref gw, .int (nI n)])), (lw, .inl (N.2 0, 5, .inl lf)), (gw, .inl (N.2 0, 300, .inl gf))])) (F0 mg 4 ls []) := by
    intro dz
    induction dz using Nat.strongRecOn with
    | _ dz ih_4 =>
      intro k ac hdz hk ha H locs ls hP hD hS hl
      subst hdz
      refine lv_iload_n hx hb dX9_tangled_4 rfl (lv_at hl 0 rfl) ?_
      refine lv_aload_n hx hb dX9_tangled_5 rfl (lv_at hl 2 rfl) ?_
      refine va_get (ci := 9) (v := .int (nI n)) (C := RX9) (T := TX9) (N := 3) hx hb hg inX9 hown hE.1 hP 0 rfl rfl 2 (by decide) (hg _ k1_95) (fun _ h9 => h9) rfl dX9_tangled_6 ?_
      refine ck_ic_ge (tgt := 27) hx hb dX9_tangled_9 (by decide) (by omega) (by omega) (fun cz_1 => ?_) (fun cz_1 => ?_)
      · refine lv_iload_n hx hb dX9_tangled_27 rfl (lv_at hl 1 rfl) ?_
        refine lv_aload_n hx hb dX9_tangled_28 rfl (lv_at hl 2 rfl) ?_
        refine va_get (ci := 9) (v := .int (nI n)) (C := RX9) (T := TX9) (N := 3) hx hb hg inX9 hown hE.1 hP 0 rfl rfl 2 (by decide) (hg _ k1_95) (fun _ h9 => h9) rfl dX9_tangled_29 ?_
        refine lv_isub hx hb dX9_tangled_32 ?_
        exact ck_iret hx hb hrt hlk () (by rw [ha, (show k = n by omega)]) hP hD hS ⟨Nat.le_of_ble_eq_true rfl, Nat.le_of_ble_eq_true rfl⟩ dX9_tangled_33
      refine lv_iload_n hx hb dX9_tangled_12 rfl (lv_at hl 1 rfl) ?_
      refine lv_aload_n hx hb dX9_tangled_13 rfl (lv_at hl 2 rfl) ?_
      refine va_get (ci := 9) (v := .ref lw) (C := RX9) (T := TX9) (N := 3) hx hb hg inX9 hown hE.1 hP 0 rfl rfl 0 (by decide) (hg _ k1_91) (fun _ h9 => h9) rfl dX9_tangled_14 ?_
      refine lv_iload_n hx hb dX9_tangled_17 rfl (lv_at hl 0 rfl) ?_
      refine ck_iald hx hb hE hP 1 rfl (by omega) (by decide) dX9_tangled_18 ?_
      refine ck_top (y := (nI ((w k).length))) (hw k (by omega)).1 ?_
      refine lv_iadd hx hb dX9_tangled_19 ?_
      refine ck_top (y := (nI (ac + ((w k).length)))) (nI_add _ _) ?_
      refine lv_istore_n (lv' := [(1, .int (nI (ac + ((w k).length)))), (2, .int (nI k)), (0, .ref b)]) hx hb dX9_tangled_20 rfl hl (by decide) rfl (fun ls hl => ?_)
      refine lv_iinc (v := (nI (k + 1))) (lv' := [(2, .int (nI (k + 1))), (1, .int (nI (ac + ((w k).length)))), (0, .ref b)]) hx hb dX9_tangled_21 hl (k := 1) rfl (nI_1 _) (by decide) rfl (fun ls hl => ?_)
      refine lv_goto (tgt := 4) hx hb dX9_tangled_24 (by decide) ?_
      exact ih_4 _ (by omega) (k + 1) (ac + ((w k).length)) rfl (by omega) (by rw [ha]; rfl) _ _ ls hP hD hS hl
  exact lp_4 _ 0 0 rfl (by omega) rfl _ _ ls hP hD hS hl
set_option maxHeartbeats 4000000 in
set_option maxRecDepth 100000 in
/-- X9_longest -/
theorem c_X9_longest (l : Launch) (N : ckN) (b : Nat) (lw : Nat) (gw : Nat) (lf : Nat → Int32) (gf : Nat → Int32) (n : Nat) (w : Nat → List Nat) (hw : ckWd lf gf n w) (hn : n ≤ 5) : ckI l yX9_longest cX9_longest 3 (some FieldType.int) { frames := 2, cells := 0, slots := 0, locals := 60 } N [.ref b] [(b, .inr (9, [.ref lw, .ref gw, .int (nI n)])), (lw, .inl (N.2 0, 5, .inl lf)), (gw, .inl (N.2 0, 300, .inl gf))] (fun (r : Int32) (u : Unit) => r = (nI (pmax (fun q => (w q).length) n))) (fun (u : Unit) => [(b, .inr (9, [.ref lw, .ref gw, .int (nI n)])), (lw, .inl (N.2 0, 5, .inl lf)), (gw, .inl (N.2 0, 300, .inl gf))]) := by
  refine ckI.of (by decide) (Nat.le_of_ble_eq_true rfl) ?_
  intro pg eg sg mg blw mth cg Ag ls hx hb hrt hml hown hlk hin hg hE hA hP hD hS hl
  have hown : sg.vm.findClass RX9 = some mg.cls := hown
  have hl : lv_has ls 3 [(0, .ref b)] := hl
  have C0 : ckC pg sg mg ([.ref b]).toArray cg cX9_longest 3 RX9 N Ag := ⟨⟨hx, hb, hml, hown, hg⟩, hE, hA⟩
  generalize hHe : sg.heap = H at hP
  have hS : va_S Ag sg.heap H [] := hHe ▸ hS
  refine lv_iconst (v := (nI 0)) hx hb dX9_longest_0 (by decide) ?_
  refine lv_istore_n (lv' := [(1, .int (nI 0)), (0, .ref b)]) hx hb dX9_longest_1 rfl hl (by decide) rfl (fun ls hl => ?_)
  refine lv_iconst (v := (nI 0)) hx hb dX9_longest_2 (by decide) ?_
  refine lv_istore_n (lv' := [(2, .int (nI 0)), (1, .int (nI 0)), (0, .ref b)]) hx hb dX9_longest_3 rfl hl (by decide) rfl (fun ls hl => ?_)
  have lp_4 : ∀ (dz : Nat) (k : Nat) (ac : Nat) (hdz : n - k = dz) (hk : k ≤ n) (ha : ac = pmax (fun q => (w q).length) k) (h60 : ac ≤ 60) (H : Heap) (locs : List Loc) (ls : Array Slot), va_P N.1 vwCl [(b, .inr (9, [.ref lw, .ref gw, .int (nI n)])), (lw, .inl (N.2 0, 5, .inl lf)), (gw, .inl (N.2 0, 300, .inl gf))] H → va_D Ag [(b, .inr (9, [.ref lw, .ref gw, .int (nI n)])), (lw, .inl (N.2 0, 5, .inl lf)), (gw, .inl (N.2 0, 300, .inl gf))] → va_S Ag sg.heap H locs → lv_has ls 3 [(2, .int (nI k)), (1, .int (nI ac)), (0, .ref b)] → W pg l eg { frames := 2, cells := 0, slots := 0, locals := 60 } sg mg ([.ref b]).toArray blw mth cg H locs 0 0 (ckQi N Ag blw sg ([.ref b]).toArray { frames := 2, cells := 0, slots := 0, locals := 60 } (fun (r : Int32) (u : Unit) => r = (nI (pmax (fun q => (w q).length) n))) (fun (u : Unit) => [(b, .inr (9, [.ref lw, .ref gw, .int (nI n)])), (lw, .inl (N.2 0, 5, .inl lf)), (gw, .inl (N.2 0, 300, .inl gf))])) (F0 mg 4 ls []) := by
    intro dz
    induction dz using Nat.strongRecOn with
    | _ dz ih_4 =>
      intro k ac hdz hk ha h60 H locs ls hP hD hS hl
      subst hdz
      refine lv_iload_n hx hb dX9_longest_4 rfl (lv_at hl 0 rfl) ?_
      refine lv_aload_n hx hb dX9_longest_5 rfl (lv_at hl 2 rfl) ?_
      refine va_get (ci := 9) (v := .int (nI n)) (C := RX9) (T := TX9) (N := 3) hx hb hg inX9 hown hE.1 hP 0 rfl rfl 2 (by decide) (hg _ k1_95) (fun _ h9 => h9) rfl dX9_longest_6 ?_
      refine ck_ic_ge (tgt := 29) hx hb dX9_longest_9 (by decide) (by omega) (by omega) (fun cz_1 => ?_) (fun cz_1 => ?_)
      · refine lv_iload_n hx hb dX9_longest_29 rfl (lv_at hl 1 rfl) ?_
        exact ck_iret hx hb hrt hlk () (by rw [ha, (show k = n by omega)]) hP hD hS ⟨Nat.le_of_ble_eq_true rfl, Nat.le_of_ble_eq_true rfl⟩ dX9_longest_30
      refine lv_iload_n hx hb dX9_longest_12 rfl (lv_at hl 1 rfl) ?_
      refine lv_aload_n hx hb dX9_longest_13 rfl (lv_at hl 2 rfl) ?_
      refine va_get (ci := 9) (v := .ref lw) (C := RX9) (T := TX9) (N := 3) hx hb hg inX9 hown hE.1 hP 0 rfl rfl 0 (by decide) (hg _ k1_91) (fun _ h9 => h9) rfl dX9_longest_14 ?_
      refine lv_iload_n hx hb dX9_longest_17 rfl (lv_at hl 0 rfl) ?_
      have hq := (hw k (by omega)).2.1
      refine ck_iald hx hb hE hP 1 rfl (by omega) (by decide) dX9_longest_18 ?_
      refine ck_top (y := (nI ((w k).length))) (hw k (by omega)).1 ?_
      refine va_mmax hx hb (by rw [hml]; exact hl.1.symm) hown (hg _ k3_122) (hg _ k3_65) (hg _ k1_14) (hg _ k3_66) (Nat.le_of_ble_eq_true rfl) (Nat.le_of_ble_eq_true rfl) (Nat.le_of_ble_eq_true rfl) (Nat.le_of_ble_eq_true rfl) dX9_longest_19 ?_
      refine ck_top (y := (nI (max ac ((w k).length)))) (ck_max (by omega) (by omega)) ?_
      refine lv_istore_n (lv' := [(1, .int (nI (max ac ((w k).length)))), (2, .int (nI k)), (0, .ref b)]) hx hb dX9_longest_22 rfl hl (by decide) rfl (fun ls hl => ?_)
      refine lv_iinc (v := (nI (k + 1))) (lv' := [(2, .int (nI (k + 1))), (1, .int (nI (max ac ((w k).length)))), (0, .ref b)]) hx hb dX9_longest_23 hl (k := 1) rfl (nI_1 _) (by decide) rfl (fun ls hl => ?_)
      refine lv_goto (tgt := 4) hx hb dX9_longest_26 (by decide) ?_
      exact ih_4 _ (by omega) (k + 1) (max ac ((w k).length)) rfl (by omega) (by rw [ha]; rfl) (Nat.max_le.mpr ⟨h60, hq⟩) _ _ ls hP hD hS hl
  exact lp_4 _ 0 0 rfl (by omega) rfl (by omega) _ _ ls hP hD hS hl
set_option maxHeartbeats 4000000 in
set_option maxRecDepth 100000 in
/-- X9_areAsAtFirst -/
theorem c_X9_areAsAtFirst (l : Launch) (N : ckN) (b : Nat) (lw : Nat) (gw : Nat) (lf : Nat → Int32) (gf : Nat → Int32) (n : Nat) (w : Nat → List Nat) (hw : ckWd lf gf n w) (hn : n ≤ 5) : ckI l yX9_areAsAtFirst cX9_areAsAtFirst 2 (some FieldType.boolean) { frames := 3, cells := 0, slots := 0, locals := 82 } N [.ref b] [(b, .inr (9, [.ref lw, .ref gw, .int (nI n)])), (lw, .inl (N.2 0, 5, .inl lf)), (gw, .inl (N.2 0, 300, .inl gf))] (fun (r : Int32) (u : Unit) => r = (b2i (ckFirst w n))) (fun (u : Unit) => [(b, .inr (9, [.ref lw, .ref gw, .int (nI n)])), (lw, .inl (N.2 0, 5, .inl lf)), (gw, .inl (N.2 0, 300, .inl gf))]) := by
  refine ckI.of (by decide) (Nat.le_of_ble_eq_true rfl) ?_
  intro pg eg sg mg blw mth cg Ag ls hx hb hrt hml hown hlk hin hg hE hA hP hD hS hl
  have hown : sg.vm.findClass RX9 = some mg.cls := hown
  have hl : lv_has ls 2 [(0, .ref b)] := hl
  have C0 : ckC pg sg mg ([.ref b]).toArray cg cX9_areAsAtFirst 2 RX9 N Ag := ⟨⟨hx, hb, hml, hown, hg⟩, hE, hA⟩
  generalize hHe : sg.heap = H at hP
  have hS : va_S Ag sg.heap H [] := hHe ▸ hS
  refine lv_iconst (v := (nI 0)) hx hb dX9_areAsAtFirst_0 (by decide) ?_
  refine lv_istore_n (lv' := [(1, .int (nI 0)), (0, .ref b)]) hx hb dX9_areAsAtFirst_1 rfl hl (by decide) rfl (fun ls hl => ?_)
  have lp_2 : ∀ (dz : Nat) (k : Nat) (hdz : n - k = dz) (hk : k ≤ n) (hz : ∀ q, q < k → w q = [q]) (H : Heap) (locs : List Loc) (ls : Array Slot), va_P N.1 vwCl [(b, .inr (9, [.ref lw, .ref gw, .int (nI n)])), (lw, .inl (N.2 0, 5, .inl lf)), (gw, .inl (N.2 0, 300, .inl gf))] H → va_D Ag [(b, .inr (9, [.ref lw, .ref gw, .int (nI n)])), (lw, .inl (N.2 0, 5, .inl lf)), (gw, .inl (N.2 0, 300, .inl gf))] → va_S Ag sg.heap H locs → lv_has ls 2 [(1, .int (nI k)), (0, .ref b)] → W pg l eg { frames := 3, cells := 0, slots := 0, locals := 82 } sg mg ([.ref b]).toArray blw mth cg H locs 0 0 (ckQi N Ag blw sg ([.ref b]).toArray { frames := 3, cells := 0, slots := 0, locals := 82 } (fun (r : Int32) (u : Unit) => r = (b2i (ckFirst w n))) (fun (u : Unit) => [(b, .inr (9, [.ref lw, .ref gw, .int (nI n)])), (lw, .inl (N.2 0, 5, .inl lf)), (gw, .inl (N.2 0, 300, .inl gf))])) (F0 mg 2 ls []) := by
    intro dz
    induction dz using Nat.strongRecOn with
    | _ dz ih_2 =>
      intro k hdz hk hz H locs ls hP hD hS hl
      subst hdz
      refine lv_iload_n hx hb dX9_areAsAtFirst_2 rfl (lv_at hl 0 rfl) ?_
      refine lv_aload_n hx hb dX9_areAsAtFirst_3 rfl (lv_at hl 1 rfl) ?_
      refine va_get (ci := 9) (v := .int (nI n)) (C := RX9) (T := TX9) (N := 3) hx hb hg inX9 hown hE.1 hP 0 rfl rfl 2 (by decide) (hg _ k1_95) (fun _ h9 => h9) rfl dX9_areAsAtFirst_4 ?_
      refine ck_ic_ge (tgt := 38) hx hb dX9_areAsAtFirst_7 (by decide) (by omega) (by omega) (fun cz_1 => ?_) (fun cz_1 => ?_)
      · refine lv_iconst (v := (nI 1)) hx hb dX9_areAsAtFirst_38 (by decide) ?_
        refine ck_top (y := (b2i true)) (by decide) ?_
        exact ck_zret (b := true) hx hb hrt hlk () (congrArg b2i (Eq.symm (decide_eq_true (fun q hq => hz q (by omega))))) hP hD hS ⟨Nat.le_of_ble_eq_true rfl, Nat.le_of_ble_eq_true rfl⟩ dX9_areAsAtFirst_39
      refine lv_aload_n hx hb dX9_areAsAtFirst_10 rfl (lv_at hl 1 rfl) ?_
      refine va_get (ci := 9) (v := .ref lw) (C := RX9) (T := TX9) (N := 3) hx hb hg inX9 hown hE.1 hP 0 rfl rfl 0 (by decide) (hg _ k1_91) (fun _ h9 => h9) rfl dX9_areAsAtFirst_11 ?_
      refine lv_iload_n hx hb dX9_areAsAtFirst_14 rfl (lv_at hl 0 rfl) ?_
      refine ck_iald hx hb hE hP 1 rfl (by omega) (by decide) dX9_areAsAtFirst_15 ?_
      refine ck_top (y := (nI ((w k).length))) (hw k (by omega)).1 ?_
      refine lv_iconst (v := (nI 1)) hx hb dX9_areAsAtFirst_16 (by decide) ?_
      refine ck_ic_ne (tgt := 30) hx hb dX9_areAsAtFirst_17 (by decide) (Nat.lt_of_le_of_lt (hw k (by omega)).2.1 (by decide)) (by decide) (fun cz_2 => ?_) (fun cz_2 => ?_)
      · refine lv_iconst (v := (nI 0)) hx hb dX9_areAsAtFirst_30 (by decide) ?_
        refine ck_top (y := (b2i false)) (by decide) ?_
        exact ck_zret (b := false) hx hb hrt hlk () (congrArg b2i (Eq.symm (decide_eq_false (fun hh => cz_2 (by rw [hh k (by omega)]; rfl))))) hP hD hS ⟨Nat.le_of_ble_eq_true rfl, Nat.le_of_ble_eq_true rfl⟩ dX9_areAsAtFirst_31
      refine lv_aload_n hx hb dX9_areAsAtFirst_20 rfl (lv_at hl 1 rfl) ?_
      refine lv_iload_n hx hb dX9_areAsAtFirst_21 rfl (lv_at hl 0 rfl) ?_
      refine lv_iconst (v := (nI 0)) hx hb dX9_areAsAtFirst_22 (by decide) ?_
      refine ck_Vi (As := [.int (nI k), .int (nI 0)]) (rest := []) (wr := []) C0 hP hD hS (c_X9_told l N b lw gw lf gf n k 0 (by omega)) myX9_told k3_129 ⟨Nat.le_of_ble_eq_true rfl, Nat.le_of_ble_eq_true rfl⟩ [0, 1, 2] [] ⟨⟨rfl, rfl⟩, by decide, by decide, by decide⟩ 0 rfl rfl rfl rfl hl.1 rfl (Nat.le_of_ble_eq_true rfl) dX9_areAsAtFirst_23 ⟨Nat.le_of_ble_eq_true rfl, Nat.le_of_ble_eq_true rfl⟩ (fun r_3 u0 H locs hw0 hP hD hS => ?_)
      have hw_4 : r_3 = (gf (k * 60 + 0)) := hw0
      subst hw_4
      have hP : va_P N.1 vwCl [(b, .inr (9, [.ref lw, .ref gw, .int (nI n)])), (lw, .inl (N.2 0, 5, .inl lf)), (gw, .inl (N.2 0, 300, .inl gf))] H := hP
      have hD : va_D Ag [(b, .inr (9, [.ref lw, .ref gw, .int (nI n)])), (lw, .inl (N.2 0, 5, .inl lf)), (gw, .inl (N.2 0, 300, .inl gf))] := hD
      refine lv_iload_n hx hb dX9_areAsAtFirst_26 rfl (lv_at hl 0 rfl) ?_
      refine lv_icmp_eq (tgt := 32) hx hb dX9_areAsAtFirst_27 (by decide) (fun cz_5 => ?_) (fun cz_5 => ?_)
      · refine lv_iinc (v := (nI (k + 1))) (lv' := [(1, .int (nI (k + 1))), (0, .ref b)]) hx hb dX9_areAsAtFirst_32 hl (k := 0) rfl (nI_1 _) (by decide) rfl (fun ls hl => ?_)
        refine lv_goto (tgt := 2) hx hb dX9_areAsAtFirst_35 (by decide) ?_
        exact ih_2 _ (by omega) (k + 1) rfl (by omega) (lt_s hz (ckWd_ft hw (by omega) (by omega) cz_2 cz_5)) _ _ ls hP hD hS hl
      refine lv_iconst (v := (nI 0)) hx hb dX9_areAsAtFirst_30 (by decide) ?_
      refine ck_top (y := (b2i false)) (by decide) ?_
      exact ck_zret (b := false) hx hb hrt hlk () (congrArg b2i (Eq.symm (decide_eq_false (fun hh => cz_5 (ckWd_ff hw (by omega) (hh k (by omega))))))) hP hD hS ⟨Nat.le_of_ble_eq_true rfl, Nat.le_of_ble_eq_true rfl⟩ dX9_areAsAtFirst_31
  exact lp_2 _ 0 rfl (by omega) (fun q hq => absurd hq (Nat.not_lt_zero q)) _ _ ls hP hD hS hl
set_option maxHeartbeats 4000000 in
set_option maxRecDepth 100000 in
/-- X9_hasWordOf -/
theorem c_X9_hasWordOf (l : Launch) (N : ckN) (b : Nat) (lw : Nat) (gw : Nat) (lf : Nat → Int32) (gf : Nat → Int32) (n : Nat) (b2 : Nat) (lw2 : Nat) (gw2 : Nat) (lf2 : Nat → Int32) (gf2 : Nat → Int32) (n2 : Nat) (w : Nat → List Nat) (v : Nat → List Nat) (p : Nat) (hw : ckWd lf gf n w) (hv : ckWd lf2 gf2 n2 v) (hp : p < n) (hp2 : p < n2) (hn : n ≤ 5) : ckI l yX9_hasWordOf cX9_hasWordOf 4 (some FieldType.boolean) { frames := 3, cells := 0, slots := 0, locals := 82 } N [.ref b, .ref b2, .int (nI p)] [(b, .inr (9, [.ref lw, .ref gw, .int (nI n)])), (lw, .inl (N.2 0, 5, .inl lf)), (gw, .inl (N.2 0, 300, .inl gf)), (b2, .inr (9, [.ref lw2, .ref gw2, .int (nI n2)])), (lw2, .inl (N.2 0, 5, .inl lf2)), (gw2, .inl (N.2 0, 300, .inl gf2))] (fun (r : Int32) (u : Unit) => r = (b2i (decide (w p = v p)))) (fun (u : Unit) => [(b, .inr (9, [.ref lw, .ref gw, .int (nI n)])), (lw, .inl (N.2 0, 5, .inl lf)), (gw, .inl (N.2 0, 300, .inl gf)), (b2, .inr (9, [.ref lw2, .ref gw2, .int (nI n2)])), (lw2, .inl (N.2 0, 5, .inl lf2)), (gw2, .inl (N.2 0, 300, .inl gf2))]) := by
  refine ckI.of (by decide) (Nat.le_of_ble_eq_true rfl) ?_
  intro pg eg sg mg blw mth cg Ag ls hx hb hrt hml hown hlk hin hg hE hA hP hD hS hl
  have hown : sg.vm.findClass RX9 = some mg.cls := hown
  have hl : lv_has ls 4 [(0, .ref b), (1, .ref b2), (2, .int (nI p))] := hl
  have C0 : ckC pg sg mg ([.ref b, .ref b2, .int (nI p)]).toArray cg cX9_hasWordOf 4 RX9 N Ag := ⟨⟨hx, hb, hml, hown, hg⟩, hE, hA⟩
  generalize hHe : sg.heap = H at hP
  have hS : va_S Ag sg.heap H [] := hHe ▸ hS
  obtain ⟨hp1, hp3, hp4, hp5⟩ := hw p hp
  obtain ⟨hv1, hv3, hv4, hv5⟩ := hv p hp2
  refine lv_aload_n hx hb dX9_hasWordOf_0 rfl (lv_at hl 0 rfl) ?_
  refine va_get (ci := 9) (v := .ref lw) (C := RX9) (T := TX9) (N := 3) hx hb hg inX9 hown hE.1 hP 0 rfl rfl 0 (by decide) (hg _ k1_91) (fun _ h9 => h9) rfl dX9_hasWordOf_1 ?_
  refine lv_iload_n hx hb dX9_hasWordOf_4 rfl (lv_at hl 2 rfl) ?_
  refine ck_iald hx hb hE hP 1 rfl (by omega) (by decide) dX9_hasWordOf_5 ?_
  refine ck_top (y := (nI ((w p).length))) hp1 ?_
  refine lv_aload_n hx hb dX9_hasWordOf_6 rfl (lv_at hl 1 rfl) ?_
  refine va_get (ci := 9) (v := .ref lw2) (C := RX9) (T := TX9) (N := 3) hx hb hg inX9 hown hE.1 hP 3 rfl rfl 0 (by decide) (hg _ k1_91) (fun _ h9 => h9) rfl dX9_hasWordOf_7 ?_
  refine lv_iload_n hx hb dX9_hasWordOf_10 rfl (lv_at hl 2 rfl) ?_
  refine ck_iald hx hb hE hP 4 rfl (by omega) (by decide) dX9_hasWordOf_11 ?_
  refine ck_top (y := (nI ((v p).length))) hv1 ?_
  refine ck_ic_eq (tgt := 17) hx hb dX9_hasWordOf_12 (by decide) (by omega) (by omega) (fun cz_1 => ?_) (fun cz_1 => ?_)
  · refine lv_iconst (v := (nI 0)) hx hb dX9_hasWordOf_17 (by decide) ?_
    refine lv_istore_n (lv' := [(3, .int (nI 0)), (0, .ref b), (1, .ref b2), (2, .int (nI p))]) hx hb dX9_hasWordOf_18 rfl hl (by decide) rfl (fun ls hl => ?_)
    have lp_19 : ∀ (dz : Nat) (k : Nat) (hdz : (w p).length - k = dz) (hk : k ≤ (w p).length) (hwv : (w p).length = (v p).length) (hz : ∀ j, j < k → (w p).getD j 0 = (v p).getD j 0) (H : Heap) (locs : List Loc) (ls : Array Slot), va_P N.1 vwCl [(b, .inr (9, [.ref lw, .ref gw, .int (nI n)])), (lw, .inl (N.2 0, 5, .inl lf)), (gw, .inl (N.2 0, 300, .inl gf)), (b2, .inr (9, [.ref lw2, .ref gw2, .int (nI n2)])), (lw2, .inl (N.2 0, 5, .inl lf2)), (gw2, .inl (N.2 0, 300, .inl gf2))] H → va_D Ag [(b, .inr (9, [.ref lw, .ref gw, .int (nI n)])), (lw, .inl (N.2 0, 5, .inl lf)), (gw, .inl (N.2 0, 300, .inl gf)), (b2, .inr (9, [.ref lw2, .ref gw2, .int (nI n2)])), (lw2, .inl (N.2 0, 5, .inl lf2)), (gw2, .inl (N.2 0, 300, .inl gf2))] → va_S Ag sg.heap H locs → lv_has ls 4 [(3, .int (nI k)), (0, .ref b), (1, .ref b2), (2, .int (nI p))] → W pg l eg { frames := 3, cells := 0, slots := 0, locals := 82 } sg mg ([.ref b, .ref b2, .int (nI p)]).toArray blw mth cg H locs 0 0 (ckQi N Ag blw sg ([.ref b, .ref b2, .int (nI p)]).toArray { frames := 3, cells := 0, slots := 0, locals := 82 } (fun (r : Int32) (u : Unit) => r = (b2i (decide (w p = v p)))) (fun (u : Unit) => [(b, .inr (9, [.ref lw, .ref gw, .int (nI n)])), (lw, .inl (N.2 0, 5, .inl lf)), (gw, .inl (N.2 0, 300, .inl gf)), (b2, .inr (9, [.ref lw2, .ref gw2, .int (nI n2)])), (lw2, .inl (N.2 0, 5, .inl lf2)), (gw2, .inl (N.2 0, 300, .inl gf2))])) (F0 mg 19 ls []) := by
      intro dz
      induction dz using Nat.strongRecOn with
      | _ dz ih_19 =>
        intro k hdz hk hwv hz H locs ls hP hD hS hl
        subst hdz
        refine lv_iload_n hx hb dX9_hasWordOf_19 rfl (lv_at hl 0 rfl) ?_
        refine lv_aload_n hx hb dX9_hasWordOf_20 rfl (lv_at hl 1 rfl) ?_
        refine va_get (ci := 9) (v := .ref lw) (C := RX9) (T := TX9) (N := 3) hx hb hg inX9 hown hE.1 hP 0 rfl rfl 0 (by decide) (hg _ k1_91) (fun _ h9 => h9) rfl dX9_hasWordOf_21 ?_
        refine lv_iload_n hx hb dX9_hasWordOf_24 rfl (lv_at hl 3 rfl) ?_
        refine ck_iald hx hb hE hP 1 rfl (by omega) (by decide) dX9_hasWordOf_25 ?_
        refine ck_top (y := (nI ((w p).length))) hp1 ?_
        refine ck_ic_ge (tgt := 52) hx hb dX9_hasWordOf_26 (by decide) (by omega) (by omega) (fun cz_2 => ?_) (fun cz_2 => ?_)
        · refine lv_iconst (v := (nI 1)) hx hb dX9_hasWordOf_52 (by decide) ?_
          refine ck_top (y := (b2i true)) (by decide) ?_
          exact ck_zret (b := true) hx hb hrt hlk () (congrArg b2i (Eq.symm (decide_eq_true (list_eq hwv (fun j hj => hz j (by omega)))))) hP hD hS ⟨Nat.le_of_ble_eq_true rfl, Nat.le_of_ble_eq_true rfl⟩ dX9_hasWordOf_53
        refine lv_aload_n hx hb dX9_hasWordOf_29 rfl (lv_at hl 1 rfl) ?_
        refine lv_iload_n hx hb dX9_hasWordOf_30 rfl (lv_at hl 3 rfl) ?_
        refine lv_iload_n hx hb dX9_hasWordOf_31 rfl (lv_at hl 0 rfl) ?_
        refine ck_Vi (As := [.int (nI p), .int (nI k)]) (rest := []) (wr := [(b2, .inr (9, [.ref lw2, .ref gw2, .int (nI n2)])), (lw2, .inl (N.2 0, 5, .inl lf2)), (gw2, .inl (N.2 0, 300, .inl gf2))]) C0 hP hD hS (c_X9_told l N b lw gw lf gf n p k (by omega)) myX9_told k3_129 ⟨Nat.le_of_ble_eq_true rfl, Nat.le_of_ble_eq_true rfl⟩ [0, 1, 2] [3, 4, 5] ⟨⟨rfl, rfl⟩, by decide, by decide, by decide⟩ 0 rfl rfl rfl rfl hl.1 rfl (Nat.le_of_ble_eq_true rfl) dX9_hasWordOf_32 ⟨Nat.le_of_ble_eq_true rfl, Nat.le_of_ble_eq_true rfl⟩ (fun r_3 u0 H locs hw0 hP hD hS => ?_)
        have hw_4 : r_3 = (gf (p * 60 + k)) := hw0
        subst hw_4
        have hP : va_P N.1 vwCl [(b2, .inr (9, [.ref lw2, .ref gw2, .int (nI n2)])), (lw2, .inl (N.2 0, 5, .inl lf2)), (gw2, .inl (N.2 0, 300, .inl gf2)), (b, .inr (9, [.ref lw, .ref gw, .int (nI n)])), (lw, .inl (N.2 0, 5, .inl lf)), (gw, .inl (N.2 0, 300, .inl gf))] H := hP
        have hD : va_D Ag [(b2, .inr (9, [.ref lw2, .ref gw2, .int (nI n2)])), (lw2, .inl (N.2 0, 5, .inl lf2)), (gw2, .inl (N.2 0, 300, .inl gf2)), (b, .inr (9, [.ref lw, .ref gw, .int (nI n)])), (lw, .inl (N.2 0, 5, .inl lf)), (gw, .inl (N.2 0, 300, .inl gf))] := hD
        refine ck_top (y := (nI ((w p).getD k 0))) (hp5 k (by omega)) ?_
        refine lv_aload_n hx hb dX9_hasWordOf_35 rfl (lv_at hl 2 rfl) ?_
        refine lv_iload_n hx hb dX9_hasWordOf_36 rfl (lv_at hl 3 rfl) ?_
        refine lv_iload_n hx hb dX9_hasWordOf_37 rfl (lv_at hl 0 rfl) ?_
        refine ck_Vi (As := [.int (nI p), .int (nI k)]) (rest := [.int (nI ((w p).getD k 0))]) (wr := [(b, .inr (9, [.ref lw, .ref gw, .int (nI n)])), (lw, .inl (N.2 0, 5, .inl lf)), (gw, .inl (N.2 0, 300, .inl gf))]) C0 hP hD hS (c_X9_told l N b2 lw2 gw2 lf2 gf2 n2 p k (by omega)) myX9_told k3_129 ⟨Nat.le_of_ble_eq_true rfl, Nat.le_of_ble_eq_true rfl⟩ [0, 1, 2] [3, 4, 5] ⟨⟨rfl, rfl⟩, by decide, by decide, by decide⟩ 0 rfl rfl rfl rfl hl.1 rfl (Nat.le_of_ble_eq_true rfl) dX9_hasWordOf_38 ⟨Nat.le_of_ble_eq_true rfl, Nat.le_of_ble_eq_true rfl⟩ (fun r_5 u0 H locs hw0 hP hD hS => ?_)
        have hw_6 : r_5 = (gf2 (p * 60 + k)) := hw0
        subst hw_6
        have hP : va_P N.1 vwCl [(b, .inr (9, [.ref lw, .ref gw, .int (nI n)])), (lw, .inl (N.2 0, 5, .inl lf)), (gw, .inl (N.2 0, 300, .inl gf)), (b2, .inr (9, [.ref lw2, .ref gw2, .int (nI n2)])), (lw2, .inl (N.2 0, 5, .inl lf2)), (gw2, .inl (N.2 0, 300, .inl gf2))] H := hP
        have hD : va_D Ag [(b, .inr (9, [.ref lw, .ref gw, .int (nI n)])), (lw, .inl (N.2 0, 5, .inl lf)), (gw, .inl (N.2 0, 300, .inl gf)), (b2, .inr (9, [.ref lw2, .ref gw2, .int (nI n2)])), (lw2, .inl (N.2 0, 5, .inl lf2)), (gw2, .inl (N.2 0, 300, .inl gf2))] := hD
        refine ck_top (y := (nI ((v p).getD k 0))) (hv5 k (by omega)) ?_
        refine ck_ic_eq (tgt := 46) hx hb dX9_hasWordOf_41 (by decide) (Nat.lt_trans (L20_getD hp4 (by omega)) (by decide)) (Nat.lt_trans (L20_getD hv4 (by omega)) (by decide)) (fun cz_7 => ?_) (fun cz_7 => ?_)
        · refine lv_iinc (v := (nI (k + 1))) (lv' := [(3, .int (nI (k + 1))), (0, .ref b), (1, .ref b2), (2, .int (nI p))]) hx hb dX9_hasWordOf_46 hl (k := 0) rfl (nI_1 _) (by decide) rfl (fun ls hl => ?_)
          refine lv_goto (tgt := 19) hx hb dX9_hasWordOf_49 (by decide) ?_
          exact ih_19 _ (by omega) (k + 1) rfl (by omega) hwv (lt_s hz cz_7) _ _ ls hP hD hS hl
        refine lv_iconst (v := (nI 0)) hx hb dX9_hasWordOf_44 (by decide) ?_
        refine ck_top (y := (b2i false)) (by decide) ?_
        exact ck_zret (b := false) hx hb hrt hlk () (congrArg b2i (Eq.symm (decide_eq_false (fun hh => cz_7 (by rw [hh]))))) hP hD hS ⟨Nat.le_of_ble_eq_true rfl, Nat.le_of_ble_eq_true rfl⟩ dX9_hasWordOf_45
    exact lp_19 _ 0 rfl (by omega) cz_1 (fun j hj => absurd hj (Nat.not_lt_zero j)) _ _ ls hP hD hS hl
  refine lv_iconst (v := (nI 0)) hx hb dX9_hasWordOf_15 (by decide) ?_
  refine ck_top (y := (b2i false)) (by decide) ?_
  exact ck_zret (b := false) hx hb hrt hlk () (congrArg b2i (Eq.symm (decide_eq_false (fun hh => cz_1 (by rw [hh]))))) hP hD hS ⟨Nat.le_of_ble_eq_true rfl, Nat.le_of_ble_eq_true rfl⟩ dX9_hasWordOf_16
set_option maxHeartbeats 4000000 in
set_option maxRecDepth 100000 in
/-- X9_areThoseOf -/
theorem c_X9_areThoseOf (l : Launch) (N : ckN) (b : Nat) (lw : Nat) (gw : Nat) (lf : Nat → Int32) (gf : Nat → Int32) (n : Nat) (b2 : Nat) (lw2 : Nat) (gw2 : Nat) (lf2 : Nat → Int32) (gf2 : Nat → Int32) (n2 : Nat) (w : Nat → List Nat) (v : Nat → List Nat) (hw : ckWd lf gf n w) (hv : ckWd lf2 gf2 n2 v) (hn : n ≤ 5) (hnn : n ≤ n2) : ckI l yX9_areThoseOf cX9_areThoseOf 3 (some FieldType.boolean) { frames := 4, cells := 0, slots := 0, locals := 105 } N [.ref b, .ref b2] [(b, .inr (9, [.ref lw, .ref gw, .int (nI n)])), (lw, .inl (N.2 0, 5, .inl lf)), (gw, .inl (N.2 0, 300, .inl gf)), (b2, .inr (9, [.ref lw2, .ref gw2, .int (nI n2)])), (lw2, .inl (N.2 0, 5, .inl lf2)), (gw2, .inl (N.2 0, 300, .inl gf2))] (fun (r : Int32) (u : Unit) => r = (b2i (decide (∀ q, q < n → w q = v q)))) (fun (u : Unit) => [(b, .inr (9, [.ref lw, .ref gw, .int (nI n)])), (lw, .inl (N.2 0, 5, .inl lf)), (gw, .inl (N.2 0, 300, .inl gf)), (b2, .inr (9, [.ref lw2, .ref gw2, .int (nI n2)])), (lw2, .inl (N.2 0, 5, .inl lf2)), (gw2, .inl (N.2 0, 300, .inl gf2))]) := by
  refine ckI.of (by decide) (Nat.le_of_ble_eq_true rfl) ?_
  intro pg eg sg mg blw mth cg Ag ls hx hb hrt hml hown hlk hin hg hE hA hP hD hS hl
  have hown : sg.vm.findClass RX9 = some mg.cls := hown
  have hl : lv_has ls 3 [(0, .ref b), (1, .ref b2)] := hl
  have C0 : ckC pg sg mg ([.ref b, .ref b2]).toArray cg cX9_areThoseOf 3 RX9 N Ag := ⟨⟨hx, hb, hml, hown, hg⟩, hE, hA⟩
  generalize hHe : sg.heap = H at hP
  have hS : va_S Ag sg.heap H [] := hHe ▸ hS
  refine lv_iconst (v := (nI 0)) hx hb dX9_areThoseOf_0 (by decide) ?_
  refine lv_istore_n (lv' := [(2, .int (nI 0)), (0, .ref b), (1, .ref b2)]) hx hb dX9_areThoseOf_1 rfl hl (by decide) rfl (fun ls hl => ?_)
  have lp_2 : ∀ (dz : Nat) (k : Nat) (hdz : n - k = dz) (hk : k ≤ n) (hz : ∀ q, q < k → w q = v q) (H : Heap) (locs : List Loc) (ls : Array Slot), va_P N.1 vwCl [(b, .inr (9, [.ref lw, .ref gw, .int (nI n)])), (lw, .inl (N.2 0, 5, .inl lf)), (gw, .inl (N.2 0, 300, .inl gf)), (b2, .inr (9, [.ref lw2, .ref gw2, .int (nI n2)])), (lw2, .inl (N.2 0, 5, .inl lf2)), (gw2, .inl (N.2 0, 300, .inl gf2))] H → va_D Ag [(b, .inr (9, [.ref lw, .ref gw, .int (nI n)])), (lw, .inl (N.2 0, 5, .inl lf)), (gw, .inl (N.2 0, 300, .inl gf)), (b2, .inr (9, [.ref lw2, .ref gw2, .int (nI n2)])), (lw2, .inl (N.2 0, 5, .inl lf2)), (gw2, .inl (N.2 0, 300, .inl gf2))] → va_S Ag sg.heap H locs → lv_has ls 3 [(2, .int (nI k)), (0, .ref b), (1, .ref b2)] → W pg l eg { frames := 4, cells := 0, slots := 0, locals := 105 } sg mg ([.ref b, .ref b2]).toArray blw mth cg H locs 0 0 (ckQi N Ag blw sg ([.ref b, .ref b2]).toArray { frames := 4, cells := 0, slots := 0, locals := 105 } (fun (r : Int32) (u : Unit) => r = (b2i (decide (∀ q, q < n → w q = v q)))) (fun (u : Unit) => [(b, .inr (9, [.ref lw, .ref gw, .int (nI n)])), (lw, .inl (N.2 0, 5, .inl lf)), (gw, .inl (N.2 0, 300, .inl gf)), (b2, .inr (9, [.ref lw2, .ref gw2, .int (nI n2)])), (lw2, .inl (N.2 0, 5, .inl lf2)), (gw2, .inl (N.2 0, 300, .inl gf2))])) (F0 mg 2 ls []) := by
    intro dz
    induction dz using Nat.strongRecOn with
    | _ dz ih_2 =>
      intro k hdz hk hz H locs ls hP hD hS hl
      subst hdz
      refine lv_iload_n hx hb dX9_areThoseOf_2 rfl (lv_at hl 0 rfl) ?_
      refine lv_aload_n hx hb dX9_areThoseOf_3 rfl (lv_at hl 1 rfl) ?_
      refine va_get (ci := 9) (v := .int (nI n)) (C := RX9) (T := TX9) (N := 3) hx hb hg inX9 hown hE.1 hP 0 rfl rfl 2 (by decide) (hg _ k1_95) (fun _ h9 => h9) rfl dX9_areThoseOf_4 ?_
      refine ck_ic_ge (tgt := 27) hx hb dX9_areThoseOf_7 (by decide) (by omega) (by omega) (fun cz_1 => ?_) (fun cz_1 => ?_)
      · refine lv_iconst (v := (nI 1)) hx hb dX9_areThoseOf_27 (by decide) ?_
        refine ck_top (y := (b2i true)) (by decide) ?_
        exact ck_zret (b := true) hx hb hrt hlk () (congrArg b2i (Eq.symm (decide_eq_true (fun q hq => hz q (by omega))))) hP hD hS ⟨Nat.le_of_ble_eq_true rfl, Nat.le_of_ble_eq_true rfl⟩ dX9_areThoseOf_28
      refine lv_aload_n hx hb dX9_areThoseOf_10 rfl (lv_at hl 1 rfl) ?_
      refine lv_aload_n hx hb dX9_areThoseOf_11 rfl (lv_at hl 2 rfl) ?_
      refine lv_iload_n hx hb dX9_areThoseOf_12 rfl (lv_at hl 0 rfl) ?_
      refine ck_Vi (As := [.ref b2, .int (nI k)]) (rest := []) (wr := []) C0 hP hD hS (c_X9_hasWordOf l N b lw gw lf gf n b2 lw2 gw2 lf2 gf2 n2 w v k hw hv (by omega) (by omega) (by omega)) myX9_hasWordOf k3_174 ⟨Nat.le_of_ble_eq_true rfl, Nat.le_of_ble_eq_true rfl⟩ [0, 1, 2, 3, 4, 5] [] ⟨⟨rfl, rfl⟩, by decide, by decide, by decide⟩ 0 rfl rfl rfl rfl hl.1 rfl (Nat.le_of_ble_eq_true rfl) dX9_areThoseOf_13 ⟨Nat.le_of_ble_eq_true rfl, Nat.le_of_ble_eq_true rfl⟩ (fun r_2 u0 H locs hw0 hP hD hS => ?_)
      have hw_3 : r_2 = (b2i (decide (w k = v k))) := hw0
      subst hw_3
      have hP : va_P N.1 vwCl [(b, .inr (9, [.ref lw, .ref gw, .int (nI n)])), (lw, .inl (N.2 0, 5, .inl lf)), (gw, .inl (N.2 0, 300, .inl gf)), (b2, .inr (9, [.ref lw2, .ref gw2, .int (nI n2)])), (lw2, .inl (N.2 0, 5, .inl lf2)), (gw2, .inl (N.2 0, 300, .inl gf2))] H := hP
      have hD : va_D Ag [(b, .inr (9, [.ref lw, .ref gw, .int (nI n)])), (lw, .inl (N.2 0, 5, .inl lf)), (gw, .inl (N.2 0, 300, .inl gf)), (b2, .inr (9, [.ref lw2, .ref gw2, .int (nI n2)])), (lw2, .inl (N.2 0, 5, .inl lf2)), (gw2, .inl (N.2 0, 300, .inl gf2))] := hD
      refine ck_ifne (b := decide (w k = v k)) (tgt := 21) hx hb dX9_areThoseOf_16 (by decide) (fun cz_4 => ?_) (fun cz_4 => ?_)
      · refine lv_iinc (v := (nI (k + 1))) (lv' := [(2, .int (nI (k + 1))), (0, .ref b), (1, .ref b2)]) hx hb dX9_areThoseOf_21 hl (k := 0) rfl (nI_1 _) (by decide) rfl (fun ls hl => ?_)
        refine lv_goto (tgt := 2) hx hb dX9_areThoseOf_24 (by decide) ?_
        exact ih_2 _ (by omega) (k + 1) rfl (by omega) (lt_s hz (of_decide_eq_true cz_4)) _ _ ls hP hD hS hl
      refine lv_iconst (v := (nI 0)) hx hb dX9_areThoseOf_19 (by decide) ?_
      refine ck_top (y := (b2i false)) (by decide) ?_
      exact ck_zret (b := false) hx hb hrt hlk () (congrArg b2i (Eq.symm (decide_eq_false (fun hh => of_decide_eq_false cz_4 (hh k (by omega)))))) hP hD hS ⟨Nat.le_of_ble_eq_true rfl, Nat.le_of_ble_eq_true rfl⟩ dX9_areThoseOf_20
  exact lp_2 _ 0 rfl (by omega) (fun q hq => absurd hq (Nat.not_lt_zero q)) _ _ ls hP hD hS hl
set_option maxHeartbeats 4000000 in
set_option maxRecDepth 100000 in
/-- X9_takeFrom -/
theorem c_X9_takeFrom (l : Launch) (N : ckN) (b : Nat) (lw : Nat) (gw : Nat) (lf : Nat → Int32) (gf : Nat → Int32) (n : Nat) (b2 : Nat) (lw2 : Nat) (gw2 : Nat) (lf2 : Nat → Int32) (gf2 : Nat → Int32) (n2 : Nat) (v : Nat → List Nat) (hv : ckWd lf2 gf2 n2 v) (hn : n2 ≤ 5) : ckV l yX9_takeFrom cX9_takeFrom 3 none { frames := 3, cells := 0, slots := 0, locals := 84 } N [.ref b, .ref b2] [(b, .inr (9, [.ref lw, .ref gw, .int (nI n)])), (lw, .inl (N.2 0, 5, .inl lf)), (gw, .inl (N.2 0, 300, .inl gf)), (b2, .inr (9, [.ref lw2, .ref gw2, .int (nI n2)])), (lw2, .inl (N.2 0, 5, .inl lf2)), (gw2, .inl (N.2 0, 300, .inl gf2))] (fun (u : (Nat → Int32) × (Nat → Int32)) => ckWd u.1 u.2 n2 v) (fun (u : (Nat → Int32) × (Nat → Int32)) => [(b, .inr (9, [.ref lw, .ref gw, .int (nI n2)])), (lw, .inl (N.2 0, 5, .inl u.1)), (gw, .inl (N.2 0, 300, .inl u.2)), (b2, .inr (9, [.ref lw2, .ref gw2, .int (nI n2)])), (lw2, .inl (N.2 0, 5, .inl lf2)), (gw2, .inl (N.2 0, 300, .inl gf2))]) := by
  refine ckV.of (by decide) (Nat.le_of_ble_eq_true rfl) ?_
  intro pg eg sg mg blw mth cg Ag ls hx hb hrt hml hown hlk hin hg hE hA hP hD hS hl
  have hown : sg.vm.findClass RX9 = some mg.cls := hown
  have hl : lv_has ls 3 [(0, .ref b), (1, .ref b2)] := hl
  have C0 : ckC pg sg mg ([.ref b, .ref b2]).toArray cg cX9_takeFrom 3 RX9 N Ag := ⟨⟨hx, hb, hml, hown, hg⟩, hE, hA⟩
  generalize hHe : sg.heap = H at hP
  have hS : va_S Ag sg.heap H [] := hHe ▸ hS
  refine lv_aload_n hx hb dX9_takeFrom_0 rfl (lv_at hl 0 rfl) ?_
  refine lv_aload_n hx hb dX9_takeFrom_1 rfl (lv_at hl 1 rfl) ?_
  refine va_get (ci := 9) (v := .int (nI n2)) (C := RX9) (T := TX9) (N := 3) hx hb hg inX9 hown hE.1 hP 3 rfl rfl 2 (by decide) (hg _ k1_95) (fun _ h9 => h9) rfl dX9_takeFrom_2 ?_
  refine va_put (ci := 9) (v := .int (nI n2)) (C := RX9) (T := TX9) (N := 3) hx hb hg inX9 tyX9 tyX9_ok nmX9 hown hE.1 hP hD hS 0 rfl rfl 2 (by decide) (hg _ k1_95) (fun _ h9 => h9) rfl (tyX9_ok 2 (by decide)) rfl rfl (Nat.le_of_ble_eq_true rfl) dX9_takeFrom_5 (fun H locs hP hD hS => ?_)
  have hP : va_P N.1 vwCl [(b, .inr (9, [.ref lw, .ref gw, .int (nI n2)])), (lw, .inl (N.2 0, 5, .inl lf)), (gw, .inl (N.2 0, 300, .inl gf)), (b2, .inr (9, [.ref lw2, .ref gw2, .int (nI n2)])), (lw2, .inl (N.2 0, 5, .inl lf2)), (gw2, .inl (N.2 0, 300, .inl gf2))] H := hP
  have hD : va_D Ag [(b, .inr (9, [.ref lw, .ref gw, .int (nI n2)])), (lw, .inl (N.2 0, 5, .inl lf)), (gw, .inl (N.2 0, 300, .inl gf)), (b2, .inr (9, [.ref lw2, .ref gw2, .int (nI n2)])), (lw2, .inl (N.2 0, 5, .inl lf2)), (gw2, .inl (N.2 0, 300, .inl gf2))] := hD
  refine lv_iconst (v := (nI 0)) hx hb dX9_takeFrom_8 (by decide) ?_
  refine lv_istore_n (lv' := [(2, .int (nI 0)), (0, .ref b), (1, .ref b2)]) hx hb dX9_takeFrom_9 rfl hl (by decide) rfl (fun ls hl => ?_)
  have lp_10 : ∀ (dz : Nat) (k : Nat) (lf1 : Nat → Int32) (gf1 : Nat → Int32) (hdz : n2 - k = dz) (hk : k ≤ n2) (hz : ckWd lf1 gf1 k v) (H : Heap) (locs : List Loc) (ls : Array Slot), va_P N.1 vwCl [(b, .inr (9, [.ref lw, .ref gw, .int (nI n2)])), (lw, .inl (N.2 0, 5, .inl lf1)), (gw, .inl (N.2 0, 300, .inl gf1)), (b2, .inr (9, [.ref lw2, .ref gw2, .int (nI n2)])), (lw2, .inl (N.2 0, 5, .inl lf2)), (gw2, .inl (N.2 0, 300, .inl gf2))] H → va_D Ag [(b, .inr (9, [.ref lw, .ref gw, .int (nI n2)])), (lw, .inl (N.2 0, 5, .inl lf1)), (gw, .inl (N.2 0, 300, .inl gf1)), (b2, .inr (9, [.ref lw2, .ref gw2, .int (nI n2)])), (lw2, .inl (N.2 0, 5, .inl lf2)), (gw2, .inl (N.2 0, 300, .inl gf2))] → va_S Ag sg.heap H locs → lv_has ls 3 [(2, .int (nI k)), (0, .ref b), (1, .ref b2)] → W pg l eg { frames := 3, cells := 0, slots := 0, locals := 84 } sg mg ([.ref b, .ref b2]).toArray blw mth cg H locs 0 0 (ckQv N Ag blw sg ([.ref b, .ref b2]).toArray { frames := 3, cells := 0, slots := 0, locals := 84 } (fun (u : (Nat → Int32) × (Nat → Int32)) => ckWd u.1 u.2 n2 v) (fun (u : (Nat → Int32) × (Nat → Int32)) => [(b, .inr (9, [.ref lw, .ref gw, .int (nI n2)])), (lw, .inl (N.2 0, 5, .inl u.1)), (gw, .inl (N.2 0, 300, .inl u.2)), (b2, .inr (9, [.ref lw2, .ref gw2, .int (nI n2)])), (lw2, .inl (N.2 0, 5, .inl lf2)), (gw2, .inl (N.2 0, 300, .inl gf2))])) (F0 mg 10 ls []) := by
    intro dz
    induction dz using Nat.strongRecOn with
    | _ dz ih_10 =>
      intro k lf1 gf1 hdz hk hz H locs ls hP hD hS hl
      subst hdz
      refine lv_iload_n hx hb dX9_takeFrom_10 rfl (lv_at hl 0 rfl) ?_
      refine lv_aload_n hx hb dX9_takeFrom_11 rfl (lv_at hl 1 rfl) ?_
      refine va_get (ci := 9) (v := .int (nI n2)) (C := RX9) (T := TX9) (N := 3) hx hb hg inX9 hown hE.1 hP 0 rfl rfl 2 (by decide) (hg _ k1_95) (fun _ h9 => h9) rfl dX9_takeFrom_12 ?_
      refine ck_ic_ge (tgt := 43) hx hb dX9_takeFrom_15 (by decide) (by omega) (by omega) (fun cz_1 => ?_) (fun cz_1 => ?_)
      · exact ck_vret hx hb hrt hlk ⟨lf1, gf1⟩ (fun q hq => hz q (by omega)) hP hD hS ⟨Nat.le_of_ble_eq_true rfl, Nat.le_of_ble_eq_true rfl⟩ dX9_takeFrom_43
      refine lv_aload_n hx hb dX9_takeFrom_18 rfl (lv_at hl 1 rfl) ?_
      refine lv_iload_n hx hb dX9_takeFrom_19 rfl (lv_at hl 0 rfl) ?_
      refine lv_aload_n hx hb dX9_takeFrom_20 rfl (lv_at hl 2 rfl) ?_
      refine va_get (ci := 9) (v := .ref gw2) (C := RX9) (T := TX9) (N := 3) hx hb hg inX9 hown hE.1 hP 3 rfl rfl 1 (by decide) (hg _ k1_94) (fun _ h9 => h9) rfl dX9_takeFrom_21 ?_
      refine lv_iload_n hx hb dX9_takeFrom_24 rfl (lv_at hl 0 rfl) ?_
      refine lv_bipush (v := (nI 60)) hx hb dX9_takeFrom_25 (by decide) ?_
      refine lv_imul hx hb dX9_takeFrom_27 ?_
      refine ck_top (y := (nI (k * 60))) (pk_mul _ _) ?_
      refine lv_aload_n hx hb dX9_takeFrom_28 rfl (lv_at hl 2 rfl) ?_
      refine va_get (ci := 9) (v := .ref lw2) (C := RX9) (T := TX9) (N := 3) hx hb hg inX9 hown hE.1 hP 3 rfl rfl 0 (by decide) (hg _ k1_91) (fun _ h9 => h9) rfl dX9_takeFrom_29 ?_
      refine lv_iload_n hx hb dX9_takeFrom_32 rfl (lv_at hl 0 rfl) ?_
      refine ck_iald hx hb hE hP 4 rfl (by omega) (by decide) dX9_takeFrom_33 ?_
      refine ck_top (y := (nI ((v k).length))) (hv k (by omega)).1 ?_
      have hq := (hv k (by omega)).2.1
      refine ck_Vv (As := [.int (nI k), .ref gw2, .int (nI (k * 60)), .int (nI ((v k).length))]) (rest := []) (wr := [(b2, .inr (9, [.ref lw2, .ref gw2, .int (nI n2)])), (lw2, .inl (N.2 0, 5, .inl lf2))]) C0 hP hD hS (c_X9_setWord l N b lw gw lf1 gf1 n2 k gw2 300 gf2 (k * 60) ((v k).length) (by omega) (by omega) (by omega) (by omega)) myX9_setWord k2_66 ⟨Nat.le_of_ble_eq_true rfl, Nat.le_of_ble_eq_true rfl⟩ [0, 1, 2, 5] [3, 4] ⟨⟨rfl, rfl⟩, by decide, by decide, by decide⟩ 0 rfl rfl rfl rfl hl.1 rfl (Nat.le_of_ble_eq_true rfl) dX9_takeFrom_34 ⟨Nat.le_of_ble_eq_true rfl, Nat.le_of_ble_eq_true rfl⟩ (fun u0 H locs hw0 hP hD hS => ?_)
      have hP : va_P N.1 vwCl [(b2, .inr (9, [.ref lw2, .ref gw2, .int (nI n2)])), (lw2, .inl (N.2 0, 5, .inl lf2)), (b, .inr (9, [.ref lw, .ref gw, .int (nI n2)])), (lw, .inl (N.2 0, 5, .inl (upd lf1 k (nI ((v k).length))))), (gw, .inl (N.2 0, 300, .inl (va_cpy gf2 gf1 (k * 60) (k * 60) ((v k).length)))), (gw2, .inl (N.2 0, 300, .inl gf2))] H := hP
      have hD : va_D Ag [(b2, .inr (9, [.ref lw2, .ref gw2, .int (nI n2)])), (lw2, .inl (N.2 0, 5, .inl lf2)), (b, .inr (9, [.ref lw, .ref gw, .int (nI n2)])), (lw, .inl (N.2 0, 5, .inl (upd lf1 k (nI ((v k).length))))), (gw, .inl (N.2 0, 300, .inl (va_cpy gf2 gf1 (k * 60) (k * 60) ((v k).length)))), (gw2, .inl (N.2 0, 300, .inl gf2))] := hD
      refine lv_iinc (v := (nI (k + 1))) (lv' := [(2, .int (nI (k + 1))), (0, .ref b), (1, .ref b2)]) hx hb dX9_takeFrom_37 hl (k := 0) rfl (nI_1 _) (by decide) rfl (fun ls hl => ?_)
      refine lv_goto (tgt := 10) hx hb dX9_takeFrom_40 (by decide) ?_
      exact ih_10 _ (by omega) (k + 1) (upd lf1 k (nI ((v k).length))) (va_cpy gf2 gf1 (k * 60) (k * 60) ((v k).length)) rfl (by omega) (ckWd_push hz (by omega) hq (hv k (by omega)).2.2.1 (hv k (by omega)).2.2.2) _ _ ls (hP.sub [2, 3, 4, 0, 1, 5] rfl) (hD.sub [2, 3, 4, 0, 1, 5] (by decide) rfl) hS hl
  exact lp_10 _ 0 lf gf rfl (by omega) (fun q hq => absurd hq (Nat.not_lt_zero q)) _ _ ls hP hD hS hl
set_option maxHeartbeats 4000000 in
set_option maxRecDepth 100000 in
/-- X7_init -/
theorem c_X7_init (l : Launch) (N : ckN) (uu : Nat)  : ckV l yX7_init cX7_init 1 none { frames := 2, cells := 1, slots := 3, locals := 60 } N [.ref uu] [(uu, .inr (7, [.null]))] (fun (u : Nat) => True) (fun (u : Nat) => [(uu, .inr (7, [.ref u])), (u, .inl (N.2 0, 3, .inl (fun _ => 0)))]) := by
  refine ckV.of (by decide) (Nat.le_of_ble_eq_true rfl) ?_
  intro pg eg sg mg blw mth cg Ag ls hx hb hrt hml hown hlk hin hg hE hA hP hD hS hl
  have hown : sg.vm.findClass RX7 = some mg.cls := hown
  have hl : lv_has ls 1 [(0, .ref uu)] := hl
  have C0 : ckC pg sg mg ([.ref uu]).toArray cg cX7_init 1 RX7 N Ag := ⟨⟨hx, hb, hml, hown, hg⟩, hE, hA⟩
  generalize hHe : sg.heap = H at hP
  have hS : va_S Ag sg.heap H [] := hHe ▸ hS
  refine lv_aload_n hx hb dX7_init_0 rfl (lv_at hl 0 rfl) ?_
  refine W.objInit hx hb hown (hg _ k1_190) (hg _ k1_22) (hg _ k1_23) rfl (by rw [hml]; exact hl.1) rfl dX7_init_1 (Nat.le_of_ble_eq_true rfl) (Nat.le_of_ble_eq_true rfl) ?_
  refine W.eq (g2 := F0 mg 4 ls []) rfl ?_
  refine lv_aload_n hx hb dX7_init_4 rfl (lv_at hl 0 rfl) ?_
  refine lv_iconst (v := (nI 3)) hx hb dX7_init_5 (by decide) ?_
  refine ck_newa (n := 3) hx hb (hg _ k1_51) hE hP hD hS hA (by decide) (by decide) (Nat.le_of_ble_eq_true rfl) (Nat.le_of_ble_eq_true rfl) dX7_init_6 (fun q_1 H hP hD hS => ?_)
  have hP : va_P N.1 vwCl [(uu, .inr (7, [.null])), (q_1, .inl (N.2 0, 3, .inl (fun _ => 0)))] H := hP
  have hD : va_D Ag [(uu, .inr (7, [.null])), (q_1, .inl (N.2 0, 3, .inl (fun _ => 0)))] := hD
  refine va_putF (ci := 7) (v := .ref q_1) (C := RX7) (T := TX7) (N := 1) hx hb hg inX7 tyX7 tyX7_ok nmX7 hown hE.1 hP hD hS 0 rfl rfl 0 (by decide) (hg _ k1_191) (fun _ h9 => h9) rfl hin rfl (tyX7_ok 0 (by decide)) rfl rfl (Nat.le_of_ble_eq_true rfl) dX7_init_8 (fun H locs hP hD hS => ?_)
  have hP : va_P N.1 vwCl [(uu, .inr (7, [.ref q_1])), (q_1, .inl (N.2 0, 3, .inl (fun _ => 0)))] H := hP
  have hD : va_D Ag [(uu, .inr (7, [.ref q_1])), (q_1, .inl (N.2 0, 3, .inl (fun _ => 0)))] := hD
  exact ck_vret hx hb hrt hlk (q_1) trivial hP hD hS ⟨Nat.le_of_ble_eq_true rfl, Nat.le_of_ble_eq_true rfl⟩ dX7_init_11
set_option maxHeartbeats 4000000 in
set_option maxRecDepth 100000 in
/-- X7_untangles -/
theorem c_X7_untangles_0 (l : Launch) (N : ckN) (uu : Nat) (wk : Nat) (wf : Nat → Int32) (b : Nat) (lw : Nat) (gw : Nat) (lf : Nat → Int32) (gf : Nat → Int32) (n : Nat) (ja : Nat) (jj : Nat) (jl : Nat → Int32) (jn : Int32) (w : Nat → List Nat) (dn : Nat) (hw : ckWd lf gf n w) (hgd : ckGood n w) (hn2 : 2 ≤ n) (hn : n ≤ 5) (hdn : dn + 0 ≤ 3) : ckI l yX7_untangles cX7_untangles 8 (some FieldType.boolean) { frames := 4, cells := 0, slots := 0, locals := 103 } N [.ref uu, .ref b, .ref ja, .int (nI dn), .int (nI (dn + 0))] [(uu, .inr (7, [.ref wk])), (wk, .inl (N.2 0, 3, .inl wf)), (b, .inr (9, [.ref lw, .ref gw, .int (nI n)])), (lw, .inl (N.2 0, 5, .inl lf)), (gw, .inl (N.2 0, 300, .inl gf)), (ja, .inr (3, [.ref jj, .int jn])), (jj, .inl (N.2 0, 180, .inl jl))] (fun (r : Int32) (u : (Nat → Int32) × (Nat → Int32) × (Nat → Int32) × (Nat → Int32) × Int32) => (r = (b2i ((ckPrn n 0 w).isSome))) ∧ (ckWd u.2.1 u.2.2.1 n w ∧ (∀ l, ckPrn n 0 w = some l → ∀ i, i < 0 → u.1 (dn + i) = nI (l.getD i 0)) ∧ (∀ i, i < dn → u.1 i = wf i))) (fun (u : (Nat → Int32) × (Nat → Int32) × (Nat → Int32) × (Nat → Int32) × Int32) => [(uu, .inr (7, [.ref wk])), (wk, .inl (N.2 0, 3, .inl u.1)), (b, .inr (9, [.ref lw, .ref gw, .int (nI n)])), (lw, .inl (N.2 0, 5, .inl u.2.1)), (gw, .inl (N.2 0, 300, .inl u.2.2.1)), (ja, .inr (3, [.ref jj, .int u.2.2.2.2])), (jj, .inl (N.2 0, 180, .inl u.2.2.2.1))]) := by
  refine ckI.of (by decide) (Nat.le_of_ble_eq_true rfl) ?_
  intro pg eg sg mg blw mth cg Ag ls hx hb hrt hml hown hlk hin hg hE hA hP hD hS hl
  have hown : sg.vm.findClass RX7 = some mg.cls := hown
  have hl : lv_has ls 8 [(0, .ref uu), (1, .ref b), (2, .ref ja), (3, .int (nI dn)), (4, .int (nI (dn + 0)))] := hl
  have C0 : ckC pg sg mg ([.ref uu, .ref b, .ref ja, .int (nI dn), .int (nI (dn + 0))]).toArray cg cX7_untangles 8 RX7 N Ag := ⟨⟨hx, hb, hml, hown, hg⟩, hE, hA⟩
  generalize hHe : sg.heap = H at hP
  have hS : va_S Ag sg.heap H [] := hHe ▸ hS
  refine lv_iload hx hb dX7_untangles_0 (lv_at hl 4 rfl) ?_
  refine lv_iload_n hx hb dX7_untangles_2 rfl (lv_at hl 3 rfl) ?_
  refine lv_isub hx hb dX7_untangles_3 ?_
  refine ck_top (y := (nI 0)) ((pk_sub (by omega)).trans (congrArg nI (by omega))) ?_
  refine lv_istore (lv' := [(5, .int (nI 0)), (0, .ref uu), (1, .ref b), (2, .ref ja), (3, .int (nI dn)), (4, .int (nI (dn + 0)))]) hx hb dX7_untangles_4 hl (by decide) rfl (fun ls hl => ?_)
  refine lv_iload hx hb dX7_untangles_6 (lv_at hl 0 rfl) ?_
  refine lv_if_lt (tgt := 30) hx hb dX7_untangles_8 (by decide) (fun cz_1 => absurd cz_1 (by decide)) (fun cz_1 => ?_)
  refine lv_iload hx hb dX7_untangles_11 (lv_at hl 0 rfl) ?_
  refine lv_iconst (v := (nI 3)) hx hb dX7_untangles_13 (by decide) ?_
  refine lv_icmp_gt (tgt := 30) hx hb dX7_untangles_14 (by decide) (fun cz_2 => absurd cz_2 (by decide)) (fun cz_2 => ?_)
  refine lv_aload_n hx hb dX7_untangles_17 rfl (lv_at hl 2 rfl) ?_
  refine ck_Vi (As := []) (rest := []) (wr := [(uu, .inr (7, [.ref wk])), (wk, .inl (N.2 0, 3, .inl wf)), (ja, .inr (3, [.ref jj, .int jn])), (jj, .inl (N.2 0, 180, .inl jl))]) C0 hP hD hS (c_X9_longest l N b lw gw lf gf n w hw (by omega)) myX9_longest k3_118 ⟨Nat.le_of_ble_eq_true rfl, Nat.le_of_ble_eq_true rfl⟩ [2, 3, 4] [0, 1, 5, 6] ⟨⟨rfl, rfl⟩, by decide, by decide, by decide⟩ 2 rfl rfl rfl rfl hl.1 rfl (Nat.le_of_ble_eq_true rfl) dX7_untangles_18 ⟨Nat.le_of_ble_eq_true rfl, Nat.le_of_ble_eq_true rfl⟩ (fun r_3 u0 H locs hw0 hP hD hS => ?_)
  have hw_4 : r_3 = (nI (pmax (fun q => (w q).length) n)) := hw0
  subst hw_4
  have hP : va_P N.1 vwCl [(uu, .inr (7, [.ref wk])), (wk, .inl (N.2 0, 3, .inl wf)), (ja, .inr (3, [.ref jj, .int jn])), (jj, .inl (N.2 0, 180, .inl jl)), (b, .inr (9, [.ref lw, .ref gw, .int (nI n)])), (lw, .inl (N.2 0, 5, .inl lf)), (gw, .inl (N.2 0, 300, .inl gf))] H := hP
  have hD : va_D Ag [(uu, .inr (7, [.ref wk])), (wk, .inl (N.2 0, 3, .inl wf)), (ja, .inr (3, [.ref jj, .int jn])), (jj, .inl (N.2 0, 180, .inl jl)), (b, .inr (9, [.ref lw, .ref gw, .int (nI n)])), (lw, .inl (N.2 0, 5, .inl lf)), (gw, .inl (N.2 0, 300, .inl gf))] := hD
  refine va_gets hx hb hE.2.2.2.2.2.2.2.2.1 hS hown (hg _ k3_123) (fun _ h9 => h9) dX7_untangles_21 ?_
  refine lv_iload hx hb dX7_untangles_24 (lv_at hl 0 rfl) ?_
  refine va_ti (v := .int (ckLG 0)) hx hb hE.2.2.2.2.2.2.2.2.2 hS (vp_in_nI (by omega) (by decide)) (by rw [nI_clamp (by omega)]) dX7_untangles_26 ?_
  refine ck_top (y := (nI 1)) (by decide) ?_
  refine ck_ic_le (tgt := 32) hx hb dX7_untangles_27 (by decide) (Nat.lt_of_le_of_lt (pmax_le (m := 60) (fun q hq => (hw q hq).2.1)) (by decide)) (by decide) (fun cz_5 => ?_) (fun cz_5 => ?_)
  · refine lv_iload hx hb dX7_untangles_32 (lv_at hl 0 rfl) ?_
    refine lv_if_ne (tgt := 42) hx hb dX7_untangles_34 (by decide) (fun cz_6 => absurd cz_6 (by decide)) (fun cz_6 => ?_)
    refine lv_aload_n hx hb dX7_untangles_37 rfl (lv_at hl 2 rfl) ?_
    refine ck_Vi (As := []) (rest := []) (wr := [(uu, .inr (7, [.ref wk])), (wk, .inl (N.2 0, 3, .inl wf)), (ja, .inr (3, [.ref jj, .int jn])), (jj, .inl (N.2 0, 180, .inl jl))]) C0 hP hD hS (c_X9_areAsAtFirst l N b lw gw lf gf n w hw (by omega)) myX9_areAsAtFirst k3_125 ⟨Nat.le_of_ble_eq_true rfl, Nat.le_of_ble_eq_true rfl⟩ [4, 5, 6] [0, 1, 2, 3] ⟨⟨rfl, rfl⟩, by decide, by decide, by decide⟩ 4 rfl rfl rfl rfl hl.1 rfl (Nat.le_of_ble_eq_true rfl) dX7_untangles_38 ⟨Nat.le_of_ble_eq_true rfl, Nat.le_of_ble_eq_true rfl⟩ (fun r_7 u0 H locs hw0 hP hD hS => ?_)
    have hw_8 : r_7 = (b2i (ckFirst w n)) := hw0
    subst hw_8
    have hP : va_P N.1 vwCl [(uu, .inr (7, [.ref wk])), (wk, .inl (N.2 0, 3, .inl wf)), (ja, .inr (3, [.ref jj, .int jn])), (jj, .inl (N.2 0, 180, .inl jl)), (b, .inr (9, [.ref lw, .ref gw, .int (nI n)])), (lw, .inl (N.2 0, 5, .inl lf)), (gw, .inl (N.2 0, 300, .inl gf))] H := hP
    have hD : va_D Ag [(uu, .inr (7, [.ref wk])), (wk, .inl (N.2 0, 3, .inl wf)), (ja, .inr (3, [.ref jj, .int jn])), (jj, .inl (N.2 0, 180, .inl jl)), (b, .inr (9, [.ref lw, .ref gw, .int (nI n)])), (lw, .inl (N.2 0, 5, .inl lf)), (gw, .inl (N.2 0, 300, .inl gf))] := hD
    exact ck_zret (b := (ckFirst w n)) hx hb hrt hlk ⟨wf, lf, gf, jl, jn⟩ ⟨congrArg b2i (by rw [ckPrn, if_neg (by omega)]; cases ckFirst w n <;> rfl), hw, fun l hl i hi => absurd hi (Nat.not_lt_zero i), fun i hi => rfl⟩ (hP.sub [0, 1, 4, 5, 6, 2, 3] rfl) (hD.sub [0, 1, 4, 5, 6, 2, 3] (by decide) rfl) hS ⟨Nat.le_of_ble_eq_true rfl, Nat.le_of_ble_eq_true rfl⟩ dX7_untangles_41
  refine lv_iconst (v := (nI 0)) hx hb dX7_untangles_30 (by decide) ?_
  refine ck_top (y := (b2i false)) (by decide) ?_
  exact ck_zret (b := false) hx hb hrt hlk ⟨wf, lf, gf, jl, jn⟩ ⟨congrArg b2i (by rw [ckPrn, if_pos cz_5]; rfl), hw, fun l hl i hi => absurd hi (Nat.not_lt_zero i), fun i hi => rfl⟩ (hP.sub [0, 1, 4, 5, 6, 2, 3] rfl) (hD.sub [0, 1, 4, 5, 6, 2, 3] (by decide) rfl) hS ⟨Nat.le_of_ble_eq_true rfl, Nat.le_of_ble_eq_true rfl⟩ dX7_untangles_31
set_option maxHeartbeats 4000000 in
set_option maxRecDepth 100000 in
/-- X7_untangles -/
theorem c_X7_untangles_1 (l : Launch) (N : ckN) (uu : Nat) (wk : Nat) (wf : Nat → Int32) (b : Nat) (lw : Nat) (gw : Nat) (lf : Nat → Int32) (gf : Nat → Int32) (n : Nat) (ja : Nat) (jj : Nat) (jl : Nat → Int32) (jn : Int32) (w : Nat → List Nat) (dn : Nat) (hw : ckWd lf gf n w) (hgd : ckGood n w) (hn2 : 2 ≤ n) (hn : n ≤ 5) (hdn : dn + 1 ≤ 3) : ckI l yX7_untangles cX7_untangles 8 (some FieldType.boolean) { frames := 7, cells := 0, slots := 0, locals := 170 } N [.ref uu, .ref b, .ref ja, .int (nI dn), .int (nI (dn + 1))] [(uu, .inr (7, [.ref wk])), (wk, .inl (N.2 0, 3, .inl wf)), (b, .inr (9, [.ref lw, .ref gw, .int (nI n)])), (lw, .inl (N.2 0, 5, .inl lf)), (gw, .inl (N.2 0, 300, .inl gf)), (ja, .inr (3, [.ref jj, .int jn])), (jj, .inl (N.2 0, 180, .inl jl))] (fun (r : Int32) (u : (Nat → Int32) × (Nat → Int32) × (Nat → Int32) × (Nat → Int32) × Int32) => (r = (b2i ((ckPrn n 1 w).isSome))) ∧ (ckWd u.2.1 u.2.2.1 n w ∧ (∀ l, ckPrn n 1 w = some l → ∀ i, i < 1 → u.1 (dn + i) = nI (l.getD i 0)) ∧ (∀ i, i < dn → u.1 i = wf i))) (fun (u : (Nat → Int32) × (Nat → Int32) × (Nat → Int32) × (Nat → Int32) × Int32) => [(uu, .inr (7, [.ref wk])), (wk, .inl (N.2 0, 3, .inl u.1)), (b, .inr (9, [.ref lw, .ref gw, .int (nI n)])), (lw, .inl (N.2 0, 5, .inl u.2.1)), (gw, .inl (N.2 0, 300, .inl u.2.2.1)), (ja, .inr (3, [.ref jj, .int u.2.2.2.2])), (jj, .inl (N.2 0, 180, .inl u.2.2.2.1))]) := by
  refine ckI.of (by decide) (Nat.le_of_ble_eq_true rfl) ?_
  intro pg eg sg mg blw mth cg Ag ls hx hb hrt hml hown hlk hin hg hE hA hP hD hS hl
  have hown : sg.vm.findClass RX7 = some mg.cls := hown
  have hl : lv_has ls 8 [(0, .ref uu), (1, .ref b), (2, .ref ja), (3, .int (nI dn)), (4, .int (nI (dn + 1)))] := hl
  have C0 : ckC pg sg mg ([.ref uu, .ref b, .ref ja, .int (nI dn), .int (nI (dn + 1))]).toArray cg cX7_untangles 8 RX7 N Ag := ⟨⟨hx, hb, hml, hown, hg⟩, hE, hA⟩
  generalize hHe : sg.heap = H at hP
  have hS : va_S Ag sg.heap H [] := hHe ▸ hS
  refine lv_iload hx hb dX7_untangles_0 (lv_at hl 4 rfl) ?_
  refine lv_iload_n hx hb dX7_untangles_2 rfl (lv_at hl 3 rfl) ?_
  refine lv_isub hx hb dX7_untangles_3 ?_
  refine ck_top (y := (nI 1)) ((pk_sub (by omega)).trans (congrArg nI (by omega))) ?_
  refine lv_istore (lv' := [(5, .int (nI 1)), (0, .ref uu), (1, .ref b), (2, .ref ja), (3, .int (nI dn)), (4, .int (nI (dn + 1)))]) hx hb dX7_untangles_4 hl (by decide) rfl (fun ls hl => ?_)
  refine lv_iload hx hb dX7_untangles_6 (lv_at hl 0 rfl) ?_
  refine lv_if_lt (tgt := 30) hx hb dX7_untangles_8 (by decide) (fun cz_1 => absurd cz_1 (by decide)) (fun cz_1 => ?_)
  refine lv_iload hx hb dX7_untangles_11 (lv_at hl 0 rfl) ?_
  refine lv_iconst (v := (nI 3)) hx hb dX7_untangles_13 (by decide) ?_
  refine lv_icmp_gt (tgt := 30) hx hb dX7_untangles_14 (by decide) (fun cz_2 => absurd cz_2 (by decide)) (fun cz_2 => ?_)
  refine lv_aload_n hx hb dX7_untangles_17 rfl (lv_at hl 2 rfl) ?_
  refine ck_Vi (As := []) (rest := []) (wr := [(uu, .inr (7, [.ref wk])), (wk, .inl (N.2 0, 3, .inl wf)), (ja, .inr (3, [.ref jj, .int jn])), (jj, .inl (N.2 0, 180, .inl jl))]) C0 hP hD hS (c_X9_longest l N b lw gw lf gf n w hw (by omega)) myX9_longest k3_118 ⟨Nat.le_of_ble_eq_true rfl, Nat.le_of_ble_eq_true rfl⟩ [2, 3, 4] [0, 1, 5, 6] ⟨⟨rfl, rfl⟩, by decide, by decide, by decide⟩ 2 rfl rfl rfl rfl hl.1 rfl (Nat.le_of_ble_eq_true rfl) dX7_untangles_18 ⟨Nat.le_of_ble_eq_true rfl, Nat.le_of_ble_eq_true rfl⟩ (fun r_3 u0 H locs hw0 hP hD hS => ?_)
  have hw_4 : r_3 = (nI (pmax (fun q => (w q).length) n)) := hw0
  subst hw_4
  have hP : va_P N.1 vwCl [(uu, .inr (7, [.ref wk])), (wk, .inl (N.2 0, 3, .inl wf)), (ja, .inr (3, [.ref jj, .int jn])), (jj, .inl (N.2 0, 180, .inl jl)), (b, .inr (9, [.ref lw, .ref gw, .int (nI n)])), (lw, .inl (N.2 0, 5, .inl lf)), (gw, .inl (N.2 0, 300, .inl gf))] H := hP
  have hD : va_D Ag [(uu, .inr (7, [.ref wk])), (wk, .inl (N.2 0, 3, .inl wf)), (ja, .inr (3, [.ref jj, .int jn])), (jj, .inl (N.2 0, 180, .inl jl)), (b, .inr (9, [.ref lw, .ref gw, .int (nI n)])), (lw, .inl (N.2 0, 5, .inl lf)), (gw, .inl (N.2 0, 300, .inl gf))] := hD
  refine va_gets hx hb hE.2.2.2.2.2.2.2.2.1 hS hown (hg _ k3_123) (fun _ h9 => h9) dX7_untangles_21 ?_
  refine lv_iload hx hb dX7_untangles_24 (lv_at hl 0 rfl) ?_
  refine va_ti (v := .int (ckLG 1)) hx hb hE.2.2.2.2.2.2.2.2.2 hS (vp_in_nI (by omega) (by decide)) (by rw [nI_clamp (by omega)]) dX7_untangles_26 ?_
  refine ck_top (y := (nI 3)) (by decide) ?_
  refine ck_ic_le (tgt := 32) hx hb dX7_untangles_27 (by decide) (Nat.lt_of_le_of_lt (pmax_le (m := 60) (fun q hq => (hw q hq).2.1)) (by decide)) (by decide) (fun cz_5 => ?_) (fun cz_5 => ?_)
  · refine lv_iload hx hb dX7_untangles_32 (lv_at hl 0 rfl) ?_
    refine lv_if_ne (tgt := 42) hx hb dX7_untangles_34 (by decide) (fun cz_6 => ?_) (fun cz_6 => absurd cz_6 (by decide))
    refine lv_iconst (v := (nI 0)) hx hb dX7_untangles_42 (by decide) ?_
    refine lv_istore (lv' := [(6, .int (nI 0)), (5, .int (nI 1)), (0, .ref uu), (1, .ref b), (2, .ref ja), (3, .int (nI dn)), (4, .int (nI (dn + 1)))]) hx hb dX7_untangles_43 hl (by decide) rfl (fun ls hl => ?_)
    have lp_45 : ∀ (dz : Nat) (t : Nat) (wf1 : Nat → Int32) (lf1 : Nat → Int32) (gf1 : Nat → Int32) (jl1 : Nat → Int32) (jn1 : Int32) (hdz : 2 * (n - 1) - t = dz) (ht : t ≤ 2 * (n - 1)) (htr : tryW (ckPrn n 0) w 0 (2 * (n - 1)) = tryW (ckPrn n 0) w t (2 * (n - 1) - t)) (hw1 : ckWd lf1 gf1 n w) (hwf1 : ∀ i, i < dn → wf1 i = wf i) (H : Heap) (locs : List Loc) (ls : Array Slot), va_P N.1 vwCl [(uu, .inr (7, [.ref wk])), (wk, .inl (N.2 0, 3, .inl wf1)), (b, .inr (9, [.ref lw, .ref gw, .int (nI n)])), (lw, .inl (N.2 0, 5, .inl lf1)), (gw, .inl (N.2 0, 300, .inl gf1)), (ja, .inr (3, [.ref jj, .int jn1])), (jj, .inl (N.2 0, 180, .inl jl1))] H → va_D Ag [(uu, .inr (7, [.ref wk])), (wk, .inl (N.2 0, 3, .inl wf1)), (b, .inr (9, [.ref lw, .ref gw, .int (nI n)])), (lw, .inl (N.2 0, 5, .inl lf1)), (gw, .inl (N.2 0, 300, .inl gf1)), (ja, .inr (3, [.ref jj, .int jn1])), (jj, .inl (N.2 0, 180, .inl jl1))] → va_S Ag sg.heap H locs → lv_has ls 8 [(6, .int (nI t)), (5, .int (nI 1)), (0, .ref uu), (1, .ref b), (2, .ref ja), (3, .int (nI dn)), (4, .int (nI (dn + 1)))] → W pg l eg { frames := 7, cells := 0, slots := 0, locals := 170 } sg mg ([.ref uu, .ref b, .ref ja, .int (nI dn), .int (nI (dn + 1))]).toArray blw mth cg H locs 0 0 (ckQi N Ag blw sg ([.ref uu, .ref b, .ref ja, .int (nI dn), .int (nI (dn + 1))]).toArray { frames := 7, cells := 0, slots := 0, locals := 170 } (fun (r : Int32) (u : (Nat → Int32) × (Nat → Int32) × (Nat → Int32) × (Nat → Int32) × Int32) => (r = (b2i ((ckPrn n 1 w).isSome))) ∧ (ckWd u.2.1 u.2.2.1 n w ∧ (∀ l, ckPrn n 1 w = some l → ∀ i, i < 1 → u.1 (dn + i) = nI (l.getD i 0)) ∧ (∀ i, i < dn → u.1 i = wf i))) (fun (u : (Nat → Int32) × (Nat → Int32) × (Nat → Int32) × (Nat → Int32) × Int32) => [(uu, .inr (7, [.ref wk])), (wk, .inl (N.2 0, 3, .inl u.1)), (b, .inr (9, [.ref lw, .ref gw, .int (nI n)])), (lw, .inl (N.2 0, 5, .inl u.2.1)), (gw, .inl (N.2 0, 300, .inl u.2.2.1)), (ja, .inr (3, [.ref jj, .int u.2.2.2.2])), (jj, .inl (N.2 0, 180, .inl u.2.2.2.1))])) (F0 mg 45 ls []) := by
      intro dz
      induction dz using Nat.strongRecOn with
      | _ dz ih_45 =>
        intro t wf1 lf1 gf1 jl1 jn1 hdz ht htr hw1 hwf1 H locs ls hP hD hS hl
        subst hdz
        refine lv_iload hx hb dX7_untangles_45 (lv_at hl 0 rfl) ?_
        refine lv_aload_n hx hb dX7_untangles_47 rfl (lv_at hl 3 rfl) ?_
        refine va_getN (ci := 9) (v := .int (nI n)) (C := RX9) (T := TX9) (N := 3) (host := "KiteMeet") hx hb hg inX9 hown hE.1 hP 2 rfl rfl 2 (by decide) (hE.nf 8 rfl _) (fun _ h9 => h9) rfl dX7_untangles_48 ?_
        refine ck_SNi (As := [.int (nI n)]) (rest := [.int (nI t)]) (wr := [(uu, .inr (7, [.ref wk])), (wk, .inl (N.2 0, 3, .inl wf1)), (b, .inr (9, [.ref lw, .ref gw, .int (nI n)])), (lw, .inl (N.2 0, 5, .inl lf1)), (gw, .inl (N.2 0, 300, .inl gf1)), (ja, .inr (3, [.ref jj, .int jn1])), (jj, .inl (N.2 0, 180, .inl jl1))]) C0 hP hD hS (c_X10_walksOf l N n (by omega) (by omega)) myX10_walksOf 15 rfl ⟨Nat.le_of_ble_eq_true rfl, Nat.le_of_ble_eq_true rfl⟩ [] [0, 1, 2, 3, 4, 5, 6] ⟨⟨rfl, rfl⟩, by decide, by decide, by decide⟩ rfl hl.1 rfl (Nat.le_of_ble_eq_true rfl) dX7_untangles_51 ⟨Nat.le_of_ble_eq_true rfl, Nat.le_of_ble_eq_true rfl⟩ (fun r_7 u0 H locs hw0 hP hD hS => ?_)
        have hw_8 : r_7 = (nI (2 * (n - 1))) := hw0
        subst hw_8
        have hP : va_P N.1 vwCl [(uu, .inr (7, [.ref wk])), (wk, .inl (N.2 0, 3, .inl wf1)), (b, .inr (9, [.ref lw, .ref gw, .int (nI n)])), (lw, .inl (N.2 0, 5, .inl lf1)), (gw, .inl (N.2 0, 300, .inl gf1)), (ja, .inr (3, [.ref jj, .int jn1])), (jj, .inl (N.2 0, 180, .inl jl1))] H := hP
        have hD : va_D Ag [(uu, .inr (7, [.ref wk])), (wk, .inl (N.2 0, 3, .inl wf1)), (b, .inr (9, [.ref lw, .ref gw, .int (nI n)])), (lw, .inl (N.2 0, 5, .inl lf1)), (gw, .inl (N.2 0, 300, .inl gf1)), (ja, .inr (3, [.ref jj, .int jn1])), (jj, .inl (N.2 0, 180, .inl jl1))] := hD
        refine ck_ic_ge (tgt := 133) hx hb dX7_untangles_54 (by decide) (by omega) (by omega) (fun cz_9 => ?_) (fun cz_9 => ?_)
        · refine lv_iconst (v := (nI 0)) hx hb dX7_untangles_133 (by decide) ?_
          refine ck_top (y := (b2i false)) (by decide) ?_
          exact ck_zret (b := false) hx hb hrt hlk ⟨wf1, lf1, gf1, jl1, jn1⟩ ⟨congrArg b2i (by rw [ckPrn, if_neg (by omega), htr, (show 2 * (n - 1) - t = 0 by omega)]; rfl), hw1, fun l hl => (by rw [ckPrn, if_neg (by omega), htr, (show 2 * (n - 1) - t = 0 by omega)] at hl; cases hl), hwf1⟩ hP hD hS ⟨Nat.le_of_ble_eq_true rfl, Nat.le_of_ble_eq_true rfl⟩ dX7_untangles_134
        refine lv_aload_n hx hb dX7_untangles_57 rfl (lv_at hl 3 rfl) ?_
        refine lv_iload hx hb dX7_untangles_58 (lv_at hl 0 rfl) ?_
        refine ck_SNi (As := [.int (nI t)]) (rest := [.ref b]) (wr := [(uu, .inr (7, [.ref wk])), (wk, .inl (N.2 0, 3, .inl wf1)), (b, .inr (9, [.ref lw, .ref gw, .int (nI n)])), (lw, .inl (N.2 0, 5, .inl lf1)), (gw, .inl (N.2 0, 300, .inl gf1)), (ja, .inr (3, [.ref jj, .int jn1])), (jj, .inl (N.2 0, 180, .inl jl1))]) C0 hP hD hS (c_X10_placeOf l N t (by omega)) myX10_placeOf 16 rfl ⟨Nat.le_of_ble_eq_true rfl, Nat.le_of_ble_eq_true rfl⟩ [] [0, 1, 2, 3, 4, 5, 6] ⟨⟨rfl, rfl⟩, by decide, by decide, by decide⟩ rfl hl.1 rfl (Nat.le_of_ble_eq_true rfl) dX7_untangles_60 ⟨Nat.le_of_ble_eq_true rfl, Nat.le_of_ble_eq_true rfl⟩ (fun r_10 u0 H locs hw0 hP hD hS => ?_)
        have hw_11 : r_10 = (nI (t / 2)) := hw0
        subst hw_11
        have hP : va_P N.1 vwCl [(uu, .inr (7, [.ref wk])), (wk, .inl (N.2 0, 3, .inl wf1)), (b, .inr (9, [.ref lw, .ref gw, .int (nI n)])), (lw, .inl (N.2 0, 5, .inl lf1)), (gw, .inl (N.2 0, 300, .inl gf1)), (ja, .inr (3, [.ref jj, .int jn1])), (jj, .inl (N.2 0, 180, .inl jl1))] H := hP
        have hD : va_D Ag [(uu, .inr (7, [.ref wk])), (wk, .inl (N.2 0, 3, .inl wf1)), (b, .inr (9, [.ref lw, .ref gw, .int (nI n)])), (lw, .inl (N.2 0, 5, .inl lf1)), (gw, .inl (N.2 0, 300, .inl gf1)), (ja, .inr (3, [.ref jj, .int jn1])), (jj, .inl (N.2 0, 180, .inl jl1))] := hD
        refine lv_iload hx hb dX7_untangles_63 (lv_at hl 0 rfl) ?_
        refine ck_SNi (As := [.int (nI t)]) (rest := [.int (nI (t / 2)), .ref b]) (wr := [(uu, .inr (7, [.ref wk])), (wk, .inl (N.2 0, 3, .inl wf1)), (b, .inr (9, [.ref lw, .ref gw, .int (nI n)])), (lw, .inl (N.2 0, 5, .inl lf1)), (gw, .inl (N.2 0, 300, .inl gf1)), (ja, .inr (3, [.ref jj, .int jn1])), (jj, .inl (N.2 0, 180, .inl jl1))]) C0 hP hD hS (c_X10_isFront l N t (by omega)) myX10_isFront 17 rfl ⟨Nat.le_of_ble_eq_true rfl, Nat.le_of_ble_eq_true rfl⟩ [] [0, 1, 2, 3, 4, 5, 6] ⟨⟨rfl, rfl⟩, by decide, by decide, by decide⟩ rfl hl.1 rfl (Nat.le_of_ble_eq_true rfl) dX7_untangles_65 ⟨Nat.le_of_ble_eq_true rfl, Nat.le_of_ble_eq_true rfl⟩ (fun r_12 u0 H locs hw0 hP hD hS => ?_)
        have hw_13 : r_12 = (b2i (decide (t % 2 = 0))) := hw0
        subst hw_13
        have hP : va_P N.1 vwCl [(uu, .inr (7, [.ref wk])), (wk, .inl (N.2 0, 3, .inl wf1)), (b, .inr (9, [.ref lw, .ref gw, .int (nI n)])), (lw, .inl (N.2 0, 5, .inl lf1)), (gw, .inl (N.2 0, 300, .inl gf1)), (ja, .inr (3, [.ref jj, .int jn1])), (jj, .inl (N.2 0, 180, .inl jl1))] H := hP
        have hD : va_D Ag [(uu, .inr (7, [.ref wk])), (wk, .inl (N.2 0, 3, .inl wf1)), (b, .inr (9, [.ref lw, .ref gw, .int (nI n)])), (lw, .inl (N.2 0, 5, .inl lf1)), (gw, .inl (N.2 0, 300, .inl gf1)), (ja, .inr (3, [.ref jj, .int jn1])), (jj, .inl (N.2 0, 180, .inl jl1))] := hD
        refine lv_aload_n hx hb dX7_untangles_68 rfl (lv_at hl 4 rfl) ?_
        refine ck_Vi (As := [.int (nI (t / 2)), .int (b2i (decide (t % 2 = 0))), .ref ja]) (rest := []) (wr := [(uu, .inr (7, [.ref wk])), (wk, .inl (N.2 0, 3, .inl wf1))]) C0 hP hD hS (c_X9_pass l N ja jj jl1 b lw gw lf1 gf1 n jn1 w (t / 2) (decide (t % 2 = 0)) hw1 (by omega) (by omega)) myX9_pass k3_139 ⟨Nat.le_of_ble_eq_true rfl, Nat.le_of_ble_eq_true rfl⟩ [2, 3, 4, 5, 6] [0, 1] ⟨⟨rfl, rfl⟩, by decide, by decide, by decide⟩ 2 rfl rfl rfl rfl hl.1 rfl (Nat.le_of_ble_eq_true rfl) dX7_untangles_69 ⟨Nat.le_of_ble_eq_true rfl, Nat.le_of_ble_eq_true rfl⟩ (fun r_14 u0 H locs hw0 hP hD hS => ?_)
        obtain ⟨lf_a, gf_a, jl_a, jn_a⟩ := u0
        have hw_15 : (r_14 = (b2i (ckOk w (t / 2) (decide (t % 2 = 0))))) ∧ (ckWd lf_a gf_a n (if ckOk w (t / 2) (decide (t % 2 = 0)) then ckStep w (t / 2) (decide (t % 2 = 0)) else w)) := hw0
        obtain ⟨hv_16, hw_15⟩ := hw_15
        subst hv_16
        have hP : va_P N.1 vwCl [(uu, .inr (7, [.ref wk])), (wk, .inl (N.2 0, 3, .inl wf1)), (b, .inr (9, [.ref lw, .ref gw, .int (nI n)])), (lw, .inl (N.2 0, 5, .inl lf_a)), (gw, .inl (N.2 0, 300, .inl gf_a)), (ja, .inr (3, [.ref jj, .int jn_a])), (jj, .inl (N.2 0, 180, .inl jl_a))] H := hP
        have hD : va_D Ag [(uu, .inr (7, [.ref wk])), (wk, .inl (N.2 0, 3, .inl wf1)), (b, .inr (9, [.ref lw, .ref gw, .int (nI n)])), (lw, .inl (N.2 0, 5, .inl lf_a)), (gw, .inl (N.2 0, 300, .inl gf_a)), (ja, .inr (3, [.ref jj, .int jn_a])), (jj, .inl (N.2 0, 180, .inl jl_a))] := hD
        have hpw := hw_15
        refine ck_ifeq (b := ckOk w (t / 2) (decide (t % 2 = 0))) (tgt := 127) hx hb dX7_untangles_72 (by decide) (fun cz_17 => ?_) (fun cz_17 => ?_)
        · have hno := cz_17
          rw [hno] at hpw
          have hpw : ckWd lf_a gf_a n w := hpw
          refine lv_iinc (v := (nI (t + 1))) (lv' := [(6, .int (nI (t + 1))), (5, .int (nI 1)), (0, .ref uu), (1, .ref b), (2, .ref ja), (3, .int (nI dn)), (4, .int (nI (dn + 1)))]) hx hb dX7_untangles_127 hl (k := 0) rfl (nI_1 _) (by decide) rfl (fun ls hl => ?_)
          refine lv_goto (tgt := 45) hx hb dX7_untangles_130 (by decide) ?_
          exact ih_45 _ (by omega) (t + 1) wf1 lf_a gf_a jl_a jn_a rfl (by omega) (htr.trans (by rw [tryW_no (by omega) hno]; congr 1)) hpw hwf1 _ _ ls hP hD hS hl
        have hok := cz_17
        rw [if_pos hok] at hpw
        refine lv_aload_n hx hb dX7_untangles_75 rfl (lv_at hl 2 rfl) ?_
        refine va_get (ci := 7) (v := .ref wk) (C := RX7) (T := TX7) (N := 1) hx hb hg inX7 hown hE.1 hP 0 rfl rfl 0 (by decide) (hg _ k1_191) (fun _ h9 => h9) rfl dX7_untangles_76 ?_
        refine lv_iload_n hx hb dX7_untangles_79 rfl (lv_at hl 5 rfl) ?_
        refine lv_iload hx hb dX7_untangles_80 (lv_at hl 0 rfl) ?_
        refine ck_iast hx hb hE hP hD hS 1 rfl (by omega) (by decide) dX7_untangles_82 (ws1 := [(uu, .inr (7, [.ref wk])), (wk, .inl (N.2 0, 3, .inl (upd wf1 dn (nI t)))), (b, .inr (9, [.ref lw, .ref gw, .int (nI n)])), (lw, .inl (N.2 0, 5, .inl lf_a)), (gw, .inl (N.2 0, 300, .inl gf_a)), (ja, .inr (3, [.ref jj, .int jn_a])), (jj, .inl (N.2 0, 180, .inl jl_a))]) rfl (fun H locs hP hD hS => ?_)
        refine lv_aload_n hx hb dX7_untangles_83 rfl (lv_at hl 2 rfl) ?_
        refine lv_aload_n hx hb dX7_untangles_84 rfl (lv_at hl 3 rfl) ?_
        refine lv_aload_n hx hb dX7_untangles_85 rfl (lv_at hl 4 rfl) ?_
        refine lv_iload_n hx hb dX7_untangles_86 rfl (lv_at hl 5 rfl) ?_
        refine lv_iconst (v := (nI 1)) hx hb dX7_untangles_87 (by decide) ?_
        refine lv_iadd hx hb dX7_untangles_88 ?_
        refine ck_top (y := (nI (dn + 1))) (nI_add _ _) ?_
        refine lv_iload hx hb dX7_untangles_89 (lv_at hl 6 rfl) ?_
        refine ck_Vi (As := [.ref b, .ref ja, .int (nI (dn + 1)), .int (nI ((dn + 1) + 0))]) (rest := []) (wr := []) C0 hP hD hS (c_X7_untangles_0 l N uu wk (upd wf1 dn (nI t)) b lw gw lf_a gf_a n ja jj jl_a jn_a (ckStep w (t / 2) (decide (t % 2 = 0))) (dn + 1) hpw (ckStep_good hgd (by omega) hok) (by omega) (by omega) (by omega)) myX7_untangles k3_114 ⟨Nat.le_of_ble_eq_true rfl, Nat.le_of_ble_eq_true rfl⟩ [0, 1, 2, 3, 4, 5, 6] [] ⟨⟨rfl, rfl⟩, by decide, by decide, by decide⟩ 0 rfl rfl rfl rfl hl.1 rfl (Nat.le_of_ble_eq_true rfl) dX7_untangles_91 ⟨Nat.le_of_ble_eq_true rfl, Nat.le_of_ble_eq_true rfl⟩ (fun r_18 u0 H locs hw0 hP hD hS => ?_)
        obtain ⟨wf_b, lf_b, gf_b, jl_b, jn_b⟩ := u0
        have hw_19 : (r_18 = (b2i ((ckPrn n 0 (ckStep w (t / 2) (decide (t % 2 = 0)))).isSome))) ∧ (ckWd lf_b gf_b n (ckStep w (t / 2) (decide (t % 2 = 0))) ∧ (∀ l, ckPrn n 0 (ckStep w (t / 2) (decide (t % 2 = 0))) = some l → ∀ i, i < 0 → wf_b ((dn + 1) + i) = nI (l.getD i 0)) ∧ (∀ i, i < (dn + 1) → wf_b i = (upd wf1 dn (nI t)) i)) := hw0
        obtain ⟨hv_20, hw_19⟩ := hw_19
        subst hv_20
        have hP : va_P N.1 vwCl [(uu, .inr (7, [.ref wk])), (wk, .inl (N.2 0, 3, .inl wf_b)), (b, .inr (9, [.ref lw, .ref gw, .int (nI n)])), (lw, .inl (N.2 0, 5, .inl lf_b)), (gw, .inl (N.2 0, 300, .inl gf_b)), (ja, .inr (3, [.ref jj, .int jn_b])), (jj, .inl (N.2 0, 180, .inl jl_b))] H := hP
        have hD : va_D Ag [(uu, .inr (7, [.ref wk])), (wk, .inl (N.2 0, 3, .inl wf_b)), (b, .inr (9, [.ref lw, .ref gw, .int (nI n)])), (lw, .inl (N.2 0, 5, .inl lf_b)), (gw, .inl (N.2 0, 300, .inl gf_b)), (ja, .inr (3, [.ref jj, .int jn_b])), (jj, .inl (N.2 0, 180, .inl jl_b))] := hD
        obtain ⟨hub, huc, hud⟩ := hw_19
        refine lv_istore (lv' := [(7, .int (b2i ((ckPrn n 0 (ckStep w (t / 2) (decide (t % 2 = 0)))).isSome))), (6, .int (nI t)), (5, .int (nI 1)), (0, .ref uu), (1, .ref b), (2, .ref ja), (3, .int (nI dn)), (4, .int (nI (dn + 1)))]) hx hb dX7_untangles_94 hl (by decide) rfl (fun ls hl => ?_)
        refine lv_aload_n hx hb dX7_untangles_96 rfl (lv_at hl 4 rfl) ?_
        refine lv_iload hx hb dX7_untangles_97 (lv_at hl 1 rfl) ?_
        refine ck_SNi (As := [.int (nI t)]) (rest := [.ref b]) (wr := [(uu, .inr (7, [.ref wk])), (wk, .inl (N.2 0, 3, .inl wf_b)), (b, .inr (9, [.ref lw, .ref gw, .int (nI n)])), (lw, .inl (N.2 0, 5, .inl lf_b)), (gw, .inl (N.2 0, 300, .inl gf_b)), (ja, .inr (3, [.ref jj, .int jn_b])), (jj, .inl (N.2 0, 180, .inl jl_b))]) C0 hP hD hS (c_X10_placeOf l N t (by omega)) myX10_placeOf 16 rfl ⟨Nat.le_of_ble_eq_true rfl, Nat.le_of_ble_eq_true rfl⟩ [] [0, 1, 2, 3, 4, 5, 6] ⟨⟨rfl, rfl⟩, by decide, by decide, by decide⟩ rfl hl.1 rfl (Nat.le_of_ble_eq_true rfl) dX7_untangles_99 ⟨Nat.le_of_ble_eq_true rfl, Nat.le_of_ble_eq_true rfl⟩ (fun r_21 u0 H locs hw0 hP hD hS => ?_)
        have hw_22 : r_21 = (nI (t / 2)) := hw0
        subst hw_22
        have hP : va_P N.1 vwCl [(uu, .inr (7, [.ref wk])), (wk, .inl (N.2 0, 3, .inl wf_b)), (b, .inr (9, [.ref lw, .ref gw, .int (nI n)])), (lw, .inl (N.2 0, 5, .inl lf_b)), (gw, .inl (N.2 0, 300, .inl gf_b)), (ja, .inr (3, [.ref jj, .int jn_b])), (jj, .inl (N.2 0, 180, .inl jl_b))] H := hP
        have hD : va_D Ag [(uu, .inr (7, [.ref wk])), (wk, .inl (N.2 0, 3, .inl wf_b)), (b, .inr (9, [.ref lw, .ref gw, .int (nI n)])), (lw, .inl (N.2 0, 5, .inl lf_b)), (gw, .inl (N.2 0, 300, .inl gf_b)), (ja, .inr (3, [.ref jj, .int jn_b])), (jj, .inl (N.2 0, 180, .inl jl_b))] := hD
        refine lv_iload hx hb dX7_untangles_102 (lv_at hl 1 rfl) ?_
        refine ck_SNi (As := [.int (nI t)]) (rest := [.int (nI (t / 2)), .ref b]) (wr := [(uu, .inr (7, [.ref wk])), (wk, .inl (N.2 0, 3, .inl wf_b)), (b, .inr (9, [.ref lw, .ref gw, .int (nI n)])), (lw, .inl (N.2 0, 5, .inl lf_b)), (gw, .inl (N.2 0, 300, .inl gf_b)), (ja, .inr (3, [.ref jj, .int jn_b])), (jj, .inl (N.2 0, 180, .inl jl_b))]) C0 hP hD hS (c_X10_isFront l N t (by omega)) myX10_isFront 17 rfl ⟨Nat.le_of_ble_eq_true rfl, Nat.le_of_ble_eq_true rfl⟩ [] [0, 1, 2, 3, 4, 5, 6] ⟨⟨rfl, rfl⟩, by decide, by decide, by decide⟩ rfl hl.1 rfl (Nat.le_of_ble_eq_true rfl) dX7_untangles_104 ⟨Nat.le_of_ble_eq_true rfl, Nat.le_of_ble_eq_true rfl⟩ (fun r_23 u0 H locs hw0 hP hD hS => ?_)
        have hw_24 : r_23 = (b2i (decide (t % 2 = 0))) := hw0
        subst hw_24
        have hP : va_P N.1 vwCl [(uu, .inr (7, [.ref wk])), (wk, .inl (N.2 0, 3, .inl wf_b)), (b, .inr (9, [.ref lw, .ref gw, .int (nI n)])), (lw, .inl (N.2 0, 5, .inl lf_b)), (gw, .inl (N.2 0, 300, .inl gf_b)), (ja, .inr (3, [.ref jj, .int jn_b])), (jj, .inl (N.2 0, 180, .inl jl_b))] H := hP
        have hD : va_D Ag [(uu, .inr (7, [.ref wk])), (wk, .inl (N.2 0, 3, .inl wf_b)), (b, .inr (9, [.ref lw, .ref gw, .int (nI n)])), (lw, .inl (N.2 0, 5, .inl lf_b)), (gw, .inl (N.2 0, 300, .inl gf_b)), (ja, .inr (3, [.ref jj, .int jn_b])), (jj, .inl (N.2 0, 180, .inl jl_b))] := hD
        refine ck_ifne (b := decide (t % 2 = 0)) (tgt := 114) hx hb dX7_untangles_107 (by decide) (fun cz_25 => ?_) (fun cz_25 => ?_)
        · refine lv_iconst (v := (nI 0)) hx hb dX7_untangles_114 (by decide) ?_
          refine lv_aload_n hx hb dX7_untangles_115 rfl (lv_at hl 5 rfl) ?_
          refine ck_Vi (As := [.int (nI (t / 2)), .int (b2i false), .ref ja]) (rest := []) (wr := [(uu, .inr (7, [.ref wk])), (wk, .inl (N.2 0, 3, .inl wf_b))]) C0 hP hD hS (c_X9_pass l N ja jj jl_b b lw gw lf_b gf_b n jn_b (ckStep w (t / 2) (decide (t % 2 = 0))) (t / 2) false hub (by omega) (by omega)) myX9_pass k3_139 ⟨Nat.le_of_ble_eq_true rfl, Nat.le_of_ble_eq_true rfl⟩ [2, 3, 4, 5, 6] [0, 1] ⟨⟨rfl, rfl⟩, by decide, by decide, by decide⟩ 2 rfl rfl rfl rfl hl.1 rfl (Nat.le_of_ble_eq_true rfl) dX7_untangles_116 ⟨Nat.le_of_ble_eq_true rfl, Nat.le_of_ble_eq_true rfl⟩ (fun r_26 u0 H locs hw0 hP hD hS => ?_)
          obtain ⟨lf_c, gf_c, jl_c, jn_c⟩ := u0
          have hw_27 : (r_26 = (b2i (ckOk (ckStep w (t / 2) (decide (t % 2 = 0))) (t / 2) false))) ∧ (ckWd lf_c gf_c n (if ckOk (ckStep w (t / 2) (decide (t % 2 = 0))) (t / 2) false then ckStep (ckStep w (t / 2) (decide (t % 2 = 0))) (t / 2) false else (ckStep w (t / 2) (decide (t % 2 = 0))))) := hw0
          obtain ⟨hv_28, hw_27⟩ := hw_27
          subst hv_28
          have hP : va_P N.1 vwCl [(uu, .inr (7, [.ref wk])), (wk, .inl (N.2 0, 3, .inl wf_b)), (b, .inr (9, [.ref lw, .ref gw, .int (nI n)])), (lw, .inl (N.2 0, 5, .inl lf_c)), (gw, .inl (N.2 0, 300, .inl gf_c)), (ja, .inr (3, [.ref jj, .int jn_c])), (jj, .inl (N.2 0, 180, .inl jl_c))] H := hP
          have hD : va_D Ag [(uu, .inr (7, [.ref wk])), (wk, .inl (N.2 0, 3, .inl wf_b)), (b, .inr (9, [.ref lw, .ref gw, .int (nI n)])), (lw, .inl (N.2 0, 5, .inl lf_c)), (gw, .inl (N.2 0, 300, .inl gf_c)), (ja, .inr (3, [.ref jj, .int jn_c])), (jj, .inl (N.2 0, 180, .inl jl_c))] := hD
          have hbk := hw_27
          have hvv : (!decide (t % 2 = 0)) = false := by rw [cz_25]; rfl
          have e1 := ckStep_ok (n := n) (w := w) (p := t / 2) (decide (t % 2 = 0)) hgd (by omega)
          have e2 := ckStep_back (n := n) (w := w) (p := t / 2) (decide (t % 2 = 0)) hgd (by omega)
          rw [hvv] at e1 e2
          rw [if_pos e1, e2] at hbk
          have hwd : ∀ i, i < dn → wf_b i = wf i := fun i hi => (hud i (by omega)).trans ((pk_un (by omega)).trans (hwf1 i hi))
          have hyes : (ckPrn n 0 (ckStep w (t / 2) (decide (t % 2 = 0)))).isSome = true → ((b2i true = b2i (ckPrn n 1 w).isSome) ∧ (ckWd lf_c gf_c n w ∧ (∀ l, ckPrn n 1 w = some l → ∀ i, i < 1 → wf_b (dn + i) = nI (l.getD i 0)) ∧ (∀ i, i < dn → wf_b i = wf i))) := by
            intro hf
            obtain ⟨l1, hl1, hl2⟩ := tryW_yes (f := ckPrn n 0) (t := t) (c := 2 * (n - 1) - t) (by omega) hok hf
            have he : ckPrn n 1 w = some (t :: l1) := by rw [ckPrn, if_neg (by omega), htr, hl2]
            refine ⟨by rw [he]; rfl, hbk, fun l hl i hi => ?_, hwd⟩
            rw [he] at hl
            cases hl
            cases i with
            | zero => exact (hud dn (by omega)).trans pk_us
            | succ j => exact (congrArg wf_b (by omega)).trans (huc l1 hl1 j (by omega))
          refine lv_pop hx hb dX7_untangles_119 rfl ?_
          refine lv_iload hx hb dX7_untangles_120 (lv_at hl 0 rfl) ?_
          refine ck_ifeq (b := (ckPrn n 0 (ckStep w (t / 2) (decide (t % 2 = 0)))).isSome) (tgt := 127) hx hb dX7_untangles_122 (by decide) (fun cz_29 => ?_) (fun cz_29 => ?_)
          · refine lv_iinc (v := (nI (t + 1))) (lv' := [(6, .int (nI (t + 1))), (7, .int (b2i ((ckPrn n 0 (ckStep w (t / 2) (decide (t % 2 = 0)))).isSome))), (5, .int (nI 1)), (0, .ref uu), (1, .ref b), (2, .ref ja), (3, .int (nI dn)), (4, .int (nI (dn + 1)))]) hx hb dX7_untangles_127 hl (k := 1) rfl (nI_1 _) (by decide) rfl (fun ls hl => ?_)
            refine lv_goto (tgt := 45) hx hb dX7_untangles_130 (by decide) ?_
            exact ih_45 _ (by omega) (t + 1) wf_b lf_c gf_c jl_c jn_c rfl (by omega) (htr.trans (by rw [tryW_nf (by omega) hok cz_29]; congr 1)) hbk hwd _ _ ls hP hD hS (lv_sub hl [0, 2, 3, 4, 5, 6, 7] rfl)
          refine lv_iconst (v := (nI 1)) hx hb dX7_untangles_125 (by decide) ?_
          refine ck_top (y := (b2i true)) (by decide) ?_
          exact ck_zret (b := true) hx hb hrt hlk ⟨wf_b, lf_c, gf_c, jl_c, jn_c⟩ (hyes cz_29) hP hD hS ⟨Nat.le_of_ble_eq_true rfl, Nat.le_of_ble_eq_true rfl⟩ dX7_untangles_126
        refine lv_iconst (v := (nI 1)) hx hb dX7_untangles_110 (by decide) ?_
        refine lv_goto (tgt := 115) hx hb dX7_untangles_111 (by decide) ?_
        refine lv_aload_n hx hb dX7_untangles_115 rfl (lv_at hl 5 rfl) ?_
        refine ck_Vi (As := [.int (nI (t / 2)), .int (b2i true), .ref ja]) (rest := []) (wr := [(uu, .inr (7, [.ref wk])), (wk, .inl (N.2 0, 3, .inl wf_b))]) C0 hP hD hS (c_X9_pass l N ja jj jl_b b lw gw lf_b gf_b n jn_b (ckStep w (t / 2) (decide (t % 2 = 0))) (t / 2) true hub (by omega) (by omega)) myX9_pass k3_139 ⟨Nat.le_of_ble_eq_true rfl, Nat.le_of_ble_eq_true rfl⟩ [2, 3, 4, 5, 6] [0, 1] ⟨⟨rfl, rfl⟩, by decide, by decide, by decide⟩ 2 rfl rfl rfl rfl hl.1 rfl (Nat.le_of_ble_eq_true rfl) dX7_untangles_116 ⟨Nat.le_of_ble_eq_true rfl, Nat.le_of_ble_eq_true rfl⟩ (fun r_30 u0 H locs hw0 hP hD hS => ?_)
        obtain ⟨lf_c, gf_c, jl_c, jn_c⟩ := u0
        have hw_31 : (r_30 = (b2i (ckOk (ckStep w (t / 2) (decide (t % 2 = 0))) (t / 2) true))) ∧ (ckWd lf_c gf_c n (if ckOk (ckStep w (t / 2) (decide (t % 2 = 0))) (t / 2) true then ckStep (ckStep w (t / 2) (decide (t % 2 = 0))) (t / 2) true else (ckStep w (t / 2) (decide (t % 2 = 0))))) := hw0
        obtain ⟨hv_32, hw_31⟩ := hw_31
        subst hv_32
        have hP : va_P N.1 vwCl [(uu, .inr (7, [.ref wk])), (wk, .inl (N.2 0, 3, .inl wf_b)), (b, .inr (9, [.ref lw, .ref gw, .int (nI n)])), (lw, .inl (N.2 0, 5, .inl lf_c)), (gw, .inl (N.2 0, 300, .inl gf_c)), (ja, .inr (3, [.ref jj, .int jn_c])), (jj, .inl (N.2 0, 180, .inl jl_c))] H := hP
        have hD : va_D Ag [(uu, .inr (7, [.ref wk])), (wk, .inl (N.2 0, 3, .inl wf_b)), (b, .inr (9, [.ref lw, .ref gw, .int (nI n)])), (lw, .inl (N.2 0, 5, .inl lf_c)), (gw, .inl (N.2 0, 300, .inl gf_c)), (ja, .inr (3, [.ref jj, .int jn_c])), (jj, .inl (N.2 0, 180, .inl jl_c))] := hD
        have hbk := hw_31
        have hvv : (!decide (t % 2 = 0)) = true := by rw [cz_25]; rfl
        have e1 := ckStep_ok (n := n) (w := w) (p := t / 2) (decide (t % 2 = 0)) hgd (by omega)
        have e2 := ckStep_back (n := n) (w := w) (p := t / 2) (decide (t % 2 = 0)) hgd (by omega)
        rw [hvv] at e1 e2
        rw [if_pos e1, e2] at hbk
        have hwd : ∀ i, i < dn → wf_b i = wf i := fun i hi => (hud i (by omega)).trans ((pk_un (by omega)).trans (hwf1 i hi))
        have hyes : (ckPrn n 0 (ckStep w (t / 2) (decide (t % 2 = 0)))).isSome = true → ((b2i true = b2i (ckPrn n 1 w).isSome) ∧ (ckWd lf_c gf_c n w ∧ (∀ l, ckPrn n 1 w = some l → ∀ i, i < 1 → wf_b (dn + i) = nI (l.getD i 0)) ∧ (∀ i, i < dn → wf_b i = wf i))) := by
          intro hf
          obtain ⟨l1, hl1, hl2⟩ := tryW_yes (f := ckPrn n 0) (t := t) (c := 2 * (n - 1) - t) (by omega) hok hf
          have he : ckPrn n 1 w = some (t :: l1) := by rw [ckPrn, if_neg (by omega), htr, hl2]
          refine ⟨by rw [he]; rfl, hbk, fun l hl i hi => ?_, hwd⟩
          rw [he] at hl
          cases hl
          cases i with
          | zero => exact (hud dn (by omega)).trans pk_us
          | succ j => exact (congrArg wf_b (by omega)).trans (huc l1 hl1 j (by omega))
        refine lv_pop hx hb dX7_untangles_119 rfl ?_
        refine lv_iload hx hb dX7_untangles_120 (lv_at hl 0 rfl) ?_
        refine ck_ifeq (b := (ckPrn n 0 (ckStep w (t / 2) (decide (t % 2 = 0)))).isSome) (tgt := 127) hx hb dX7_untangles_122 (by decide) (fun cz_33 => ?_) (fun cz_33 => ?_)
        · refine lv_iinc (v := (nI (t + 1))) (lv' := [(6, .int (nI (t + 1))), (7, .int (b2i ((ckPrn n 0 (ckStep w (t / 2) (decide (t % 2 = 0)))).isSome))), (5, .int (nI 1)), (0, .ref uu), (1, .ref b), (2, .ref ja), (3, .int (nI dn)), (4, .int (nI (dn + 1)))]) hx hb dX7_untangles_127 hl (k := 1) rfl (nI_1 _) (by decide) rfl (fun ls hl => ?_)
          refine lv_goto (tgt := 45) hx hb dX7_untangles_130 (by decide) ?_
          exact ih_45 _ (by omega) (t + 1) wf_b lf_c gf_c jl_c jn_c rfl (by omega) (htr.trans (by rw [tryW_nf (by omega) hok cz_33]; congr 1)) hbk hwd _ _ ls hP hD hS (lv_sub hl [0, 2, 3, 4, 5, 6, 7] rfl)
        refine lv_iconst (v := (nI 1)) hx hb dX7_untangles_125 (by decide) ?_
        refine ck_top (y := (b2i true)) (by decide) ?_
        exact ck_zret (b := true) hx hb hrt hlk ⟨wf_b, lf_c, gf_c, jl_c, jn_c⟩ (hyes cz_33) hP hD hS ⟨Nat.le_of_ble_eq_true rfl, Nat.le_of_ble_eq_true rfl⟩ dX7_untangles_126
    exact lp_45 _ 0 wf lf gf jl jn rfl (by omega) rfl hw (fun i hi => rfl) _ _ ls (hP.sub [0, 1, 4, 5, 6, 2, 3] rfl) (hD.sub [0, 1, 4, 5, 6, 2, 3] (by decide) rfl) hS hl
  refine lv_iconst (v := (nI 0)) hx hb dX7_untangles_30 (by decide) ?_
  refine ck_top (y := (b2i false)) (by decide) ?_
  exact ck_zret (b := false) hx hb hrt hlk ⟨wf, lf, gf, jl, jn⟩ ⟨congrArg b2i (by rw [ckPrn, if_pos cz_5]; rfl), hw, fun l hl => (by rw [ckPrn, if_pos cz_5] at hl; cases hl), fun i hi => rfl⟩ (hP.sub [0, 1, 4, 5, 6, 2, 3] rfl) (hD.sub [0, 1, 4, 5, 6, 2, 3] (by decide) rfl) hS ⟨Nat.le_of_ble_eq_true rfl, Nat.le_of_ble_eq_true rfl⟩ dX7_untangles_31
set_option maxHeartbeats 4000000 in
set_option maxRecDepth 100000 in
/-- X7_untangles -/
theorem c_X7_untangles_2 (l : Launch) (N : ckN) (uu : Nat) (wk : Nat) (wf : Nat → Int32) (b : Nat) (lw : Nat) (gw : Nat) (lf : Nat → Int32) (gf : Nat → Int32) (n : Nat) (ja : Nat) (jj : Nat) (jl : Nat → Int32) (jn : Int32) (w : Nat → List Nat) (dn : Nat) (hw : ckWd lf gf n w) (hgd : ckGood n w) (hn2 : 2 ≤ n) (hn : n ≤ 5) (hdn : dn + 2 ≤ 3) : ckI l yX7_untangles cX7_untangles 8 (some FieldType.boolean) { frames := 8, cells := 0, slots := 0, locals := 197 } N [.ref uu, .ref b, .ref ja, .int (nI dn), .int (nI (dn + 2))] [(uu, .inr (7, [.ref wk])), (wk, .inl (N.2 0, 3, .inl wf)), (b, .inr (9, [.ref lw, .ref gw, .int (nI n)])), (lw, .inl (N.2 0, 5, .inl lf)), (gw, .inl (N.2 0, 300, .inl gf)), (ja, .inr (3, [.ref jj, .int jn])), (jj, .inl (N.2 0, 180, .inl jl))] (fun (r : Int32) (u : (Nat → Int32) × (Nat → Int32) × (Nat → Int32) × (Nat → Int32) × Int32) => (r = (b2i ((ckPrn n 2 w).isSome))) ∧ (ckWd u.2.1 u.2.2.1 n w ∧ (∀ l, ckPrn n 2 w = some l → ∀ i, i < 2 → u.1 (dn + i) = nI (l.getD i 0)) ∧ (∀ i, i < dn → u.1 i = wf i))) (fun (u : (Nat → Int32) × (Nat → Int32) × (Nat → Int32) × (Nat → Int32) × Int32) => [(uu, .inr (7, [.ref wk])), (wk, .inl (N.2 0, 3, .inl u.1)), (b, .inr (9, [.ref lw, .ref gw, .int (nI n)])), (lw, .inl (N.2 0, 5, .inl u.2.1)), (gw, .inl (N.2 0, 300, .inl u.2.2.1)), (ja, .inr (3, [.ref jj, .int u.2.2.2.2])), (jj, .inl (N.2 0, 180, .inl u.2.2.2.1))]) := by
  refine ckI.of (by decide) (Nat.le_of_ble_eq_true rfl) ?_
  intro pg eg sg mg blw mth cg Ag ls hx hb hrt hml hown hlk hin hg hE hA hP hD hS hl
  have hown : sg.vm.findClass RX7 = some mg.cls := hown
  have hl : lv_has ls 8 [(0, .ref uu), (1, .ref b), (2, .ref ja), (3, .int (nI dn)), (4, .int (nI (dn + 2)))] := hl
  have C0 : ckC pg sg mg ([.ref uu, .ref b, .ref ja, .int (nI dn), .int (nI (dn + 2))]).toArray cg cX7_untangles 8 RX7 N Ag := ⟨⟨hx, hb, hml, hown, hg⟩, hE, hA⟩
  generalize hHe : sg.heap = H at hP
  have hS : va_S Ag sg.heap H [] := hHe ▸ hS
  refine lv_iload hx hb dX7_untangles_0 (lv_at hl 4 rfl) ?_
  refine lv_iload_n hx hb dX7_untangles_2 rfl (lv_at hl 3 rfl) ?_
  refine lv_isub hx hb dX7_untangles_3 ?_
  refine ck_top (y := (nI 2)) ((pk_sub (by omega)).trans (congrArg nI (by omega))) ?_
  refine lv_istore (lv' := [(5, .int (nI 2)), (0, .ref uu), (1, .ref b), (2, .ref ja), (3, .int (nI dn)), (4, .int (nI (dn + 2)))]) hx hb dX7_untangles_4 hl (by decide) rfl (fun ls hl => ?_)
  refine lv_iload hx hb dX7_untangles_6 (lv_at hl 0 rfl) ?_
  refine lv_if_lt (tgt := 30) hx hb dX7_untangles_8 (by decide) (fun cz_1 => absurd cz_1 (by decide)) (fun cz_1 => ?_)
  refine lv_iload hx hb dX7_untangles_11 (lv_at hl 0 rfl) ?_
  refine lv_iconst (v := (nI 3)) hx hb dX7_untangles_13 (by decide) ?_
  refine lv_icmp_gt (tgt := 30) hx hb dX7_untangles_14 (by decide) (fun cz_2 => absurd cz_2 (by decide)) (fun cz_2 => ?_)
  refine lv_aload_n hx hb dX7_untangles_17 rfl (lv_at hl 2 rfl) ?_
  refine ck_Vi (As := []) (rest := []) (wr := [(uu, .inr (7, [.ref wk])), (wk, .inl (N.2 0, 3, .inl wf)), (ja, .inr (3, [.ref jj, .int jn])), (jj, .inl (N.2 0, 180, .inl jl))]) C0 hP hD hS (c_X9_longest l N b lw gw lf gf n w hw (by omega)) myX9_longest k3_118 ⟨Nat.le_of_ble_eq_true rfl, Nat.le_of_ble_eq_true rfl⟩ [2, 3, 4] [0, 1, 5, 6] ⟨⟨rfl, rfl⟩, by decide, by decide, by decide⟩ 2 rfl rfl rfl rfl hl.1 rfl (Nat.le_of_ble_eq_true rfl) dX7_untangles_18 ⟨Nat.le_of_ble_eq_true rfl, Nat.le_of_ble_eq_true rfl⟩ (fun r_3 u0 H locs hw0 hP hD hS => ?_)
  have hw_4 : r_3 = (nI (pmax (fun q => (w q).length) n)) := hw0
  subst hw_4
  have hP : va_P N.1 vwCl [(uu, .inr (7, [.ref wk])), (wk, .inl (N.2 0, 3, .inl wf)), (ja, .inr (3, [.ref jj, .int jn])), (jj, .inl (N.2 0, 180, .inl jl)), (b, .inr (9, [.ref lw, .ref gw, .int (nI n)])), (lw, .inl (N.2 0, 5, .inl lf)), (gw, .inl (N.2 0, 300, .inl gf))] H := hP
  have hD : va_D Ag [(uu, .inr (7, [.ref wk])), (wk, .inl (N.2 0, 3, .inl wf)), (ja, .inr (3, [.ref jj, .int jn])), (jj, .inl (N.2 0, 180, .inl jl)), (b, .inr (9, [.ref lw, .ref gw, .int (nI n)])), (lw, .inl (N.2 0, 5, .inl lf)), (gw, .inl (N.2 0, 300, .inl gf))] := hD
  refine va_gets hx hb hE.2.2.2.2.2.2.2.2.1 hS hown (hg _ k3_123) (fun _ h9 => h9) dX7_untangles_21 ?_
  refine lv_iload hx hb dX7_untangles_24 (lv_at hl 0 rfl) ?_
  refine va_ti (v := .int (ckLG 2)) hx hb hE.2.2.2.2.2.2.2.2.2 hS (vp_in_nI (by omega) (by decide)) (by rw [nI_clamp (by omega)]) dX7_untangles_26 ?_
  refine ck_top (y := (nI 9)) (by decide) ?_
  refine ck_ic_le (tgt := 32) hx hb dX7_untangles_27 (by decide) (Nat.lt_of_le_of_lt (pmax_le (m := 60) (fun q hq => (hw q hq).2.1)) (by decide)) (by decide) (fun cz_5 => ?_) (fun cz_5 => ?_)
  · refine lv_iload hx hb dX7_untangles_32 (lv_at hl 0 rfl) ?_
    refine lv_if_ne (tgt := 42) hx hb dX7_untangles_34 (by decide) (fun cz_6 => ?_) (fun cz_6 => absurd cz_6 (by decide))
    refine lv_iconst (v := (nI 0)) hx hb dX7_untangles_42 (by decide) ?_
    refine lv_istore (lv' := [(6, .int (nI 0)), (5, .int (nI 2)), (0, .ref uu), (1, .ref b), (2, .ref ja), (3, .int (nI dn)), (4, .int (nI (dn + 2)))]) hx hb dX7_untangles_43 hl (by decide) rfl (fun ls hl => ?_)
    have lp_45 : ∀ (dz : Nat) (t : Nat) (wf1 : Nat → Int32) (lf1 : Nat → Int32) (gf1 : Nat → Int32) (jl1 : Nat → Int32) (jn1 : Int32) (hdz : 2 * (n - 1) - t = dz) (ht : t ≤ 2 * (n - 1)) (htr : tryW (ckPrn n 1) w 0 (2 * (n - 1)) = tryW (ckPrn n 1) w t (2 * (n - 1) - t)) (hw1 : ckWd lf1 gf1 n w) (hwf1 : ∀ i, i < dn → wf1 i = wf i) (H : Heap) (locs : List Loc) (ls : Array Slot), va_P N.1 vwCl [(uu, .inr (7, [.ref wk])), (wk, .inl (N.2 0, 3, .inl wf1)), (b, .inr (9, [.ref lw, .ref gw, .int (nI n)])), (lw, .inl (N.2 0, 5, .inl lf1)), (gw, .inl (N.2 0, 300, .inl gf1)), (ja, .inr (3, [.ref jj, .int jn1])), (jj, .inl (N.2 0, 180, .inl jl1))] H → va_D Ag [(uu, .inr (7, [.ref wk])), (wk, .inl (N.2 0, 3, .inl wf1)), (b, .inr (9, [.ref lw, .ref gw, .int (nI n)])), (lw, .inl (N.2 0, 5, .inl lf1)), (gw, .inl (N.2 0, 300, .inl gf1)), (ja, .inr (3, [.ref jj, .int jn1])), (jj, .inl (N.2 0, 180, .inl jl1))] → va_S Ag sg.heap H locs → lv_has ls 8 [(6, .int (nI t)), (5, .int (nI 2)), (0, .ref uu), (1, .ref b), (2, .ref ja), (3, .int (nI dn)), (4, .int (nI (dn + 2)))] → W pg l eg { frames := 8, cells := 0, slots := 0, locals := 197 } sg mg ([.ref uu, .ref b, .ref ja, .int (nI dn), .int (nI (dn + 2))]).toArray blw mth cg H locs 0 0 (ckQi N Ag blw sg ([.ref uu, .ref b, .ref ja, .int (nI dn), .int (nI (dn + 2))]).toArray { frames := 8, cells := 0, slots := 0, locals := 197 } (fun (r : Int32) (u : (Nat → Int32) × (Nat → Int32) × (Nat → Int32) × (Nat → Int32) × Int32) => (r = (b2i ((ckPrn n 2 w).isSome))) ∧ (ckWd u.2.1 u.2.2.1 n w ∧ (∀ l, ckPrn n 2 w = some l → ∀ i, i < 2 → u.1 (dn + i) = nI (l.getD i 0)) ∧ (∀ i, i < dn → u.1 i = wf i))) (fun (u : (Nat → Int32) × (Nat → Int32) × (Nat → Int32) × (Nat → Int32) × Int32) => [(uu, .inr (7, [.ref wk])), (wk, .inl (N.2 0, 3, .inl u.1)), (b, .inr (9, [.ref lw, .ref gw, .int (nI n)])), (lw, .inl (N.2 0, 5, .inl u.2.1)), (gw, .inl (N.2 0, 300, .inl u.2.2.1)), (ja, .inr (3, [.ref jj, .int u.2.2.2.2])), (jj, .inl (N.2 0, 180, .inl u.2.2.2.1))])) (F0 mg 45 ls []) := by
      intro dz
      induction dz using Nat.strongRecOn with
      | _ dz ih_45 =>
        intro t wf1 lf1 gf1 jl1 jn1 hdz ht htr hw1 hwf1 H locs ls hP hD hS hl
        subst hdz
        refine lv_iload hx hb dX7_untangles_45 (lv_at hl 0 rfl) ?_
        refine lv_aload_n hx hb dX7_untangles_47 rfl (lv_at hl 3 rfl) ?_
        refine va_getN (ci := 9) (v := .int (nI n)) (C := RX9) (T := TX9) (N := 3) (host := "KiteMeet") hx hb hg inX9 hown hE.1 hP 2 rfl rfl 2 (by decide) (hE.nf 8 rfl _) (fun _ h9 => h9) rfl dX7_untangles_48 ?_
        refine ck_SNi (As := [.int (nI n)]) (rest := [.int (nI t)]) (wr := [(uu, .inr (7, [.ref wk])), (wk, .inl (N.2 0, 3, .inl wf1)), (b, .inr (9, [.ref lw, .ref gw, .int (nI n)])), (lw, .inl (N.2 0, 5, .inl lf1)), (gw, .inl (N.2 0, 300, .inl gf1)), (ja, .inr (3, [.ref jj, .int jn1])), (jj, .inl (N.2 0, 180, .inl jl1))]) C0 hP hD hS (c_X10_walksOf l N n (by omega) (by omega)) myX10_walksOf 15 rfl ⟨Nat.le_of_ble_eq_true rfl, Nat.le_of_ble_eq_true rfl⟩ [] [0, 1, 2, 3, 4, 5, 6] ⟨⟨rfl, rfl⟩, by decide, by decide, by decide⟩ rfl hl.1 rfl (Nat.le_of_ble_eq_true rfl) dX7_untangles_51 ⟨Nat.le_of_ble_eq_true rfl, Nat.le_of_ble_eq_true rfl⟩ (fun r_7 u0 H locs hw0 hP hD hS => ?_)
        have hw_8 : r_7 = (nI (2 * (n - 1))) := hw0
        subst hw_8
        have hP : va_P N.1 vwCl [(uu, .inr (7, [.ref wk])), (wk, .inl (N.2 0, 3, .inl wf1)), (b, .inr (9, [.ref lw, .ref gw, .int (nI n)])), (lw, .inl (N.2 0, 5, .inl lf1)), (gw, .inl (N.2 0, 300, .inl gf1)), (ja, .inr (3, [.ref jj, .int jn1])), (jj, .inl (N.2 0, 180, .inl jl1))] H := hP
        have hD : va_D Ag [(uu, .inr (7, [.ref wk])), (wk, .inl (N.2 0, 3, .inl wf1)), (b, .inr (9, [.ref lw, .ref gw, .int (nI n)])), (lw, .inl (N.2 0, 5, .inl lf1)), (gw, .inl (N.2 0, 300, .inl gf1)), (ja, .inr (3, [.ref jj, .int jn1])), (jj, .inl (N.2 0, 180, .inl jl1))] := hD
        refine ck_ic_ge (tgt := 133) hx hb dX7_untangles_54 (by decide) (by omega) (by omega) (fun cz_9 => ?_) (fun cz_9 => ?_)
        · refine lv_iconst (v := (nI 0)) hx hb dX7_untangles_133 (by decide) ?_
          refine ck_top (y := (b2i false)) (by decide) ?_
          exact ck_zret (b := false) hx hb hrt hlk ⟨wf1, lf1, gf1, jl1, jn1⟩ ⟨congrArg b2i (by rw [ckPrn, if_neg (by omega), htr, (show 2 * (n - 1) - t = 0 by omega)]; rfl), hw1, fun l hl => (by rw [ckPrn, if_neg (by omega), htr, (show 2 * (n - 1) - t = 0 by omega)] at hl; cases hl), hwf1⟩ hP hD hS ⟨Nat.le_of_ble_eq_true rfl, Nat.le_of_ble_eq_true rfl⟩ dX7_untangles_134
        refine lv_aload_n hx hb dX7_untangles_57 rfl (lv_at hl 3 rfl) ?_
        refine lv_iload hx hb dX7_untangles_58 (lv_at hl 0 rfl) ?_
        refine ck_SNi (As := [.int (nI t)]) (rest := [.ref b]) (wr := [(uu, .inr (7, [.ref wk])), (wk, .inl (N.2 0, 3, .inl wf1)), (b, .inr (9, [.ref lw, .ref gw, .int (nI n)])), (lw, .inl (N.2 0, 5, .inl lf1)), (gw, .inl (N.2 0, 300, .inl gf1)), (ja, .inr (3, [.ref jj, .int jn1])), (jj, .inl (N.2 0, 180, .inl jl1))]) C0 hP hD hS (c_X10_placeOf l N t (by omega)) myX10_placeOf 16 rfl ⟨Nat.le_of_ble_eq_true rfl, Nat.le_of_ble_eq_true rfl⟩ [] [0, 1, 2, 3, 4, 5, 6] ⟨⟨rfl, rfl⟩, by decide, by decide, by decide⟩ rfl hl.1 rfl (Nat.le_of_ble_eq_true rfl) dX7_untangles_60 ⟨Nat.le_of_ble_eq_true rfl, Nat.le_of_ble_eq_true rfl⟩ (fun r_10 u0 H locs hw0 hP hD hS => ?_)
        have hw_11 : r_10 = (nI (t / 2)) := hw0
        subst hw_11
        have hP : va_P N.1 vwCl [(uu, .inr (7, [.ref wk])), (wk, .inl (N.2 0, 3, .inl wf1)), (b, .inr (9, [.ref lw, .ref gw, .int (nI n)])), (lw, .inl (N.2 0, 5, .inl lf1)), (gw, .inl (N.2 0, 300, .inl gf1)), (ja, .inr (3, [.ref jj, .int jn1])), (jj, .inl (N.2 0, 180, .inl jl1))] H := hP
        have hD : va_D Ag [(uu, .inr (7, [.ref wk])), (wk, .inl (N.2 0, 3, .inl wf1)), (b, .inr (9, [.ref lw, .ref gw, .int (nI n)])), (lw, .inl (N.2 0, 5, .inl lf1)), (gw, .inl (N.2 0, 300, .inl gf1)), (ja, .inr (3, [.ref jj, .int jn1])), (jj, .inl (N.2 0, 180, .inl jl1))] := hD
        refine lv_iload hx hb dX7_untangles_63 (lv_at hl 0 rfl) ?_
        refine ck_SNi (As := [.int (nI t)]) (rest := [.int (nI (t / 2)), .ref b]) (wr := [(uu, .inr (7, [.ref wk])), (wk, .inl (N.2 0, 3, .inl wf1)), (b, .inr (9, [.ref lw, .ref gw, .int (nI n)])), (lw, .inl (N.2 0, 5, .inl lf1)), (gw, .inl (N.2 0, 300, .inl gf1)), (ja, .inr (3, [.ref jj, .int jn1])), (jj, .inl (N.2 0, 180, .inl jl1))]) C0 hP hD hS (c_X10_isFront l N t (by omega)) myX10_isFront 17 rfl ⟨Nat.le_of_ble_eq_true rfl, Nat.le_of_ble_eq_true rfl⟩ [] [0, 1, 2, 3, 4, 5, 6] ⟨⟨rfl, rfl⟩, by decide, by decide, by decide⟩ rfl hl.1 rfl (Nat.le_of_ble_eq_true rfl) dX7_untangles_65 ⟨Nat.le_of_ble_eq_true rfl, Nat.le_of_ble_eq_true rfl⟩ (fun r_12 u0 H locs hw0 hP hD hS => ?_)
        have hw_13 : r_12 = (b2i (decide (t % 2 = 0))) := hw0
        subst hw_13
        have hP : va_P N.1 vwCl [(uu, .inr (7, [.ref wk])), (wk, .inl (N.2 0, 3, .inl wf1)), (b, .inr (9, [.ref lw, .ref gw, .int (nI n)])), (lw, .inl (N.2 0, 5, .inl lf1)), (gw, .inl (N.2 0, 300, .inl gf1)), (ja, .inr (3, [.ref jj, .int jn1])), (jj, .inl (N.2 0, 180, .inl jl1))] H := hP
        have hD : va_D Ag [(uu, .inr (7, [.ref wk])), (wk, .inl (N.2 0, 3, .inl wf1)), (b, .inr (9, [.ref lw, .ref gw, .int (nI n)])), (lw, .inl (N.2 0, 5, .inl lf1)), (gw, .inl (N.2 0, 300, .inl gf1)), (ja, .inr (3, [.ref jj, .int jn1])), (jj, .inl (N.2 0, 180, .inl jl1))] := hD
        refine lv_aload_n hx hb dX7_untangles_68 rfl (lv_at hl 4 rfl) ?_
        refine ck_Vi (As := [.int (nI (t / 2)), .int (b2i (decide (t % 2 = 0))), .ref ja]) (rest := []) (wr := [(uu, .inr (7, [.ref wk])), (wk, .inl (N.2 0, 3, .inl wf1))]) C0 hP hD hS (c_X9_pass l N ja jj jl1 b lw gw lf1 gf1 n jn1 w (t / 2) (decide (t % 2 = 0)) hw1 (by omega) (by omega)) myX9_pass k3_139 ⟨Nat.le_of_ble_eq_true rfl, Nat.le_of_ble_eq_true rfl⟩ [2, 3, 4, 5, 6] [0, 1] ⟨⟨rfl, rfl⟩, by decide, by decide, by decide⟩ 2 rfl rfl rfl rfl hl.1 rfl (Nat.le_of_ble_eq_true rfl) dX7_untangles_69 ⟨Nat.le_of_ble_eq_true rfl, Nat.le_of_ble_eq_true rfl⟩ (fun r_14 u0 H locs hw0 hP hD hS => ?_)
        obtain ⟨lf_a, gf_a, jl_a, jn_a⟩ := u0
        have hw_15 : (r_14 = (b2i (ckOk w (t / 2) (decide (t % 2 = 0))))) ∧ (ckWd lf_a gf_a n (if ckOk w (t / 2) (decide (t % 2 = 0)) then ckStep w (t / 2) (decide (t % 2 = 0)) else w)) := hw0
        obtain ⟨hv_16, hw_15⟩ := hw_15
        subst hv_16
        have hP : va_P N.1 vwCl [(uu, .inr (7, [.ref wk])), (wk, .inl (N.2 0, 3, .inl wf1)), (b, .inr (9, [.ref lw, .ref gw, .int (nI n)])), (lw, .inl (N.2 0, 5, .inl lf_a)), (gw, .inl (N.2 0, 300, .inl gf_a)), (ja, .inr (3, [.ref jj, .int jn_a])), (jj, .inl (N.2 0, 180, .inl jl_a))] H := hP
        have hD : va_D Ag [(uu, .inr (7, [.ref wk])), (wk, .inl (N.2 0, 3, .inl wf1)), (b, .inr (9, [.ref lw, .ref gw, .int (nI n)])), (lw, .inl (N.2 0, 5, .inl lf_a)), (gw, .inl (N.2 0, 300, .inl gf_a)), (ja, .inr (3, [.ref jj, .int jn_a])), (jj, .inl (N.2 0, 180, .inl jl_a))] := hD
        have hpw := hw_15
        refine ck_ifeq (b := ckOk w (t / 2) (decide (t % 2 = 0))) (tgt := 127) hx hb dX7_untangles_72 (by decide) (fun cz_17 => ?_) (fun cz_17 => ?_)
        · have hno := cz_17
          rw [hno] at hpw
          have hpw : ckWd lf_a gf_a n w := hpw
          refine lv_iinc (v := (nI (t + 1))) (lv' := [(6, .int (nI (t + 1))), (5, .int (nI 2)), (0, .ref uu), (1, .ref b), (2, .ref ja), (3, .int (nI dn)), (4, .int (nI (dn + 2)))]) hx hb dX7_untangles_127 hl (k := 0) rfl (nI_1 _) (by decide) rfl (fun ls hl => ?_)
          refine lv_goto (tgt := 45) hx hb dX7_untangles_130 (by decide) ?_
          exact ih_45 _ (by omega) (t + 1) wf1 lf_a gf_a jl_a jn_a rfl (by omega) (htr.trans (by rw [tryW_no (by omega) hno]; congr 1)) hpw hwf1 _ _ ls hP hD hS hl
        have hok := cz_17
        rw [if_pos hok] at hpw
        refine lv_aload_n hx hb dX7_untangles_75 rfl (lv_at hl 2 rfl) ?_
        refine va_get (ci := 7) (v := .ref wk) (C := RX7) (T := TX7) (N := 1) hx hb hg inX7 hown hE.1 hP 0 rfl rfl 0 (by decide) (hg _ k1_191) (fun _ h9 => h9) rfl dX7_untangles_76 ?_
        refine lv_iload_n hx hb dX7_untangles_79 rfl (lv_at hl 5 rfl) ?_
        refine lv_iload hx hb dX7_untangles_80 (lv_at hl 0 rfl) ?_
        refine ck_iast hx hb hE hP hD hS 1 rfl (by omega) (by decide) dX7_untangles_82 (ws1 := [(uu, .inr (7, [.ref wk])), (wk, .inl (N.2 0, 3, .inl (upd wf1 dn (nI t)))), (b, .inr (9, [.ref lw, .ref gw, .int (nI n)])), (lw, .inl (N.2 0, 5, .inl lf_a)), (gw, .inl (N.2 0, 300, .inl gf_a)), (ja, .inr (3, [.ref jj, .int jn_a])), (jj, .inl (N.2 0, 180, .inl jl_a))]) rfl (fun H locs hP hD hS => ?_)
        refine lv_aload_n hx hb dX7_untangles_83 rfl (lv_at hl 2 rfl) ?_
        refine lv_aload_n hx hb dX7_untangles_84 rfl (lv_at hl 3 rfl) ?_
        refine lv_aload_n hx hb dX7_untangles_85 rfl (lv_at hl 4 rfl) ?_
        refine lv_iload_n hx hb dX7_untangles_86 rfl (lv_at hl 5 rfl) ?_
        refine lv_iconst (v := (nI 1)) hx hb dX7_untangles_87 (by decide) ?_
        refine lv_iadd hx hb dX7_untangles_88 ?_
        refine ck_top (y := (nI (dn + 1))) (nI_add _ _) ?_
        refine lv_iload hx hb dX7_untangles_89 (lv_at hl 6 rfl) ?_
        refine ck_Vi (As := [.ref b, .ref ja, .int (nI (dn + 1)), .int (nI ((dn + 1) + 1))]) (rest := []) (wr := []) C0 hP hD hS (c_X7_untangles_1 l N uu wk (upd wf1 dn (nI t)) b lw gw lf_a gf_a n ja jj jl_a jn_a (ckStep w (t / 2) (decide (t % 2 = 0))) (dn + 1) hpw (ckStep_good hgd (by omega) hok) (by omega) (by omega) (by omega)) myX7_untangles k3_114 ⟨Nat.le_of_ble_eq_true rfl, Nat.le_of_ble_eq_true rfl⟩ [0, 1, 2, 3, 4, 5, 6] [] ⟨⟨rfl, rfl⟩, by decide, by decide, by decide⟩ 0 rfl rfl rfl rfl hl.1 rfl (Nat.le_of_ble_eq_true rfl) dX7_untangles_91 ⟨Nat.le_of_ble_eq_true rfl, Nat.le_of_ble_eq_true rfl⟩ (fun r_18 u0 H locs hw0 hP hD hS => ?_)
        obtain ⟨wf_b, lf_b, gf_b, jl_b, jn_b⟩ := u0
        have hw_19 : (r_18 = (b2i ((ckPrn n 1 (ckStep w (t / 2) (decide (t % 2 = 0)))).isSome))) ∧ (ckWd lf_b gf_b n (ckStep w (t / 2) (decide (t % 2 = 0))) ∧ (∀ l, ckPrn n 1 (ckStep w (t / 2) (decide (t % 2 = 0))) = some l → ∀ i, i < 1 → wf_b ((dn + 1) + i) = nI (l.getD i 0)) ∧ (∀ i, i < (dn + 1) → wf_b i = (upd wf1 dn (nI t)) i)) := hw0
        obtain ⟨hv_20, hw_19⟩ := hw_19
        subst hv_20
        have hP : va_P N.1 vwCl [(uu, .inr (7, [.ref wk])), (wk, .inl (N.2 0, 3, .inl wf_b)), (b, .inr (9, [.ref lw, .ref gw, .int (nI n)])), (lw, .inl (N.2 0, 5, .inl lf_b)), (gw, .inl (N.2 0, 300, .inl gf_b)), (ja, .inr (3, [.ref jj, .int jn_b])), (jj, .inl (N.2 0, 180, .inl jl_b))] H := hP
        have hD : va_D Ag [(uu, .inr (7, [.ref wk])), (wk, .inl (N.2 0, 3, .inl wf_b)), (b, .inr (9, [.ref lw, .ref gw, .int (nI n)])), (lw, .inl (N.2 0, 5, .inl lf_b)), (gw, .inl (N.2 0, 300, .inl gf_b)), (ja, .inr (3, [.ref jj, .int jn_b])), (jj, .inl (N.2 0, 180, .inl jl_b))] := hD
        obtain ⟨hub, huc, hud⟩ := hw_19
        refine lv_istore (lv' := [(7, .int (b2i ((ckPrn n 1 (ckStep w (t / 2) (decide (t % 2 = 0)))).isSome))), (6, .int (nI t)), (5, .int (nI 2)), (0, .ref uu), (1, .ref b), (2, .ref ja), (3, .int (nI dn)), (4, .int (nI (dn + 2)))]) hx hb dX7_untangles_94 hl (by decide) rfl (fun ls hl => ?_)
        refine lv_aload_n hx hb dX7_untangles_96 rfl (lv_at hl 4 rfl) ?_
        refine lv_iload hx hb dX7_untangles_97 (lv_at hl 1 rfl) ?_
        refine ck_SNi (As := [.int (nI t)]) (rest := [.ref b]) (wr := [(uu, .inr (7, [.ref wk])), (wk, .inl (N.2 0, 3, .inl wf_b)), (b, .inr (9, [.ref lw, .ref gw, .int (nI n)])), (lw, .inl (N.2 0, 5, .inl lf_b)), (gw, .inl (N.2 0, 300, .inl gf_b)), (ja, .inr (3, [.ref jj, .int jn_b])), (jj, .inl (N.2 0, 180, .inl jl_b))]) C0 hP hD hS (c_X10_placeOf l N t (by omega)) myX10_placeOf 16 rfl ⟨Nat.le_of_ble_eq_true rfl, Nat.le_of_ble_eq_true rfl⟩ [] [0, 1, 2, 3, 4, 5, 6] ⟨⟨rfl, rfl⟩, by decide, by decide, by decide⟩ rfl hl.1 rfl (Nat.le_of_ble_eq_true rfl) dX7_untangles_99 ⟨Nat.le_of_ble_eq_true rfl, Nat.le_of_ble_eq_true rfl⟩ (fun r_21 u0 H locs hw0 hP hD hS => ?_)
        have hw_22 : r_21 = (nI (t / 2)) := hw0
        subst hw_22
        have hP : va_P N.1 vwCl [(uu, .inr (7, [.ref wk])), (wk, .inl (N.2 0, 3, .inl wf_b)), (b, .inr (9, [.ref lw, .ref gw, .int (nI n)])), (lw, .inl (N.2 0, 5, .inl lf_b)), (gw, .inl (N.2 0, 300, .inl gf_b)), (ja, .inr (3, [.ref jj, .int jn_b])), (jj, .inl (N.2 0, 180, .inl jl_b))] H := hP
        have hD : va_D Ag [(uu, .inr (7, [.ref wk])), (wk, .inl (N.2 0, 3, .inl wf_b)), (b, .inr (9, [.ref lw, .ref gw, .int (nI n)])), (lw, .inl (N.2 0, 5, .inl lf_b)), (gw, .inl (N.2 0, 300, .inl gf_b)), (ja, .inr (3, [.ref jj, .int jn_b])), (jj, .inl (N.2 0, 180, .inl jl_b))] := hD
        refine lv_iload hx hb dX7_untangles_102 (lv_at hl 1 rfl) ?_
        refine ck_SNi (As := [.int (nI t)]) (rest := [.int (nI (t / 2)), .ref b]) (wr := [(uu, .inr (7, [.ref wk])), (wk, .inl (N.2 0, 3, .inl wf_b)), (b, .inr (9, [.ref lw, .ref gw, .int (nI n)])), (lw, .inl (N.2 0, 5, .inl lf_b)), (gw, .inl (N.2 0, 300, .inl gf_b)), (ja, .inr (3, [.ref jj, .int jn_b])), (jj, .inl (N.2 0, 180, .inl jl_b))]) C0 hP hD hS (c_X10_isFront l N t (by omega)) myX10_isFront 17 rfl ⟨Nat.le_of_ble_eq_true rfl, Nat.le_of_ble_eq_true rfl⟩ [] [0, 1, 2, 3, 4, 5, 6] ⟨⟨rfl, rfl⟩, by decide, by decide, by decide⟩ rfl hl.1 rfl (Nat.le_of_ble_eq_true rfl) dX7_untangles_104 ⟨Nat.le_of_ble_eq_true rfl, Nat.le_of_ble_eq_true rfl⟩ (fun r_23 u0 H locs hw0 hP hD hS => ?_)
        have hw_24 : r_23 = (b2i (decide (t % 2 = 0))) := hw0
        subst hw_24
        have hP : va_P N.1 vwCl [(uu, .inr (7, [.ref wk])), (wk, .inl (N.2 0, 3, .inl wf_b)), (b, .inr (9, [.ref lw, .ref gw, .int (nI n)])), (lw, .inl (N.2 0, 5, .inl lf_b)), (gw, .inl (N.2 0, 300, .inl gf_b)), (ja, .inr (3, [.ref jj, .int jn_b])), (jj, .inl (N.2 0, 180, .inl jl_b))] H := hP
        have hD : va_D Ag [(uu, .inr (7, [.ref wk])), (wk, .inl (N.2 0, 3, .inl wf_b)), (b, .inr (9, [.ref lw, .ref gw, .int (nI n)])), (lw, .inl (N.2 0, 5, .inl lf_b)), (gw, .inl (N.2 0, 300, .inl gf_b)), (ja, .inr (3, [.ref jj, .int jn_b])), (jj, .inl (N.2 0, 180, .inl jl_b))] := hD
        refine ck_ifne (b := decide (t % 2 = 0)) (tgt := 114) hx hb dX7_untangles_107 (by decide) (fun cz_25 => ?_) (fun cz_25 => ?_)
        · refine lv_iconst (v := (nI 0)) hx hb dX7_untangles_114 (by decide) ?_
          refine lv_aload_n hx hb dX7_untangles_115 rfl (lv_at hl 5 rfl) ?_
          refine ck_Vi (As := [.int (nI (t / 2)), .int (b2i false), .ref ja]) (rest := []) (wr := [(uu, .inr (7, [.ref wk])), (wk, .inl (N.2 0, 3, .inl wf_b))]) C0 hP hD hS (c_X9_pass l N ja jj jl_b b lw gw lf_b gf_b n jn_b (ckStep w (t / 2) (decide (t % 2 = 0))) (t / 2) false hub (by omega) (by omega)) myX9_pass k3_139 ⟨Nat.le_of_ble_eq_true rfl, Nat.le_of_ble_eq_true rfl⟩ [2, 3, 4, 5, 6] [0, 1] ⟨⟨rfl, rfl⟩, by decide, by decide, by decide⟩ 2 rfl rfl rfl rfl hl.1 rfl (Nat.le_of_ble_eq_true rfl) dX7_untangles_116 ⟨Nat.le_of_ble_eq_true rfl, Nat.le_of_ble_eq_true rfl⟩ (fun r_26 u0 H locs hw0 hP hD hS => ?_)
          obtain ⟨lf_c, gf_c, jl_c, jn_c⟩ := u0
          have hw_27 : (r_26 = (b2i (ckOk (ckStep w (t / 2) (decide (t % 2 = 0))) (t / 2) false))) ∧ (ckWd lf_c gf_c n (if ckOk (ckStep w (t / 2) (decide (t % 2 = 0))) (t / 2) false then ckStep (ckStep w (t / 2) (decide (t % 2 = 0))) (t / 2) false else (ckStep w (t / 2) (decide (t % 2 = 0))))) := hw0
          obtain ⟨hv_28, hw_27⟩ := hw_27
          subst hv_28
          have hP : va_P N.1 vwCl [(uu, .inr (7, [.ref wk])), (wk, .inl (N.2 0, 3, .inl wf_b)), (b, .inr (9, [.ref lw, .ref gw, .int (nI n)])), (lw, .inl (N.2 0, 5, .inl lf_c)), (gw, .inl (N.2 0, 300, .inl gf_c)), (ja, .inr (3, [.ref jj, .int jn_c])), (jj, .inl (N.2 0, 180, .inl jl_c))] H := hP
          have hD : va_D Ag [(uu, .inr (7, [.ref wk])), (wk, .inl (N.2 0, 3, .inl wf_b)), (b, .inr (9, [.ref lw, .ref gw, .int (nI n)])), (lw, .inl (N.2 0, 5, .inl lf_c)), (gw, .inl (N.2 0, 300, .inl gf_c)), (ja, .inr (3, [.ref jj, .int jn_c])), (jj, .inl (N.2 0, 180, .inl jl_c))] := hD
          have hbk := hw_27
          have hvv : (!decide (t % 2 = 0)) = false := by rw [cz_25]; rfl
          have e1 := ckStep_ok (n := n) (w := w) (p := t / 2) (decide (t % 2 = 0)) hgd (by omega)
          have e2 := ckStep_back (n := n) (w := w) (p := t / 2) (decide (t % 2 = 0)) hgd (by omega)
          rw [hvv] at e1 e2
          rw [if_pos e1, e2] at hbk
          have hwd : ∀ i, i < dn → wf_b i = wf i := fun i hi => (hud i (by omega)).trans ((pk_un (by omega)).trans (hwf1 i hi))
          have hyes : (ckPrn n 1 (ckStep w (t / 2) (decide (t % 2 = 0)))).isSome = true → ((b2i true = b2i (ckPrn n 2 w).isSome) ∧ (ckWd lf_c gf_c n w ∧ (∀ l, ckPrn n 2 w = some l → ∀ i, i < 2 → wf_b (dn + i) = nI (l.getD i 0)) ∧ (∀ i, i < dn → wf_b i = wf i))) := by
            intro hf
            obtain ⟨l1, hl1, hl2⟩ := tryW_yes (f := ckPrn n 1) (t := t) (c := 2 * (n - 1) - t) (by omega) hok hf
            have he : ckPrn n 2 w = some (t :: l1) := by rw [ckPrn, if_neg (by omega), htr, hl2]
            refine ⟨by rw [he]; rfl, hbk, fun l hl i hi => ?_, hwd⟩
            rw [he] at hl
            cases hl
            cases i with
            | zero => exact (hud dn (by omega)).trans pk_us
            | succ j => exact (congrArg wf_b (by omega)).trans (huc l1 hl1 j (by omega))
          refine lv_pop hx hb dX7_untangles_119 rfl ?_
          refine lv_iload hx hb dX7_untangles_120 (lv_at hl 0 rfl) ?_
          refine ck_ifeq (b := (ckPrn n 1 (ckStep w (t / 2) (decide (t % 2 = 0)))).isSome) (tgt := 127) hx hb dX7_untangles_122 (by decide) (fun cz_29 => ?_) (fun cz_29 => ?_)
          · refine lv_iinc (v := (nI (t + 1))) (lv' := [(6, .int (nI (t + 1))), (7, .int (b2i ((ckPrn n 1 (ckStep w (t / 2) (decide (t % 2 = 0)))).isSome))), (5, .int (nI 2)), (0, .ref uu), (1, .ref b), (2, .ref ja), (3, .int (nI dn)), (4, .int (nI (dn + 2)))]) hx hb dX7_untangles_127 hl (k := 1) rfl (nI_1 _) (by decide) rfl (fun ls hl => ?_)
            refine lv_goto (tgt := 45) hx hb dX7_untangles_130 (by decide) ?_
            exact ih_45 _ (by omega) (t + 1) wf_b lf_c gf_c jl_c jn_c rfl (by omega) (htr.trans (by rw [tryW_nf (by omega) hok cz_29]; congr 1)) hbk hwd _ _ ls hP hD hS (lv_sub hl [0, 2, 3, 4, 5, 6, 7] rfl)
          refine lv_iconst (v := (nI 1)) hx hb dX7_untangles_125 (by decide) ?_
          refine ck_top (y := (b2i true)) (by decide) ?_
          exact ck_zret (b := true) hx hb hrt hlk ⟨wf_b, lf_c, gf_c, jl_c, jn_c⟩ (hyes cz_29) hP hD hS ⟨Nat.le_of_ble_eq_true rfl, Nat.le_of_ble_eq_true rfl⟩ dX7_untangles_126
        refine lv_iconst (v := (nI 1)) hx hb dX7_untangles_110 (by decide) ?_
        refine lv_goto (tgt := 115) hx hb dX7_untangles_111 (by decide) ?_
        refine lv_aload_n hx hb dX7_untangles_115 rfl (lv_at hl 5 rfl) ?_
        refine ck_Vi (As := [.int (nI (t / 2)), .int (b2i true), .ref ja]) (rest := []) (wr := [(uu, .inr (7, [.ref wk])), (wk, .inl (N.2 0, 3, .inl wf_b))]) C0 hP hD hS (c_X9_pass l N ja jj jl_b b lw gw lf_b gf_b n jn_b (ckStep w (t / 2) (decide (t % 2 = 0))) (t / 2) true hub (by omega) (by omega)) myX9_pass k3_139 ⟨Nat.le_of_ble_eq_true rfl, Nat.le_of_ble_eq_true rfl⟩ [2, 3, 4, 5, 6] [0, 1] ⟨⟨rfl, rfl⟩, by decide, by decide, by decide⟩ 2 rfl rfl rfl rfl hl.1 rfl (Nat.le_of_ble_eq_true rfl) dX7_untangles_116 ⟨Nat.le_of_ble_eq_true rfl, Nat.le_of_ble_eq_true rfl⟩ (fun r_30 u0 H locs hw0 hP hD hS => ?_)
        obtain ⟨lf_c, gf_c, jl_c, jn_c⟩ := u0
        have hw_31 : (r_30 = (b2i (ckOk (ckStep w (t / 2) (decide (t % 2 = 0))) (t / 2) true))) ∧ (ckWd lf_c gf_c n (if ckOk (ckStep w (t / 2) (decide (t % 2 = 0))) (t / 2) true then ckStep (ckStep w (t / 2) (decide (t % 2 = 0))) (t / 2) true else (ckStep w (t / 2) (decide (t % 2 = 0))))) := hw0
        obtain ⟨hv_32, hw_31⟩ := hw_31
        subst hv_32
        have hP : va_P N.1 vwCl [(uu, .inr (7, [.ref wk])), (wk, .inl (N.2 0, 3, .inl wf_b)), (b, .inr (9, [.ref lw, .ref gw, .int (nI n)])), (lw, .inl (N.2 0, 5, .inl lf_c)), (gw, .inl (N.2 0, 300, .inl gf_c)), (ja, .inr (3, [.ref jj, .int jn_c])), (jj, .inl (N.2 0, 180, .inl jl_c))] H := hP
        have hD : va_D Ag [(uu, .inr (7, [.ref wk])), (wk, .inl (N.2 0, 3, .inl wf_b)), (b, .inr (9, [.ref lw, .ref gw, .int (nI n)])), (lw, .inl (N.2 0, 5, .inl lf_c)), (gw, .inl (N.2 0, 300, .inl gf_c)), (ja, .inr (3, [.ref jj, .int jn_c])), (jj, .inl (N.2 0, 180, .inl jl_c))] := hD
        have hbk := hw_31
        have hvv : (!decide (t % 2 = 0)) = true := by rw [cz_25]; rfl
        have e1 := ckStep_ok (n := n) (w := w) (p := t / 2) (decide (t % 2 = 0)) hgd (by omega)
        have e2 := ckStep_back (n := n) (w := w) (p := t / 2) (decide (t % 2 = 0)) hgd (by omega)
        rw [hvv] at e1 e2
        rw [if_pos e1, e2] at hbk
        have hwd : ∀ i, i < dn → wf_b i = wf i := fun i hi => (hud i (by omega)).trans ((pk_un (by omega)).trans (hwf1 i hi))
        have hyes : (ckPrn n 1 (ckStep w (t / 2) (decide (t % 2 = 0)))).isSome = true → ((b2i true = b2i (ckPrn n 2 w).isSome) ∧ (ckWd lf_c gf_c n w ∧ (∀ l, ckPrn n 2 w = some l → ∀ i, i < 2 → wf_b (dn + i) = nI (l.getD i 0)) ∧ (∀ i, i < dn → wf_b i = wf i))) := by
          intro hf
          obtain ⟨l1, hl1, hl2⟩ := tryW_yes (f := ckPrn n 1) (t := t) (c := 2 * (n - 1) - t) (by omega) hok hf
          have he : ckPrn n 2 w = some (t :: l1) := by rw [ckPrn, if_neg (by omega), htr, hl2]
          refine ⟨by rw [he]; rfl, hbk, fun l hl i hi => ?_, hwd⟩
          rw [he] at hl
          cases hl
          cases i with
          | zero => exact (hud dn (by omega)).trans pk_us
          | succ j => exact (congrArg wf_b (by omega)).trans (huc l1 hl1 j (by omega))
        refine lv_pop hx hb dX7_untangles_119 rfl ?_
        refine lv_iload hx hb dX7_untangles_120 (lv_at hl 0 rfl) ?_
        refine ck_ifeq (b := (ckPrn n 1 (ckStep w (t / 2) (decide (t % 2 = 0)))).isSome) (tgt := 127) hx hb dX7_untangles_122 (by decide) (fun cz_33 => ?_) (fun cz_33 => ?_)
        · refine lv_iinc (v := (nI (t + 1))) (lv' := [(6, .int (nI (t + 1))), (7, .int (b2i ((ckPrn n 1 (ckStep w (t / 2) (decide (t % 2 = 0)))).isSome))), (5, .int (nI 2)), (0, .ref uu), (1, .ref b), (2, .ref ja), (3, .int (nI dn)), (4, .int (nI (dn + 2)))]) hx hb dX7_untangles_127 hl (k := 1) rfl (nI_1 _) (by decide) rfl (fun ls hl => ?_)
          refine lv_goto (tgt := 45) hx hb dX7_untangles_130 (by decide) ?_
          exact ih_45 _ (by omega) (t + 1) wf_b lf_c gf_c jl_c jn_c rfl (by omega) (htr.trans (by rw [tryW_nf (by omega) hok cz_33]; congr 1)) hbk hwd _ _ ls hP hD hS (lv_sub hl [0, 2, 3, 4, 5, 6, 7] rfl)
        refine lv_iconst (v := (nI 1)) hx hb dX7_untangles_125 (by decide) ?_
        refine ck_top (y := (b2i true)) (by decide) ?_
        exact ck_zret (b := true) hx hb hrt hlk ⟨wf_b, lf_c, gf_c, jl_c, jn_c⟩ (hyes cz_33) hP hD hS ⟨Nat.le_of_ble_eq_true rfl, Nat.le_of_ble_eq_true rfl⟩ dX7_untangles_126
    exact lp_45 _ 0 wf lf gf jl jn rfl (by omega) rfl hw (fun i hi => rfl) _ _ ls (hP.sub [0, 1, 4, 5, 6, 2, 3] rfl) (hD.sub [0, 1, 4, 5, 6, 2, 3] (by decide) rfl) hS hl
  refine lv_iconst (v := (nI 0)) hx hb dX7_untangles_30 (by decide) ?_
  refine ck_top (y := (b2i false)) (by decide) ?_
  exact ck_zret (b := false) hx hb hrt hlk ⟨wf, lf, gf, jl, jn⟩ ⟨congrArg b2i (by rw [ckPrn, if_pos cz_5]; rfl), hw, fun l hl => (by rw [ckPrn, if_pos cz_5] at hl; cases hl), fun i hi => rfl⟩ (hP.sub [0, 1, 4, 5, 6, 2, 3] rfl) (hD.sub [0, 1, 4, 5, 6, 2, 3] (by decide) rfl) hS ⟨Nat.le_of_ble_eq_true rfl, Nat.le_of_ble_eq_true rfl⟩ dX7_untangles_31
set_option maxHeartbeats 4000000 in
set_option maxRecDepth 100000 in
/-- X7_untangles -/
theorem c_X7_untangles_3 (l : Launch) (N : ckN) (uu : Nat) (wk : Nat) (wf : Nat → Int32) (b : Nat) (lw : Nat) (gw : Nat) (lf : Nat → Int32) (gf : Nat → Int32) (n : Nat) (ja : Nat) (jj : Nat) (jl : Nat → Int32) (jn : Int32) (w : Nat → List Nat) (dn : Nat) (hw : ckWd lf gf n w) (hgd : ckGood n w) (hn2 : 2 ≤ n) (hn : n ≤ 5) (hdn : dn + 3 ≤ 3) : ckI l yX7_untangles cX7_untangles 8 (some FieldType.boolean) { frames := 9, cells := 0, slots := 0, locals := 224 } N [.ref uu, .ref b, .ref ja, .int (nI dn), .int (nI (dn + 3))] [(uu, .inr (7, [.ref wk])), (wk, .inl (N.2 0, 3, .inl wf)), (b, .inr (9, [.ref lw, .ref gw, .int (nI n)])), (lw, .inl (N.2 0, 5, .inl lf)), (gw, .inl (N.2 0, 300, .inl gf)), (ja, .inr (3, [.ref jj, .int jn])), (jj, .inl (N.2 0, 180, .inl jl))] (fun (r : Int32) (u : (Nat → Int32) × (Nat → Int32) × (Nat → Int32) × (Nat → Int32) × Int32) => (r = (b2i ((ckPrn n 3 w).isSome))) ∧ (ckWd u.2.1 u.2.2.1 n w ∧ (∀ l, ckPrn n 3 w = some l → ∀ i, i < 3 → u.1 (dn + i) = nI (l.getD i 0)) ∧ (∀ i, i < dn → u.1 i = wf i))) (fun (u : (Nat → Int32) × (Nat → Int32) × (Nat → Int32) × (Nat → Int32) × Int32) => [(uu, .inr (7, [.ref wk])), (wk, .inl (N.2 0, 3, .inl u.1)), (b, .inr (9, [.ref lw, .ref gw, .int (nI n)])), (lw, .inl (N.2 0, 5, .inl u.2.1)), (gw, .inl (N.2 0, 300, .inl u.2.2.1)), (ja, .inr (3, [.ref jj, .int u.2.2.2.2])), (jj, .inl (N.2 0, 180, .inl u.2.2.2.1))]) := by
  refine ckI.of (by decide) (Nat.le_of_ble_eq_true rfl) ?_
  intro pg eg sg mg blw mth cg Ag ls hx hb hrt hml hown hlk hin hg hE hA hP hD hS hl
  have hown : sg.vm.findClass RX7 = some mg.cls := hown
  have hl : lv_has ls 8 [(0, .ref uu), (1, .ref b), (2, .ref ja), (3, .int (nI dn)), (4, .int (nI (dn + 3)))] := hl
  have C0 : ckC pg sg mg ([.ref uu, .ref b, .ref ja, .int (nI dn), .int (nI (dn + 3))]).toArray cg cX7_untangles 8 RX7 N Ag := ⟨⟨hx, hb, hml, hown, hg⟩, hE, hA⟩
  generalize hHe : sg.heap = H at hP
  have hS : va_S Ag sg.heap H [] := hHe ▸ hS
  refine lv_iload hx hb dX7_untangles_0 (lv_at hl 4 rfl) ?_
  refine lv_iload_n hx hb dX7_untangles_2 rfl (lv_at hl 3 rfl) ?_
  refine lv_isub hx hb dX7_untangles_3 ?_
  refine ck_top (y := (nI 3)) ((pk_sub (by omega)).trans (congrArg nI (by omega))) ?_
  refine lv_istore (lv' := [(5, .int (nI 3)), (0, .ref uu), (1, .ref b), (2, .ref ja), (3, .int (nI dn)), (4, .int (nI (dn + 3)))]) hx hb dX7_untangles_4 hl (by decide) rfl (fun ls hl => ?_)
  refine lv_iload hx hb dX7_untangles_6 (lv_at hl 0 rfl) ?_
  refine lv_if_lt (tgt := 30) hx hb dX7_untangles_8 (by decide) (fun cz_1 => absurd cz_1 (by decide)) (fun cz_1 => ?_)
  refine lv_iload hx hb dX7_untangles_11 (lv_at hl 0 rfl) ?_
  refine lv_iconst (v := (nI 3)) hx hb dX7_untangles_13 (by decide) ?_
  refine lv_icmp_gt (tgt := 30) hx hb dX7_untangles_14 (by decide) (fun cz_2 => absurd cz_2 (by decide)) (fun cz_2 => ?_)
  refine lv_aload_n hx hb dX7_untangles_17 rfl (lv_at hl 2 rfl) ?_
  refine ck_Vi (As := []) (rest := []) (wr := [(uu, .inr (7, [.ref wk])), (wk, .inl (N.2 0, 3, .inl wf)), (ja, .inr (3, [.ref jj, .int jn])), (jj, .inl (N.2 0, 180, .inl jl))]) C0 hP hD hS (c_X9_longest l N b lw gw lf gf n w hw (by omega)) myX9_longest k3_118 ⟨Nat.le_of_ble_eq_true rfl, Nat.le_of_ble_eq_true rfl⟩ [2, 3, 4] [0, 1, 5, 6] ⟨⟨rfl, rfl⟩, by decide, by decide, by decide⟩ 2 rfl rfl rfl rfl hl.1 rfl (Nat.le_of_ble_eq_true rfl) dX7_untangles_18 ⟨Nat.le_of_ble_eq_true rfl, Nat.le_of_ble_eq_true rfl⟩ (fun r_3 u0 H locs hw0 hP hD hS => ?_)
  have hw_4 : r_3 = (nI (pmax (fun q => (w q).length) n)) := hw0
  subst hw_4
  have hP : va_P N.1 vwCl [(uu, .inr (7, [.ref wk])), (wk, .inl (N.2 0, 3, .inl wf)), (ja, .inr (3, [.ref jj, .int jn])), (jj, .inl (N.2 0, 180, .inl jl)), (b, .inr (9, [.ref lw, .ref gw, .int (nI n)])), (lw, .inl (N.2 0, 5, .inl lf)), (gw, .inl (N.2 0, 300, .inl gf))] H := hP
  have hD : va_D Ag [(uu, .inr (7, [.ref wk])), (wk, .inl (N.2 0, 3, .inl wf)), (ja, .inr (3, [.ref jj, .int jn])), (jj, .inl (N.2 0, 180, .inl jl)), (b, .inr (9, [.ref lw, .ref gw, .int (nI n)])), (lw, .inl (N.2 0, 5, .inl lf)), (gw, .inl (N.2 0, 300, .inl gf))] := hD
  refine va_gets hx hb hE.2.2.2.2.2.2.2.2.1 hS hown (hg _ k3_123) (fun _ h9 => h9) dX7_untangles_21 ?_
  refine lv_iload hx hb dX7_untangles_24 (lv_at hl 0 rfl) ?_
  refine va_ti (v := .int (ckLG 3)) hx hb hE.2.2.2.2.2.2.2.2.2 hS (vp_in_nI (by omega) (by decide)) (by rw [nI_clamp (by omega)]) dX7_untangles_26 ?_
  refine ck_top (y := (nI 27)) (by decide) ?_
  refine ck_ic_le (tgt := 32) hx hb dX7_untangles_27 (by decide) (Nat.lt_of_le_of_lt (pmax_le (m := 60) (fun q hq => (hw q hq).2.1)) (by decide)) (by decide) (fun cz_5 => ?_) (fun cz_5 => ?_)
  · refine lv_iload hx hb dX7_untangles_32 (lv_at hl 0 rfl) ?_
    refine lv_if_ne (tgt := 42) hx hb dX7_untangles_34 (by decide) (fun cz_6 => ?_) (fun cz_6 => absurd cz_6 (by decide))
    refine lv_iconst (v := (nI 0)) hx hb dX7_untangles_42 (by decide) ?_
    refine lv_istore (lv' := [(6, .int (nI 0)), (5, .int (nI 3)), (0, .ref uu), (1, .ref b), (2, .ref ja), (3, .int (nI dn)), (4, .int (nI (dn + 3)))]) hx hb dX7_untangles_43 hl (by decide) rfl (fun ls hl => ?_)
    have lp_45 : ∀ (dz : Nat) (t : Nat) (wf1 : Nat → Int32) (lf1 : Nat → Int32) (gf1 : Nat → Int32) (jl1 : Nat → Int32) (jn1 : Int32) (hdz : 2 * (n - 1) - t = dz) (ht : t ≤ 2 * (n - 1)) (htr : tryW (ckPrn n 2) w 0 (2 * (n - 1)) = tryW (ckPrn n 2) w t (2 * (n - 1) - t)) (hw1 : ckWd lf1 gf1 n w) (hwf1 : ∀ i, i < dn → wf1 i = wf i) (H : Heap) (locs : List Loc) (ls : Array Slot), va_P N.1 vwCl [(uu, .inr (7, [.ref wk])), (wk, .inl (N.2 0, 3, .inl wf1)), (b, .inr (9, [.ref lw, .ref gw, .int (nI n)])), (lw, .inl (N.2 0, 5, .inl lf1)), (gw, .inl (N.2 0, 300, .inl gf1)), (ja, .inr (3, [.ref jj, .int jn1])), (jj, .inl (N.2 0, 180, .inl jl1))] H → va_D Ag [(uu, .inr (7, [.ref wk])), (wk, .inl (N.2 0, 3, .inl wf1)), (b, .inr (9, [.ref lw, .ref gw, .int (nI n)])), (lw, .inl (N.2 0, 5, .inl lf1)), (gw, .inl (N.2 0, 300, .inl gf1)), (ja, .inr (3, [.ref jj, .int jn1])), (jj, .inl (N.2 0, 180, .inl jl1))] → va_S Ag sg.heap H locs → lv_has ls 8 [(6, .int (nI t)), (5, .int (nI 3)), (0, .ref uu), (1, .ref b), (2, .ref ja), (3, .int (nI dn)), (4, .int (nI (dn + 3)))] → W pg l eg { frames := 9, cells := 0, slots := 0, locals := 224 } sg mg ([.ref uu, .ref b, .ref ja, .int (nI dn), .int (nI (dn + 3))]).toArray blw mth cg H locs 0 0 (ckQi N Ag blw sg ([.ref uu, .ref b, .ref ja, .int (nI dn), .int (nI (dn + 3))]).toArray { frames := 9, cells := 0, slots := 0, locals := 224 } (fun (r : Int32) (u : (Nat → Int32) × (Nat → Int32) × (Nat → Int32) × (Nat → Int32) × Int32) => (r = (b2i ((ckPrn n 3 w).isSome))) ∧ (ckWd u.2.1 u.2.2.1 n w ∧ (∀ l, ckPrn n 3 w = some l → ∀ i, i < 3 → u.1 (dn + i) = nI (l.getD i 0)) ∧ (∀ i, i < dn → u.1 i = wf i))) (fun (u : (Nat → Int32) × (Nat → Int32) × (Nat → Int32) × (Nat → Int32) × Int32) => [(uu, .inr (7, [.ref wk])), (wk, .inl (N.2 0, 3, .inl u.1)), (b, .inr (9, [.ref lw, .ref gw, .int (nI n)])), (lw, .inl (N.2 0, 5, .inl u.2.1)), (gw, .inl (N.2 0, 300, .inl u.2.2.1)), (ja, .inr (3, [.ref jj, .int u.2.2.2.2])), (jj, .inl (N.2 0, 180, .inl u.2.2.2.1))])) (F0 mg 45 ls []) := by
      intro dz
      induction dz using Nat.strongRecOn with
      | _ dz ih_45 =>
        intro t wf1 lf1 gf1 jl1 jn1 hdz ht htr hw1 hwf1 H locs ls hP hD hS hl
        subst hdz
        refine lv_iload hx hb dX7_untangles_45 (lv_at hl 0 rfl) ?_
        refine lv_aload_n hx hb dX7_untangles_47 rfl (lv_at hl 3 rfl) ?_
        refine va_getN (ci := 9) (v := .int (nI n)) (C := RX9) (T := TX9) (N := 3) (host := "KiteMeet") hx hb hg inX9 hown hE.1 hP 2 rfl rfl 2 (by decide) (hE.nf 8 rfl _) (fun _ h9 => h9) rfl dX7_untangles_48 ?_
        refine ck_SNi (As := [.int (nI n)]) (rest := [.int (nI t)]) (wr := [(uu, .inr (7, [.ref wk])), (wk, .inl (N.2 0, 3, .inl wf1)), (b, .inr (9, [.ref lw, .ref gw, .int (nI n)])), (lw, .inl (N.2 0, 5, .inl lf1)), (gw, .inl (N.2 0, 300, .inl gf1)), (ja, .inr (3, [.ref jj, .int jn1])), (jj, .inl (N.2 0, 180, .inl jl1))]) C0 hP hD hS (c_X10_walksOf l N n (by omega) (by omega)) myX10_walksOf 15 rfl ⟨Nat.le_of_ble_eq_true rfl, Nat.le_of_ble_eq_true rfl⟩ [] [0, 1, 2, 3, 4, 5, 6] ⟨⟨rfl, rfl⟩, by decide, by decide, by decide⟩ rfl hl.1 rfl (Nat.le_of_ble_eq_true rfl) dX7_untangles_51 ⟨Nat.le_of_ble_eq_true rfl, Nat.le_of_ble_eq_true rfl⟩ (fun r_7 u0 H locs hw0 hP hD hS => ?_)
        have hw_8 : r_7 = (nI (2 * (n - 1))) := hw0
        subst hw_8
        have hP : va_P N.1 vwCl [(uu, .inr (7, [.ref wk])), (wk, .inl (N.2 0, 3, .inl wf1)), (b, .inr (9, [.ref lw, .ref gw, .int (nI n)])), (lw, .inl (N.2 0, 5, .inl lf1)), (gw, .inl (N.2 0, 300, .inl gf1)), (ja, .inr (3, [.ref jj, .int jn1])), (jj, .inl (N.2 0, 180, .inl jl1))] H := hP
        have hD : va_D Ag [(uu, .inr (7, [.ref wk])), (wk, .inl (N.2 0, 3, .inl wf1)), (b, .inr (9, [.ref lw, .ref gw, .int (nI n)])), (lw, .inl (N.2 0, 5, .inl lf1)), (gw, .inl (N.2 0, 300, .inl gf1)), (ja, .inr (3, [.ref jj, .int jn1])), (jj, .inl (N.2 0, 180, .inl jl1))] := hD
        refine ck_ic_ge (tgt := 133) hx hb dX7_untangles_54 (by decide) (by omega) (by omega) (fun cz_9 => ?_) (fun cz_9 => ?_)
        · refine lv_iconst (v := (nI 0)) hx hb dX7_untangles_133 (by decide) ?_
          refine ck_top (y := (b2i false)) (by decide) ?_
          exact ck_zret (b := false) hx hb hrt hlk ⟨wf1, lf1, gf1, jl1, jn1⟩ ⟨congrArg b2i (by rw [ckPrn, if_neg (by omega), htr, (show 2 * (n - 1) - t = 0 by omega)]; rfl), hw1, fun l hl => (by rw [ckPrn, if_neg (by omega), htr, (show 2 * (n - 1) - t = 0 by omega)] at hl; cases hl), hwf1⟩ hP hD hS ⟨Nat.le_of_ble_eq_true rfl, Nat.le_of_ble_eq_true rfl⟩ dX7_untangles_134
        refine lv_aload_n hx hb dX7_untangles_57 rfl (lv_at hl 3 rfl) ?_
        refine lv_iload hx hb dX7_untangles_58 (lv_at hl 0 rfl) ?_
        refine ck_SNi (As := [.int (nI t)]) (rest := [.ref b]) (wr := [(uu, .inr (7, [.ref wk])), (wk, .inl (N.2 0, 3, .inl wf1)), (b, .inr (9, [.ref lw, .ref gw, .int (nI n)])), (lw, .inl (N.2 0, 5, .inl lf1)), (gw, .inl (N.2 0, 300, .inl gf1)), (ja, .inr (3, [.ref jj, .int jn1])), (jj, .inl (N.2 0, 180, .inl jl1))]) C0 hP hD hS (c_X10_placeOf l N t (by omega)) myX10_placeOf 16 rfl ⟨Nat.le_of_ble_eq_true rfl, Nat.le_of_ble_eq_true rfl⟩ [] [0, 1, 2, 3, 4, 5, 6] ⟨⟨rfl, rfl⟩, by decide, by decide, by decide⟩ rfl hl.1 rfl (Nat.le_of_ble_eq_true rfl) dX7_untangles_60 ⟨Nat.le_of_ble_eq_true rfl, Nat.le_of_ble_eq_true rfl⟩ (fun r_10 u0 H locs hw0 hP hD hS => ?_)
        have hw_11 : r_10 = (nI (t / 2)) := hw0
        subst hw_11
        have hP : va_P N.1 vwCl [(uu, .inr (7, [.ref wk])), (wk, .inl (N.2 0, 3, .inl wf1)), (b, .inr (9, [.ref lw, .ref gw, .int (nI n)])), (lw, .inl (N.2 0, 5, .inl lf1)), (gw, .inl (N.2 0, 300, .inl gf1)), (ja, .inr (3, [.ref jj, .int jn1])), (jj, .inl (N.2 0, 180, .inl jl1))] H := hP
        have hD : va_D Ag [(uu, .inr (7, [.ref wk])), (wk, .inl (N.2 0, 3, .inl wf1)), (b, .inr (9, [.ref lw, .ref gw, .int (nI n)])), (lw, .inl (N.2 0, 5, .inl lf1)), (gw, .inl (N.2 0, 300, .inl gf1)), (ja, .inr (3, [.ref jj, .int jn1])), (jj, .inl (N.2 0, 180, .inl jl1))] := hD
        refine lv_iload hx hb dX7_untangles_63 (lv_at hl 0 rfl) ?_
        refine ck_SNi (As := [.int (nI t)]) (rest := [.int (nI (t / 2)), .ref b]) (wr := [(uu, .inr (7, [.ref wk])), (wk, .inl (N.2 0, 3, .inl wf1)), (b, .inr (9, [.ref lw, .ref gw, .int (nI n)])), (lw, .inl (N.2 0, 5, .inl lf1)), (gw, .inl (N.2 0, 300, .inl gf1)), (ja, .inr (3, [.ref jj, .int jn1])), (jj, .inl (N.2 0, 180, .inl jl1))]) C0 hP hD hS (c_X10_isFront l N t (by omega)) myX10_isFront 17 rfl ⟨Nat.le_of_ble_eq_true rfl, Nat.le_of_ble_eq_true rfl⟩ [] [0, 1, 2, 3, 4, 5, 6] ⟨⟨rfl, rfl⟩, by decide, by decide, by decide⟩ rfl hl.1 rfl (Nat.le_of_ble_eq_true rfl) dX7_untangles_65 ⟨Nat.le_of_ble_eq_true rfl, Nat.le_of_ble_eq_true rfl⟩ (fun r_12 u0 H locs hw0 hP hD hS => ?_)
        have hw_13 : r_12 = (b2i (decide (t % 2 = 0))) := hw0
        subst hw_13
        have hP : va_P N.1 vwCl [(uu, .inr (7, [.ref wk])), (wk, .inl (N.2 0, 3, .inl wf1)), (b, .inr (9, [.ref lw, .ref gw, .int (nI n)])), (lw, .inl (N.2 0, 5, .inl lf1)), (gw, .inl (N.2 0, 300, .inl gf1)), (ja, .inr (3, [.ref jj, .int jn1])), (jj, .inl (N.2 0, 180, .inl jl1))] H := hP
        have hD : va_D Ag [(uu, .inr (7, [.ref wk])), (wk, .inl (N.2 0, 3, .inl wf1)), (b, .inr (9, [.ref lw, .ref gw, .int (nI n)])), (lw, .inl (N.2 0, 5, .inl lf1)), (gw, .inl (N.2 0, 300, .inl gf1)), (ja, .inr (3, [.ref jj, .int jn1])), (jj, .inl (N.2 0, 180, .inl jl1))] := hD
        refine lv_aload_n hx hb dX7_untangles_68 rfl (lv_at hl 4 rfl) ?_
        refine ck_Vi (As := [.int (nI (t / 2)), .int (b2i (decide (t % 2 = 0))), .ref ja]) (rest := []) (wr := [(uu, .inr (7, [.ref wk])), (wk, .inl (N.2 0, 3, .inl wf1))]) C0 hP hD hS (c_X9_pass l N ja jj jl1 b lw gw lf1 gf1 n jn1 w (t / 2) (decide (t % 2 = 0)) hw1 (by omega) (by omega)) myX9_pass k3_139 ⟨Nat.le_of_ble_eq_true rfl, Nat.le_of_ble_eq_true rfl⟩ [2, 3, 4, 5, 6] [0, 1] ⟨⟨rfl, rfl⟩, by decide, by decide, by decide⟩ 2 rfl rfl rfl rfl hl.1 rfl (Nat.le_of_ble_eq_true rfl) dX7_untangles_69 ⟨Nat.le_of_ble_eq_true rfl, Nat.le_of_ble_eq_true rfl⟩ (fun r_14 u0 H locs hw0 hP hD hS => ?_)
        obtain ⟨lf_a, gf_a, jl_a, jn_a⟩ := u0
        have hw_15 : (r_14 = (b2i (ckOk w (t / 2) (decide (t % 2 = 0))))) ∧ (ckWd lf_a gf_a n (if ckOk w (t / 2) (decide (t % 2 = 0)) then ckStep w (t / 2) (decide (t % 2 = 0)) else w)) := hw0
        obtain ⟨hv_16, hw_15⟩ := hw_15
        subst hv_16
        have hP : va_P N.1 vwCl [(uu, .inr (7, [.ref wk])), (wk, .inl (N.2 0, 3, .inl wf1)), (b, .inr (9, [.ref lw, .ref gw, .int (nI n)])), (lw, .inl (N.2 0, 5, .inl lf_a)), (gw, .inl (N.2 0, 300, .inl gf_a)), (ja, .inr (3, [.ref jj, .int jn_a])), (jj, .inl (N.2 0, 180, .inl jl_a))] H := hP
        have hD : va_D Ag [(uu, .inr (7, [.ref wk])), (wk, .inl (N.2 0, 3, .inl wf1)), (b, .inr (9, [.ref lw, .ref gw, .int (nI n)])), (lw, .inl (N.2 0, 5, .inl lf_a)), (gw, .inl (N.2 0, 300, .inl gf_a)), (ja, .inr (3, [.ref jj, .int jn_a])), (jj, .inl (N.2 0, 180, .inl jl_a))] := hD
        have hpw := hw_15
        refine ck_ifeq (b := ckOk w (t / 2) (decide (t % 2 = 0))) (tgt := 127) hx hb dX7_untangles_72 (by decide) (fun cz_17 => ?_) (fun cz_17 => ?_)
        · have hno := cz_17
          rw [hno] at hpw
          have hpw : ckWd lf_a gf_a n w := hpw
          refine lv_iinc (v := (nI (t + 1))) (lv' := [(6, .int (nI (t + 1))), (5, .int (nI 3)), (0, .ref uu), (1, .ref b), (2, .ref ja), (3, .int (nI dn)), (4, .int (nI (dn + 3)))]) hx hb dX7_untangles_127 hl (k := 0) rfl (nI_1 _) (by decide) rfl (fun ls hl => ?_)
          refine lv_goto (tgt := 45) hx hb dX7_untangles_130 (by decide) ?_
          exact ih_45 _ (by omega) (t + 1) wf1 lf_a gf_a jl_a jn_a rfl (by omega) (htr.trans (by rw [tryW_no (by omega) hno]; congr 1)) hpw hwf1 _ _ ls hP hD hS hl
        have hok := cz_17
        rw [if_pos hok] at hpw
        refine lv_aload_n hx hb dX7_untangles_75 rfl (lv_at hl 2 rfl) ?_
        refine va_get (ci := 7) (v := .ref wk) (C := RX7) (T := TX7) (N := 1) hx hb hg inX7 hown hE.1 hP 0 rfl rfl 0 (by decide) (hg _ k1_191) (fun _ h9 => h9) rfl dX7_untangles_76 ?_
        refine lv_iload_n hx hb dX7_untangles_79 rfl (lv_at hl 5 rfl) ?_
        refine lv_iload hx hb dX7_untangles_80 (lv_at hl 0 rfl) ?_
        refine ck_iast hx hb hE hP hD hS 1 rfl (by omega) (by decide) dX7_untangles_82 (ws1 := [(uu, .inr (7, [.ref wk])), (wk, .inl (N.2 0, 3, .inl (upd wf1 dn (nI t)))), (b, .inr (9, [.ref lw, .ref gw, .int (nI n)])), (lw, .inl (N.2 0, 5, .inl lf_a)), (gw, .inl (N.2 0, 300, .inl gf_a)), (ja, .inr (3, [.ref jj, .int jn_a])), (jj, .inl (N.2 0, 180, .inl jl_a))]) rfl (fun H locs hP hD hS => ?_)
        refine lv_aload_n hx hb dX7_untangles_83 rfl (lv_at hl 2 rfl) ?_
        refine lv_aload_n hx hb dX7_untangles_84 rfl (lv_at hl 3 rfl) ?_
        refine lv_aload_n hx hb dX7_untangles_85 rfl (lv_at hl 4 rfl) ?_
        refine lv_iload_n hx hb dX7_untangles_86 rfl (lv_at hl 5 rfl) ?_
        refine lv_iconst (v := (nI 1)) hx hb dX7_untangles_87 (by decide) ?_
        refine lv_iadd hx hb dX7_untangles_88 ?_
        refine ck_top (y := (nI (dn + 1))) (nI_add _ _) ?_
        refine lv_iload hx hb dX7_untangles_89 (lv_at hl 6 rfl) ?_
        refine ck_Vi (As := [.ref b, .ref ja, .int (nI (dn + 1)), .int (nI ((dn + 1) + 2))]) (rest := []) (wr := []) C0 hP hD hS (c_X7_untangles_2 l N uu wk (upd wf1 dn (nI t)) b lw gw lf_a gf_a n ja jj jl_a jn_a (ckStep w (t / 2) (decide (t % 2 = 0))) (dn + 1) hpw (ckStep_good hgd (by omega) hok) (by omega) (by omega) (by omega)) myX7_untangles k3_114 ⟨Nat.le_of_ble_eq_true rfl, Nat.le_of_ble_eq_true rfl⟩ [0, 1, 2, 3, 4, 5, 6] [] ⟨⟨rfl, rfl⟩, by decide, by decide, by decide⟩ 0 rfl rfl rfl rfl hl.1 rfl (Nat.le_of_ble_eq_true rfl) dX7_untangles_91 ⟨Nat.le_of_ble_eq_true rfl, Nat.le_of_ble_eq_true rfl⟩ (fun r_18 u0 H locs hw0 hP hD hS => ?_)
        obtain ⟨wf_b, lf_b, gf_b, jl_b, jn_b⟩ := u0
        have hw_19 : (r_18 = (b2i ((ckPrn n 2 (ckStep w (t / 2) (decide (t % 2 = 0)))).isSome))) ∧ (ckWd lf_b gf_b n (ckStep w (t / 2) (decide (t % 2 = 0))) ∧ (∀ l, ckPrn n 2 (ckStep w (t / 2) (decide (t % 2 = 0))) = some l → ∀ i, i < 2 → wf_b ((dn + 1) + i) = nI (l.getD i 0)) ∧ (∀ i, i < (dn + 1) → wf_b i = (upd wf1 dn (nI t)) i)) := hw0
        obtain ⟨hv_20, hw_19⟩ := hw_19
        subst hv_20
        have hP : va_P N.1 vwCl [(uu, .inr (7, [.ref wk])), (wk, .inl (N.2 0, 3, .inl wf_b)), (b, .inr (9, [.ref lw, .ref gw, .int (nI n)])), (lw, .inl (N.2 0, 5, .inl lf_b)), (gw, .inl (N.2 0, 300, .inl gf_b)), (ja, .inr (3, [.ref jj, .int jn_b])), (jj, .inl (N.2 0, 180, .inl jl_b))] H := hP
        have hD : va_D Ag [(uu, .inr (7, [.ref wk])), (wk, .inl (N.2 0, 3, .inl wf_b)), (b, .inr (9, [.ref lw, .ref gw, .int (nI n)])), (lw, .inl (N.2 0, 5, .inl lf_b)), (gw, .inl (N.2 0, 300, .inl gf_b)), (ja, .inr (3, [.ref jj, .int jn_b])), (jj, .inl (N.2 0, 180, .inl jl_b))] := hD
        obtain ⟨hub, huc, hud⟩ := hw_19
        refine lv_istore (lv' := [(7, .int (b2i ((ckPrn n 2 (ckStep w (t / 2) (decide (t % 2 = 0)))).isSome))), (6, .int (nI t)), (5, .int (nI 3)), (0, .ref uu), (1, .ref b), (2, .ref ja), (3, .int (nI dn)), (4, .int (nI (dn + 3)))]) hx hb dX7_untangles_94 hl (by decide) rfl (fun ls hl => ?_)
        refine lv_aload_n hx hb dX7_untangles_96 rfl (lv_at hl 4 rfl) ?_
        refine lv_iload hx hb dX7_untangles_97 (lv_at hl 1 rfl) ?_
        refine ck_SNi (As := [.int (nI t)]) (rest := [.ref b]) (wr := [(uu, .inr (7, [.ref wk])), (wk, .inl (N.2 0, 3, .inl wf_b)), (b, .inr (9, [.ref lw, .ref gw, .int (nI n)])), (lw, .inl (N.2 0, 5, .inl lf_b)), (gw, .inl (N.2 0, 300, .inl gf_b)), (ja, .inr (3, [.ref jj, .int jn_b])), (jj, .inl (N.2 0, 180, .inl jl_b))]) C0 hP hD hS (c_X10_placeOf l N t (by omega)) myX10_placeOf 16 rfl ⟨Nat.le_of_ble_eq_true rfl, Nat.le_of_ble_eq_true rfl⟩ [] [0, 1, 2, 3, 4, 5, 6] ⟨⟨rfl, rfl⟩, by decide, by decide, by decide⟩ rfl hl.1 rfl (Nat.le_of_ble_eq_true rfl) dX7_untangles_99 ⟨Nat.le_of_ble_eq_true rfl, Nat.le_of_ble_eq_true rfl⟩ (fun r_21 u0 H locs hw0 hP hD hS => ?_)
        have hw_22 : r_21 = (nI (t / 2)) := hw0
        subst hw_22
        have hP : va_P N.1 vwCl [(uu, .inr (7, [.ref wk])), (wk, .inl (N.2 0, 3, .inl wf_b)), (b, .inr (9, [.ref lw, .ref gw, .int (nI n)])), (lw, .inl (N.2 0, 5, .inl lf_b)), (gw, .inl (N.2 0, 300, .inl gf_b)), (ja, .inr (3, [.ref jj, .int jn_b])), (jj, .inl (N.2 0, 180, .inl jl_b))] H := hP
        have hD : va_D Ag [(uu, .inr (7, [.ref wk])), (wk, .inl (N.2 0, 3, .inl wf_b)), (b, .inr (9, [.ref lw, .ref gw, .int (nI n)])), (lw, .inl (N.2 0, 5, .inl lf_b)), (gw, .inl (N.2 0, 300, .inl gf_b)), (ja, .inr (3, [.ref jj, .int jn_b])), (jj, .inl (N.2 0, 180, .inl jl_b))] := hD
        refine lv_iload hx hb dX7_untangles_102 (lv_at hl 1 rfl) ?_
        refine ck_SNi (As := [.int (nI t)]) (rest := [.int (nI (t / 2)), .ref b]) (wr := [(uu, .inr (7, [.ref wk])), (wk, .inl (N.2 0, 3, .inl wf_b)), (b, .inr (9, [.ref lw, .ref gw, .int (nI n)])), (lw, .inl (N.2 0, 5, .inl lf_b)), (gw, .inl (N.2 0, 300, .inl gf_b)), (ja, .inr (3, [.ref jj, .int jn_b])), (jj, .inl (N.2 0, 180, .inl jl_b))]) C0 hP hD hS (c_X10_isFront l N t (by omega)) myX10_isFront 17 rfl ⟨Nat.le_of_ble_eq_true rfl, Nat.le_of_ble_eq_true rfl⟩ [] [0, 1, 2, 3, 4, 5, 6] ⟨⟨rfl, rfl⟩, by decide, by decide, by decide⟩ rfl hl.1 rfl (Nat.le_of_ble_eq_true rfl) dX7_untangles_104 ⟨Nat.le_of_ble_eq_true rfl, Nat.le_of_ble_eq_true rfl⟩ (fun r_23 u0 H locs hw0 hP hD hS => ?_)
        have hw_24 : r_23 = (b2i (decide (t % 2 = 0))) := hw0
        subst hw_24
        have hP : va_P N.1 vwCl [(uu, .inr (7, [.ref wk])), (wk, .inl (N.2 0, 3, .inl wf_b)), (b, .inr (9, [.ref lw, .ref gw, .int (nI n)])), (lw, .inl (N.2 0, 5, .inl lf_b)), (gw, .inl (N.2 0, 300, .inl gf_b)), (ja, .inr (3, [.ref jj, .int jn_b])), (jj, .inl (N.2 0, 180, .inl jl_b))] H := hP
        have hD : va_D Ag [(uu, .inr (7, [.ref wk])), (wk, .inl (N.2 0, 3, .inl wf_b)), (b, .inr (9, [.ref lw, .ref gw, .int (nI n)])), (lw, .inl (N.2 0, 5, .inl lf_b)), (gw, .inl (N.2 0, 300, .inl gf_b)), (ja, .inr (3, [.ref jj, .int jn_b])), (jj, .inl (N.2 0, 180, .inl jl_b))] := hD
        refine ck_ifne (b := decide (t % 2 = 0)) (tgt := 114) hx hb dX7_untangles_107 (by decide) (fun cz_25 => ?_) (fun cz_25 => ?_)
        · refine lv_iconst (v := (nI 0)) hx hb dX7_untangles_114 (by decide) ?_
          refine lv_aload_n hx hb dX7_untangles_115 rfl (lv_at hl 5 rfl) ?_
          refine ck_Vi (As := [.int (nI (t / 2)), .int (b2i false), .ref ja]) (rest := []) (wr := [(uu, .inr (7, [.ref wk])), (wk, .inl (N.2 0, 3, .inl wf_b))]) C0 hP hD hS (c_X9_pass l N ja jj jl_b b lw gw lf_b gf_b n jn_b (ckStep w (t / 2) (decide (t % 2 = 0))) (t / 2) false hub (by omega) (by omega)) myX9_pass k3_139 ⟨Nat.le_of_ble_eq_true rfl, Nat.le_of_ble_eq_true rfl⟩ [2, 3, 4, 5, 6] [0, 1] ⟨⟨rfl, rfl⟩, by decide, by decide, by decide⟩ 2 rfl rfl rfl rfl hl.1 rfl (Nat.le_of_ble_eq_true rfl) dX7_untangles_116 ⟨Nat.le_of_ble_eq_true rfl, Nat.le_of_ble_eq_true rfl⟩ (fun r_26 u0 H locs hw0 hP hD hS => ?_)
          obtain ⟨lf_c, gf_c, jl_c, jn_c⟩ := u0
          have hw_27 : (r_26 = (b2i (ckOk (ckStep w (t / 2) (decide (t % 2 = 0))) (t / 2) false))) ∧ (ckWd lf_c gf_c n (if ckOk (ckStep w (t / 2) (decide (t % 2 = 0))) (t / 2) false then ckStep (ckStep w (t / 2) (decide (t % 2 = 0))) (t / 2) false else (ckStep w (t / 2) (decide (t % 2 = 0))))) := hw0
          obtain ⟨hv_28, hw_27⟩ := hw_27
          subst hv_28
          have hP : va_P N.1 vwCl [(uu, .inr (7, [.ref wk])), (wk, .inl (N.2 0, 3, .inl wf_b)), (b, .inr (9, [.ref lw, .ref gw, .int (nI n)])), (lw, .inl (N.2 0, 5, .inl lf_c)), (gw, .inl (N.2 0, 300, .inl gf_c)), (ja, .inr (3, [.ref jj, .int jn_c])), (jj, .inl (N.2 0, 180, .inl jl_c))] H := hP
          have hD : va_D Ag [(uu, .inr (7, [.ref wk])), (wk, .inl (N.2 0, 3, .inl wf_b)), (b, .inr (9, [.ref lw, .ref gw, .int (nI n)])), (lw, .inl (N.2 0, 5, .inl lf_c)), (gw, .inl (N.2 0, 300, .inl gf_c)), (ja, .inr (3, [.ref jj, .int jn_c])), (jj, .inl (N.2 0, 180, .inl jl_c))] := hD
          have hbk := hw_27
          have hvv : (!decide (t % 2 = 0)) = false := by rw [cz_25]; rfl
          have e1 := ckStep_ok (n := n) (w := w) (p := t / 2) (decide (t % 2 = 0)) hgd (by omega)
          have e2 := ckStep_back (n := n) (w := w) (p := t / 2) (decide (t % 2 = 0)) hgd (by omega)
          rw [hvv] at e1 e2
          rw [if_pos e1, e2] at hbk
          have hwd : ∀ i, i < dn → wf_b i = wf i := fun i hi => (hud i (by omega)).trans ((pk_un (by omega)).trans (hwf1 i hi))
          have hyes : (ckPrn n 2 (ckStep w (t / 2) (decide (t % 2 = 0)))).isSome = true → ((b2i true = b2i (ckPrn n 3 w).isSome) ∧ (ckWd lf_c gf_c n w ∧ (∀ l, ckPrn n 3 w = some l → ∀ i, i < 3 → wf_b (dn + i) = nI (l.getD i 0)) ∧ (∀ i, i < dn → wf_b i = wf i))) := by
            intro hf
            obtain ⟨l1, hl1, hl2⟩ := tryW_yes (f := ckPrn n 2) (t := t) (c := 2 * (n - 1) - t) (by omega) hok hf
            have he : ckPrn n 3 w = some (t :: l1) := by rw [ckPrn, if_neg (by omega), htr, hl2]
            refine ⟨by rw [he]; rfl, hbk, fun l hl i hi => ?_, hwd⟩
            rw [he] at hl
            cases hl
            cases i with
            | zero => exact (hud dn (by omega)).trans pk_us
            | succ j => exact (congrArg wf_b (by omega)).trans (huc l1 hl1 j (by omega))
          refine lv_pop hx hb dX7_untangles_119 rfl ?_
          refine lv_iload hx hb dX7_untangles_120 (lv_at hl 0 rfl) ?_
          refine ck_ifeq (b := (ckPrn n 2 (ckStep w (t / 2) (decide (t % 2 = 0)))).isSome) (tgt := 127) hx hb dX7_untangles_122 (by decide) (fun cz_29 => ?_) (fun cz_29 => ?_)
          · refine lv_iinc (v := (nI (t + 1))) (lv' := [(6, .int (nI (t + 1))), (7, .int (b2i ((ckPrn n 2 (ckStep w (t / 2) (decide (t % 2 = 0)))).isSome))), (5, .int (nI 3)), (0, .ref uu), (1, .ref b), (2, .ref ja), (3, .int (nI dn)), (4, .int (nI (dn + 3)))]) hx hb dX7_untangles_127 hl (k := 1) rfl (nI_1 _) (by decide) rfl (fun ls hl => ?_)
            refine lv_goto (tgt := 45) hx hb dX7_untangles_130 (by decide) ?_
            exact ih_45 _ (by omega) (t + 1) wf_b lf_c gf_c jl_c jn_c rfl (by omega) (htr.trans (by rw [tryW_nf (by omega) hok cz_29]; congr 1)) hbk hwd _ _ ls hP hD hS (lv_sub hl [0, 2, 3, 4, 5, 6, 7] rfl)
          refine lv_iconst (v := (nI 1)) hx hb dX7_untangles_125 (by decide) ?_
          refine ck_top (y := (b2i true)) (by decide) ?_
          exact ck_zret (b := true) hx hb hrt hlk ⟨wf_b, lf_c, gf_c, jl_c, jn_c⟩ (hyes cz_29) hP hD hS ⟨Nat.le_of_ble_eq_true rfl, Nat.le_of_ble_eq_true rfl⟩ dX7_untangles_126
        refine lv_iconst (v := (nI 1)) hx hb dX7_untangles_110 (by decide) ?_
        refine lv_goto (tgt := 115) hx hb dX7_untangles_111 (by decide) ?_
        refine lv_aload_n hx hb dX7_untangles_115 rfl (lv_at hl 5 rfl) ?_
        refine ck_Vi (As := [.int (nI (t / 2)), .int (b2i true), .ref ja]) (rest := []) (wr := [(uu, .inr (7, [.ref wk])), (wk, .inl (N.2 0, 3, .inl wf_b))]) C0 hP hD hS (c_X9_pass l N ja jj jl_b b lw gw lf_b gf_b n jn_b (ckStep w (t / 2) (decide (t % 2 = 0))) (t / 2) true hub (by omega) (by omega)) myX9_pass k3_139 ⟨Nat.le_of_ble_eq_true rfl, Nat.le_of_ble_eq_true rfl⟩ [2, 3, 4, 5, 6] [0, 1] ⟨⟨rfl, rfl⟩, by decide, by decide, by decide⟩ 2 rfl rfl rfl rfl hl.1 rfl (Nat.le_of_ble_eq_true rfl) dX7_untangles_116 ⟨Nat.le_of_ble_eq_true rfl, Nat.le_of_ble_eq_true rfl⟩ (fun r_30 u0 H locs hw0 hP hD hS => ?_)
        obtain ⟨lf_c, gf_c, jl_c, jn_c⟩ := u0
        have hw_31 : (r_30 = (b2i (ckOk (ckStep w (t / 2) (decide (t % 2 = 0))) (t / 2) true))) ∧ (ckWd lf_c gf_c n (if ckOk (ckStep w (t / 2) (decide (t % 2 = 0))) (t / 2) true then ckStep (ckStep w (t / 2) (decide (t % 2 = 0))) (t / 2) true else (ckStep w (t / 2) (decide (t % 2 = 0))))) := hw0
        obtain ⟨hv_32, hw_31⟩ := hw_31
        subst hv_32
        have hP : va_P N.1 vwCl [(uu, .inr (7, [.ref wk])), (wk, .inl (N.2 0, 3, .inl wf_b)), (b, .inr (9, [.ref lw, .ref gw, .int (nI n)])), (lw, .inl (N.2 0, 5, .inl lf_c)), (gw, .inl (N.2 0, 300, .inl gf_c)), (ja, .inr (3, [.ref jj, .int jn_c])), (jj, .inl (N.2 0, 180, .inl jl_c))] H := hP
        have hD : va_D Ag [(uu, .inr (7, [.ref wk])), (wk, .inl (N.2 0, 3, .inl wf_b)), (b, .inr (9, [.ref lw, .ref gw, .int (nI n)])), (lw, .inl (N.2 0, 5, .inl lf_c)), (gw, .inl (N.2 0, 300, .inl gf_c)), (ja, .inr (3, [.ref jj, .int jn_c])), (jj, .inl (N.2 0, 180, .inl jl_c))] := hD
        have hbk := hw_31
        have hvv : (!decide (t % 2 = 0)) = true := by rw [cz_25]; rfl
        have e1 := ckStep_ok (n := n) (w := w) (p := t / 2) (decide (t % 2 = 0)) hgd (by omega)
        have e2 := ckStep_back (n := n) (w := w) (p := t / 2) (decide (t % 2 = 0)) hgd (by omega)
        rw [hvv] at e1 e2
        rw [if_pos e1, e2] at hbk
        have hwd : ∀ i, i < dn → wf_b i = wf i := fun i hi => (hud i (by omega)).trans ((pk_un (by omega)).trans (hwf1 i hi))
        have hyes : (ckPrn n 2 (ckStep w (t / 2) (decide (t % 2 = 0)))).isSome = true → ((b2i true = b2i (ckPrn n 3 w).isSome) ∧ (ckWd lf_c gf_c n w ∧ (∀ l, ckPrn n 3 w = some l → ∀ i, i < 3 → wf_b (dn + i) = nI (l.getD i 0)) ∧ (∀ i, i < dn → wf_b i = wf i))) := by
          intro hf
          obtain ⟨l1, hl1, hl2⟩ := tryW_yes (f := ckPrn n 2) (t := t) (c := 2 * (n - 1) - t) (by omega) hok hf
          have he : ckPrn n 3 w = some (t :: l1) := by rw [ckPrn, if_neg (by omega), htr, hl2]
          refine ⟨by rw [he]; rfl, hbk, fun l hl i hi => ?_, hwd⟩
          rw [he] at hl
          cases hl
          cases i with
          | zero => exact (hud dn (by omega)).trans pk_us
          | succ j => exact (congrArg wf_b (by omega)).trans (huc l1 hl1 j (by omega))
        refine lv_pop hx hb dX7_untangles_119 rfl ?_
        refine lv_iload hx hb dX7_untangles_120 (lv_at hl 0 rfl) ?_
        refine ck_ifeq (b := (ckPrn n 2 (ckStep w (t / 2) (decide (t % 2 = 0)))).isSome) (tgt := 127) hx hb dX7_untangles_122 (by decide) (fun cz_33 => ?_) (fun cz_33 => ?_)
        · refine lv_iinc (v := (nI (t + 1))) (lv' := [(6, .int (nI (t + 1))), (7, .int (b2i ((ckPrn n 2 (ckStep w (t / 2) (decide (t % 2 = 0)))).isSome))), (5, .int (nI 3)), (0, .ref uu), (1, .ref b), (2, .ref ja), (3, .int (nI dn)), (4, .int (nI (dn + 3)))]) hx hb dX7_untangles_127 hl (k := 1) rfl (nI_1 _) (by decide) rfl (fun ls hl => ?_)
          refine lv_goto (tgt := 45) hx hb dX7_untangles_130 (by decide) ?_
          exact ih_45 _ (by omega) (t + 1) wf_b lf_c gf_c jl_c jn_c rfl (by omega) (htr.trans (by rw [tryW_nf (by omega) hok cz_33]; congr 1)) hbk hwd _ _ ls hP hD hS (lv_sub hl [0, 2, 3, 4, 5, 6, 7] rfl)
        refine lv_iconst (v := (nI 1)) hx hb dX7_untangles_125 (by decide) ?_
        refine ck_top (y := (b2i true)) (by decide) ?_
        exact ck_zret (b := true) hx hb hrt hlk ⟨wf_b, lf_c, gf_c, jl_c, jn_c⟩ (hyes cz_33) hP hD hS ⟨Nat.le_of_ble_eq_true rfl, Nat.le_of_ble_eq_true rfl⟩ dX7_untangles_126
    exact lp_45 _ 0 wf lf gf jl jn rfl (by omega) rfl hw (fun i hi => rfl) _ _ ls (hP.sub [0, 1, 4, 5, 6, 2, 3] rfl) (hD.sub [0, 1, 4, 5, 6, 2, 3] (by decide) rfl) hS hl
  refine lv_iconst (v := (nI 0)) hx hb dX7_untangles_30 (by decide) ?_
  refine ck_top (y := (b2i false)) (by decide) ?_
  exact ck_zret (b := false) hx hb hrt hlk ⟨wf, lf, gf, jl, jn⟩ ⟨congrArg b2i (by rw [ckPrn, if_pos cz_5]; rfl), hw, fun l hl => (by rw [ckPrn, if_pos cz_5] at hl; cases hl), fun i hi => rfl⟩ (hP.sub [0, 1, 4, 5, 6, 2, 3] rfl) (hD.sub [0, 1, 4, 5, 6, 2, 3] (by decide) rfl) hS ⟨Nat.le_of_ble_eq_true rfl, Nat.le_of_ble_eq_true rfl⟩ dX7_untangles_31
