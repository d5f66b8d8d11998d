/-! the model's 572 numbers, seen as what they tell -/
def mV (nw : Nat → Int32) (cf n : Nat) (wk : Int32) (tr di fo : Nat → Int32) (w : Nat → List Nat) (sdf wof shf twf : Nat → Int32) : Prop :=
  nw 0 = nI cf ∧ nw 1 = nI n ∧ nw 2 = wk ∧ (∀ j, j < 64 → nw (3 + j) = tr j) ∧ (∀ j, j < 80 → nw (67 + 2 * j) = di j) ∧ (∀ j, j < 80 → nw (67 + 2 * j + 1) = fo j) ∧ (∀ j, j < 5 → nw (227 + j) = sdf j) ∧ (∀ j, j < 5 → nw (237 + j) = wof j) ∧ (∀ j, j < 5 → nw (242 + j) = shf j) ∧ (∀ f g, f < 5 → g < 5 → f ≠ g → nw (247 + 5 * f + g) = twf (5 * min f g + max f g)) ∧ ckWd (fun p => nw (232 + p)) (fun k => nw (272 + k)) n w
theorem ckWd_congr {lf lf' gf gf' : Nat → Int32} {n : Nat} {w : Nat → List Nat} (h : ckWd lf gf n w) (h1 : ∀ p, p < n → lf' p = lf p) (h2 : ∀ p k, p < n → k < 60 → gf' (p * 60 + k) = gf (p * 60 + k)) : ckWd lf' gf' n w := by
  intro p hp
  obtain ⟨a, b, c, d⟩ := h p hp
  exact ⟨(h1 p hp).trans a, b, c, fun k hk => (h2 p k hp (by omega)).trans (d k hk)⟩
/-- only what is looked at counts -/
theorem mV_congr {nw nw' : Nat → Int32} {cf n : Nat} {wk : Int32} {tr di fo : Nat → Int32} {w : Nat → List Nat} {sdf wof shf twf : Nat → Int32} (h : mV nw cf n wk tr di fo w sdf wof shf twf) (hn : n ≤ 5) (he : ∀ k, k < 572 → nw' k = nw k) : mV nw' cf n wk tr di fo w sdf wof shf twf :=
  ⟨(he 0 (by omega)).trans h.1, (he 1 (by omega)).trans h.2.1, (he 2 (by omega)).trans h.2.2.1, fun j hj => (he _ (by omega)).trans (h.2.2.2.1 j hj), fun j hj => (he _ (by omega)).trans (h.2.2.2.2.1 j hj), fun j hj => (he _ (by omega)).trans (h.2.2.2.2.2.1 j hj), fun j hj => (he _ (by omega)).trans (h.2.2.2.2.2.2.1 j hj), fun j hj => (he _ (by omega)).trans (h.2.2.2.2.2.2.2.1 j hj), fun j hj => (he _ (by omega)).trans (h.2.2.2.2.2.2.2.2.1 j hj), fun f g hf hg hq => (he _ (by omega)).trans (h.2.2.2.2.2.2.2.2.2.1 f g hf hg hq), ckWd_congr h.2.2.2.2.2.2.2.2.2.2 (fun p hp => he _ (by omega)) (fun p k hp hk => he _ (by omega))⟩
theorem mV_view {nw : Nat → Int32} {cf n : Nat} {wk : Int32} {tr di fo : Nat → Int32} {w : Nat → List Nat} {sdf wof shf twf : Nat → Int32} {tr' di' fo' sdf' wof' shf' twf' : Nat → Int32} (h : mV nw cf n wk tr di fo w sdf wof shf twf) (h1 : ∀ j, j < 64 → tr' j = tr j) (h2 : ∀ j, j < 80 → di' j = di j) (h3 : ∀ j, j < 80 → fo' j = fo j) (h4 : ∀ j, j < 5 → sdf' j = sdf j) (h5 : ∀ j, j < 5 → wof' j = wof j) (h6 : ∀ j, j < 5 → shf' j = shf j) (h7 : ∀ j, j < 25 → twf' j = twf j) : mV nw cf n wk tr' di' fo' w sdf' wof' shf' twf' :=
  ⟨h.1, h.2.1, h.2.2.1, fun j hj => (h.2.2.2.1 j hj).trans (h1 j hj).symm, fun j hj => (h.2.2.2.2.1 j hj).trans (h2 j hj).symm, fun j hj => (h.2.2.2.2.2.1 j hj).trans (h3 j hj).symm, fun j hj => (h.2.2.2.2.2.2.1 j hj).trans (h4 j hj).symm, fun j hj => (h.2.2.2.2.2.2.2.1 j hj).trans (h5 j hj).symm, fun j hj => (h.2.2.2.2.2.2.2.2.1 j hj).trans (h6 j hj).symm, fun f g hf hg hq => (h.2.2.2.2.2.2.2.2.2.1 f g hf hg hq).trans (h7 _ (by omega)).symm, h.2.2.2.2.2.2.2.2.2.2⟩
theorem mV_at {nw f : Nat → Int32} {a j b i : Nat} {v : Int32} {B : Nat} (hj : j < B) (hi : b = i ↔ j = a) (h : nw b = f j) : upd nw i v b = upd f a v j := by
  by_cases hja : j = a
  · rw [upd, upd, if_pos hja, if_pos (hi.mpr hja)]
  · rw [upd, upd, if_neg hja, if_neg (fun q => hja (hi.mp q))]; exact h
theorem mV_cf {nw : Nat → Int32} {cf n : Nat} {wk : Int32} {tr di fo : Nat → Int32} {w : Nat → List Nat} {sdf wof shf twf : Nat → Int32} {v : Int32} {cf' : Nat}  (h : mV nw cf n wk tr di fo w sdf wof shf twf) (hn : n ≤ 5) (hv : v = nI cf') : mV (upd nw 0 v) cf' n wk tr di fo w sdf wof shf twf :=
  ⟨pk_us.trans hv, (pk_un (by omega)).trans h.2.1, (pk_un (by omega)).trans h.2.2.1, fun j hj => (pk_un (by omega)).trans (h.2.2.2.1 j hj), fun j hj => (pk_un (by omega)).trans (h.2.2.2.2.1 j hj), fun j hj => (pk_un (by omega)).trans (h.2.2.2.2.2.1 j hj), fun j hj => (pk_un (by omega)).trans (h.2.2.2.2.2.2.1 j hj), fun j hj => (pk_un (by omega)).trans (h.2.2.2.2.2.2.2.1 j hj), fun j hj => (pk_un (by omega)).trans (h.2.2.2.2.2.2.2.2.1 j hj), fun f g hf hg hq => (pk_un (by omega)).trans (h.2.2.2.2.2.2.2.2.2.1 f g hf hg hq), ckWd_congr h.2.2.2.2.2.2.2.2.2.2 (fun p hp => pk_un (by omega)) (fun p k hp hk => pk_un (by omega))⟩
theorem mV_wk {nw : Nat → Int32} {cf n : Nat} {wk : Int32} {tr di fo : Nat → Int32} {w : Nat → List Nat} {sdf wof shf twf : Nat → Int32} {v : Int32}  (h : mV nw cf n wk tr di fo w sdf wof shf twf) (hn : n ≤ 5) : mV (upd nw 2 v) cf n v tr di fo w sdf wof shf twf :=
  ⟨(pk_un (by omega)).trans h.1, (pk_un (by omega)).trans h.2.1, pk_us, fun j hj => (pk_un (by omega)).trans (h.2.2.2.1 j hj), fun j hj => (pk_un (by omega)).trans (h.2.2.2.2.1 j hj), fun j hj => (pk_un (by omega)).trans (h.2.2.2.2.2.1 j hj), fun j hj => (pk_un (by omega)).trans (h.2.2.2.2.2.2.1 j hj), fun j hj => (pk_un (by omega)).trans (h.2.2.2.2.2.2.2.1 j hj), fun j hj => (pk_un (by omega)).trans (h.2.2.2.2.2.2.2.2.1 j hj), fun f g hf hg hq => (pk_un (by omega)).trans (h.2.2.2.2.2.2.2.2.2.1 f g hf hg hq), ckWd_congr h.2.2.2.2.2.2.2.2.2.2 (fun p hp => pk_un (by omega)) (fun p k hp hk => pk_un (by omega))⟩
theorem mV_tr {nw : Nat → Int32} {cf n : Nat} {wk : Int32} {tr di fo : Nat → Int32} {w : Nat → List Nat} {sdf wof shf twf : Nat → Int32} {v : Int32} {a : Nat} (h : mV nw cf n wk tr di fo w sdf wof shf twf) (hn : n ≤ 5) (ha : a < 64) : mV (upd nw (3 + a) v) cf n wk (upd tr a v) di fo w sdf wof shf twf :=
  ⟨(pk_un (by omega)).trans h.1, (pk_un (by omega)).trans h.2.1, (pk_un (by omega)).trans h.2.2.1, fun j hj => mV_at hj (by omega) (h.2.2.2.1 j hj), fun j hj => (pk_un (by omega)).trans (h.2.2.2.2.1 j hj), fun j hj => (pk_un (by omega)).trans (h.2.2.2.2.2.1 j hj), fun j hj => (pk_un (by omega)).trans (h.2.2.2.2.2.2.1 j hj), fun j hj => (pk_un (by omega)).trans (h.2.2.2.2.2.2.2.1 j hj), fun j hj => (pk_un (by omega)).trans (h.2.2.2.2.2.2.2.2.1 j hj), fun f g hf hg hq => (pk_un (by omega)).trans (h.2.2.2.2.2.2.2.2.2.1 f g hf hg hq), ckWd_congr h.2.2.2.2.2.2.2.2.2.2 (fun p hp => pk_un (by omega)) (fun p k hp hk => pk_un (by omega))⟩
theorem mV_di {nw : Nat → Int32} {cf n : Nat} {wk : Int32} {tr di fo : Nat → Int32} {w : Nat → List Nat} {sdf wof shf twf : Nat → Int32} {v : Int32} {a : Nat} (h : mV nw cf n wk tr di fo w sdf wof shf twf) (hn : n ≤ 5) (ha : a < 80) : mV (upd nw (67 + 2 * a) v) cf n wk tr (upd di a v) fo w sdf wof shf twf :=
  ⟨(pk_un (by omega)).trans h.1, (pk_un (by omega)).trans h.2.1, (pk_un (by omega)).trans h.2.2.1, fun j hj => (pk_un (by omega)).trans (h.2.2.2.1 j hj), fun j hj => mV_at hj (by omega) (h.2.2.2.2.1 j hj), fun j hj => (pk_un (by omega)).trans (h.2.2.2.2.2.1 j hj), fun j hj => (pk_un (by omega)).trans (h.2.2.2.2.2.2.1 j hj), fun j hj => (pk_un (by omega)).trans (h.2.2.2.2.2.2.2.1 j hj), fun j hj => (pk_un (by omega)).trans (h.2.2.2.2.2.2.2.2.1 j hj), fun f g hf hg hq => (pk_un (by omega)).trans (h.2.2.2.2.2.2.2.2.2.1 f g hf hg hq), ckWd_congr h.2.2.2.2.2.2.2.2.2.2 (fun p hp => pk_un (by omega)) (fun p k hp hk => pk_un (by omega))⟩
theorem mV_fo {nw : Nat → Int32} {cf n : Nat} {wk : Int32} {tr di fo : Nat → Int32} {w : Nat → List Nat} {sdf wof shf twf : Nat → Int32} {v : Int32} {a : Nat} (h : mV nw cf n wk tr di fo w sdf wof shf twf) (hn : n ≤ 5) (ha : a < 80) : mV (upd nw (67 + 2 * a + 1) v) cf n wk tr di (upd fo a v) w sdf wof shf twf :=
  ⟨(pk_un (by omega)).trans h.1, (pk_un (by omega)).trans h.2.1, (pk_un (by omega)).trans h.2.2.1, fun j hj => (pk_un (by omega)).trans (h.2.2.2.1 j hj), fun j hj => (pk_un (by omega)).trans (h.2.2.2.2.1 j hj), fun j hj => mV_at hj (by omega) (h.2.2.2.2.2.1 j hj), fun j hj => (pk_un (by omega)).trans (h.2.2.2.2.2.2.1 j hj), fun j hj => (pk_un (by omega)).trans (h.2.2.2.2.2.2.2.1 j hj), fun j hj => (pk_un (by omega)).trans (h.2.2.2.2.2.2.2.2.1 j hj), fun f g hf hg hq => (pk_un (by omega)).trans (h.2.2.2.2.2.2.2.2.2.1 f g hf hg hq), ckWd_congr h.2.2.2.2.2.2.2.2.2.2 (fun p hp => pk_un (by omega)) (fun p k hp hk => pk_un (by omega))⟩
theorem mV_sd {nw : Nat → Int32} {cf n : Nat} {wk : Int32} {tr di fo : Nat → Int32} {w : Nat → List Nat} {sdf wof shf twf : Nat → Int32} {v : Int32} {a : Nat} (h : mV nw cf n wk tr di fo w sdf wof shf twf) (hn : n ≤ 5) (ha : a < 5) : mV (upd nw (227 + a) v) cf n wk tr di fo w (upd sdf a v) wof shf twf :=
  ⟨(pk_un (by omega)).trans h.1, (pk_un (by omega)).trans h.2.1, (pk_un (by omega)).trans h.2.2.1, fun j hj => (pk_un (by omega)).trans (h.2.2.2.1 j hj), fun j hj => (pk_un (by omega)).trans (h.2.2.2.2.1 j hj), fun j hj => (pk_un (by omega)).trans (h.2.2.2.2.2.1 j hj), fun j hj => mV_at hj (by omega) (h.2.2.2.2.2.2.1 j hj), fun j hj => (pk_un (by omega)).trans (h.2.2.2.2.2.2.2.1 j hj), fun j hj => (pk_un (by omega)).trans (h.2.2.2.2.2.2.2.2.1 j hj), fun f g hf hg hq => (pk_un (by omega)).trans (h.2.2.2.2.2.2.2.2.2.1 f g hf hg hq), ckWd_congr h.2.2.2.2.2.2.2.2.2.2 (fun p hp => pk_un (by omega)) (fun p k hp hk => pk_un (by omega))⟩
theorem mV_wo {nw : Nat → Int32} {cf n : Nat} {wk : Int32} {tr di fo : Nat → Int32} {w : Nat → List Nat} {sdf wof shf twf : Nat → Int32} {v : Int32} {a : Nat} (h : mV nw cf n wk tr di fo w sdf wof shf twf) (hn : n ≤ 5) (ha : a < 5) : mV (upd nw (237 + a) v) cf n wk tr di fo w sdf (upd wof a v) shf twf :=
  ⟨(pk_un (by omega)).trans h.1, (pk_un (by omega)).trans h.2.1, (pk_un (by omega)).trans h.2.2.1, fun j hj => (pk_un (by omega)).trans (h.2.2.2.1 j hj), fun j hj => (pk_un (by omega)).trans (h.2.2.2.2.1 j hj), fun j hj => (pk_un (by omega)).trans (h.2.2.2.2.2.1 j hj), fun j hj => (pk_un (by omega)).trans (h.2.2.2.2.2.2.1 j hj), fun j hj => mV_at hj (by omega) (h.2.2.2.2.2.2.2.1 j hj), fun j hj => (pk_un (by omega)).trans (h.2.2.2.2.2.2.2.2.1 j hj), fun f g hf hg hq => (pk_un (by omega)).trans (h.2.2.2.2.2.2.2.2.2.1 f g hf hg hq), ckWd_congr h.2.2.2.2.2.2.2.2.2.2 (fun p hp => pk_un (by omega)) (fun p k hp hk => pk_un (by omega))⟩
theorem mV_sh {nw : Nat → Int32} {cf n : Nat} {wk : Int32} {tr di fo : Nat → Int32} {w : Nat → List Nat} {sdf wof shf twf : Nat → Int32} {v : Int32} {a : Nat} (h : mV nw cf n wk tr di fo w sdf wof shf twf) (hn : n ≤ 5) (ha : a < 5) : mV (upd nw (242 + a) v) cf n wk tr di fo w sdf wof (upd shf a v) twf :=
  ⟨(pk_un (by omega)).trans h.1, (pk_un (by omega)).trans h.2.1, (pk_un (by omega)).trans h.2.2.1, fun j hj => (pk_un (by omega)).trans (h.2.2.2.1 j hj), fun j hj => (pk_un (by omega)).trans (h.2.2.2.2.1 j hj), fun j hj => (pk_un (by omega)).trans (h.2.2.2.2.2.1 j hj), fun j hj => (pk_un (by omega)).trans (h.2.2.2.2.2.2.1 j hj), fun j hj => (pk_un (by omega)).trans (h.2.2.2.2.2.2.2.1 j hj), fun j hj => mV_at hj (by omega) (h.2.2.2.2.2.2.2.2.1 j hj), fun f g hf hg hq => (pk_un (by omega)).trans (h.2.2.2.2.2.2.2.2.2.1 f g hf hg hq), ckWd_congr h.2.2.2.2.2.2.2.2.2.2 (fun p hp => pk_un (by omega)) (fun p k hp hk => pk_un (by omega))⟩
theorem ckIn_m1 {x : Int32} {n : Nat} (hn : n < 2 ^ 31) : ckIn x (nI 0) (nI n - nI 1) = ckLt x n := by
  have e0 : (nI 0).toInt = 0 := (by decide)
  have e1 : (nI 1).toInt = 1 := (by decide)
  have en := nI_toInt hn
  have es : (nI n - nI 1).toInt = (n : Int) - 1 := by rw [fb_subI (by omega) (by omega), en, e1]
  rw [Bool.eq_iff_iff, ckIn_iff, ckLt, decide_eq_true_eq, es, e0]
  omega
theorem i_sub_toInt {a b : Nat} (ha : a < 2 ^ 30) (hb : b < 2 ^ 30) : (nI a - nI b).toInt = (a : Int) - b := pk_sub_toInt ha hb
set_option maxHeartbeats 4000000 in
set_option maxRecDepth 100000 in
/-- X11_in -/
theorem c_X11_in (l : Launch) (N : ckN) (x : Int32) (lo : Int32) (hi : Int32)  : ckI l yX11_in cX11_in 3 (some FieldType.boolean) { frames := 2, cells := 0, slots := 0, locals := 60 } N [.int x, .int lo, .int hi] [] (fun (r : Int32) (u : Unit) => r = (b2i (ckIn x lo hi))) (fun (u : Unit) => []) := by
  refine ckI.of (by decide) (Nat.le_of_ble_eq_true rfl) ?_
  intro pg eg sg mg blw mth cg Ag ls hx hb hrt hml hown hlk hin hg hE hA hP hD hS hl
  have hown : sg.vm.findClass RX11 = some mg.cls := hown
  have hl : lv_has ls 3 [(0, .int x), (1, .int lo), (2, .int hi)] := hl
  have C0 : ckC pg sg mg ([.int x, .int lo, .int hi]).toArray cg cX11_in 3 RX11 N Ag := ⟨⟨hx, hb, hml, hown, hg⟩, hE, hA⟩
  generalize hHe : sg.heap = H at hP
  have hS : va_S Ag sg.heap H [] := hHe ▸ hS
  refine lv_iload_n hx hb dX11_in_0 rfl (lv_at hl 0 rfl) ?_
  refine lv_iload_n hx hb dX11_in_1 rfl (lv_at hl 1 rfl) ?_
  refine lv_icmp_lt (tgt := 14) hx hb dX11_in_2 (by decide) (fun cz_1 => ?_) (fun cz_1 => ?_)
  · refine lv_iconst (v := (nI 0)) hx hb dX11_in_14 (by decide) ?_
    refine ck_top (y := (b2i false)) (by decide) ?_
    exact ck_zret (b := false) hx hb hrt hlk () (congrArg b2i (ckIn_lo cz_1).symm) hP hD hS ⟨Nat.le_of_ble_eq_true rfl, Nat.le_of_ble_eq_true rfl⟩ dX11_in_15
  refine lv_iload_n hx hb dX11_in_5 rfl (lv_at hl 0 rfl) ?_
  refine lv_iload_n hx hb dX11_in_6 rfl (lv_at hl 2 rfl) ?_
  refine lv_icmp_gt (tgt := 14) hx hb dX11_in_7 (by decide) (fun cz_2 => ?_) (fun cz_2 => ?_)
  · refine lv_iconst (v := (nI 0)) hx hb dX11_in_14 (by decide) ?_
    refine ck_top (y := (b2i false)) (by decide) ?_
    exact ck_zret (b := false) hx hb hrt hlk () (congrArg b2i (ckIn_hi (Int32.not_le.mpr cz_2)).symm) hP hD hS ⟨Nat.le_of_ble_eq_true rfl, Nat.le_of_ble_eq_true rfl⟩ dX11_in_15
  refine lv_iconst (v := (nI 1)) hx hb dX11_in_10 (by decide) ?_
  refine lv_goto (tgt := 15) hx hb dX11_in_11 (by decide) ?_
  refine ck_top (y := (b2i true)) (by decide) ?_
  exact ck_zret (b := true) hx hb hrt hlk () (congrArg b2i (ckIn_ok cz_1 (Int32.not_lt.mp cz_2)).symm) hP hD hS ⟨Nat.le_of_ble_eq_true rfl, Nat.le_of_ble_eq_true rfl⟩ dX11_in_15
set_option maxHeartbeats 4000000 in
set_option maxRecDepth 100000 in
/-- X11_isHeight -/
theorem c_X11_isHeight (l : Launch) (N : ckN) (x : Int32)  : ckI l yX11_isHeight cX11_isHeight 1 (some FieldType.boolean) { frames := 3, cells := 0, slots := 0, locals := 82 } N [.int x] [] (fun (r : Int32) (u : Unit) => r = (b2i (ckIn x (nI 0) (nI 3)))) (fun (u : Unit) => []) := by
  refine ckI.of (by decide) (Nat.le_of_ble_eq_true rfl) ?_
  intro pg eg sg mg blw mth cg Ag ls hx hb hrt hml hown hlk hin hg hE hA hP hD hS hl
  have hown : sg.vm.findClass RX11 = some mg.cls := hown
  have hl : lv_has ls 1 [(0, .int x)] := hl
  have C0 : ckC pg sg mg ([.int x]).toArray cg cX11_isHeight 1 RX11 N Ag := ⟨⟨hx, hb, hml, hown, hg⟩, hE, hA⟩
  generalize hHe : sg.heap = H at hP
  have hS : va_S Ag sg.heap H [] := hHe ▸ hS
  refine lv_iload_n hx hb dX11_isHeight_0 rfl (lv_at hl 0 rfl) ?_
  refine lv_iconst (v := (nI 0)) hx hb dX11_isHeight_1 (by decide) ?_
  refine lv_iconst (v := (nI 3)) hx hb dX11_isHeight_2 (by decide) ?_
  refine ck_Si (As := [.int x, .int (nI 0), .int (nI 3)]) (rest := []) (wr := []) C0 hP hD hS (c_X11_in l N x (nI 0) (nI 3) ) myX11_in k4_75 ⟨Nat.le_of_ble_eq_true rfl, Nat.le_of_ble_eq_true rfl⟩ [] [] ⟨⟨rfl, rfl⟩, by decide, by decide, by decide⟩ rfl hl.1 rfl (Nat.le_of_ble_eq_true rfl) dX11_isHeight_3 ⟨Nat.le_of_ble_eq_true rfl, Nat.le_of_ble_eq_true rfl⟩ (fun r_1 u0 H locs hw0 hP hD hS => ?_)
  have hw_2 : r_1 = (b2i (ckIn x (nI 0) (nI 3))) := hw0
  subst hw_2
  have hP : va_P N.1 vwCl [] H := hP
  have hD : va_D Ag [] := hD
  exact ck_zret (b := (ckIn x (nI 0) (nI 3))) hx hb hrt hlk () rfl hP hD hS ⟨Nat.le_of_ble_eq_true rfl, Nat.le_of_ble_eq_true rfl⟩ dX11_isHeight_6
set_option maxHeartbeats 4000000 in
set_option maxRecDepth 100000 in
/-- X11_isMinute -/
theorem c_X11_isMinute (l : Launch) (N : ckN) (x : Int32)  : ckI l yX11_isMinute cX11_isMinute 1 (some FieldType.boolean) { frames := 3, cells := 0, slots := 0, locals := 82 } N [.int x] [] (fun (r : Int32) (u : Unit) => r = (b2i (ckIn x (nI 0) (nI 19)))) (fun (u : Unit) => []) := by
  refine ckI.of (by decide) (Nat.le_of_ble_eq_true rfl) ?_
  intro pg eg sg mg blw mth cg Ag ls hx hb hrt hml hown hlk hin hg hE hA hP hD hS hl
  have hown : sg.vm.findClass RX11 = some mg.cls := hown
  have hl : lv_has ls 1 [(0, .int x)] := hl
  have C0 : ckC pg sg mg ([.int x]).toArray cg cX11_isMinute 1 RX11 N Ag := ⟨⟨hx, hb, hml, hown, hg⟩, hE, hA⟩
  generalize hHe : sg.heap = H at hP
  have hS : va_S Ag sg.heap H [] := hHe ▸ hS
  refine lv_iload_n hx hb dX11_isMinute_0 rfl (lv_at hl 0 rfl) ?_
  refine lv_iconst (v := (nI 0)) hx hb dX11_isMinute_1 (by decide) ?_
  refine lv_bipush (v := (nI 19)) hx hb dX11_isMinute_2 (by decide) ?_
  refine ck_Si (As := [.int x, .int (nI 0), .int (nI 19)]) (rest := []) (wr := []) C0 hP hD hS (c_X11_in l N x (nI 0) (nI 19) ) myX11_in k4_75 ⟨Nat.le_of_ble_eq_true rfl, Nat.le_of_ble_eq_true rfl⟩ [] [] ⟨⟨rfl, rfl⟩, by decide, by decide, by decide⟩ rfl hl.1 rfl (Nat.le_of_ble_eq_true rfl) dX11_isMinute_4 ⟨Nat.le_of_ble_eq_true rfl, Nat.le_of_ble_eq_true rfl⟩ (fun r_1 u0 H locs hw0 hP hD hS => ?_)
  have hw_2 : r_1 = (b2i (ckIn x (nI 0) (nI 19))) := hw0
  subst hw_2
  have hP : va_P N.1 vwCl [] H := hP
  have hD : va_D Ag [] := hD
  exact ck_zret (b := (ckIn x (nI 0) (nI 19))) hx hb hrt hlk () rfl hP hD hS ⟨Nat.le_of_ble_eq_true rfl, Nat.le_of_ble_eq_true rfl⟩ dX11_isMinute_7
set_option maxHeartbeats 4000000 in
set_option maxRecDepth 100000 in
/-- X11_isSheet -/
theorem c_X11_isSheet (l : Launch) (N : ckN) (x : Int32)  : ckI l yX11_isSheet cX11_isSheet 1 (some FieldType.boolean) { frames := 3, cells := 0, slots := 0, locals := 82 } N [.int x] [] (fun (r : Int32) (u : Unit) => r = (b2i (ckIn x (nI 0) (nI 3)))) (fun (u : Unit) => []) := by
  refine ckI.of (by decide) (Nat.le_of_ble_eq_true rfl) ?_
  intro pg eg sg mg blw mth cg Ag ls hx hb hrt hml hown hlk hin hg hE hA hP hD hS hl
  have hown : sg.vm.findClass RX11 = some mg.cls := hown
  have hl : lv_has ls 1 [(0, .int x)] := hl
  have C0 : ckC pg sg mg ([.int x]).toArray cg cX11_isSheet 1 RX11 N Ag := ⟨⟨hx, hb, hml, hown, hg⟩, hE, hA⟩
  generalize hHe : sg.heap = H at hP
  have hS : va_S Ag sg.heap H [] := hHe ▸ hS
  refine lv_iload_n hx hb dX11_isSheet_0 rfl (lv_at hl 0 rfl) ?_
  refine lv_iconst (v := (nI 0)) hx hb dX11_isSheet_1 (by decide) ?_
  refine lv_iconst (v := (nI 3)) hx hb dX11_isSheet_2 (by decide) ?_
  refine ck_Si (As := [.int x, .int (nI 0), .int (nI 3)]) (rest := []) (wr := []) C0 hP hD hS (c_X11_in l N x (nI 0) (nI 3) ) myX11_in k4_75 ⟨Nat.le_of_ble_eq_true rfl, Nat.le_of_ble_eq_true rfl⟩ [] [] ⟨⟨rfl, rfl⟩, by decide, by decide, by decide⟩ rfl hl.1 rfl (Nat.le_of_ble_eq_true rfl) dX11_isSheet_3 ⟨Nat.le_of_ble_eq_true rfl, Nat.le_of_ble_eq_true rfl⟩ (fun r_1 u0 H locs hw0 hP hD hS => ?_)
  have hw_2 : r_1 = (b2i (ckIn x (nI 0) (nI 3))) := hw0
  subst hw_2
  have hP : va_P N.1 vwCl [] H := hP
  have hD : va_D Ag [] := hD
  exact ck_zret (b := (ckIn x (nI 0) (nI 3))) hx hb hrt hlk () rfl hP hD hS ⟨Nat.le_of_ble_eq_true rfl, Nat.le_of_ble_eq_true rfl⟩ dX11_isSheet_6
set_option maxHeartbeats 4000000 in
set_option maxRecDepth 100000 in
/-- X11_finds -/
theorem c_X11_finds (l : Launch) (N : ckN) (mm : Nat) (an : Nat) (ak : Nat) (ab : Nat) (az : Nat) (as_ : Nat) (ae : Nat) (ao : Nat) (ar : Nat) (aw : Nat) (al : Nat) (am : Nat) (af : Nat) (ac : Nat) (ke : Nat) (kn : Nat) (fd : Int32) (mn : Nat) (v : Int32)  : ckI l yX11_finds cX11_finds 2 (some FieldType.int) { frames := 2, cells := 0, slots := 0, locals := 60 } N [.ref mm, .int v] [(mm, .inr (11, [.ref an, .ref ak, .int (nI ke), .int (nI kn), .int fd, .ref ab, .ref az, .ref as_, .ref ae, .ref ao, .ref ar, .ref aw, .ref al, .ref am, .int (nI mn), .ref af, .ref ac]))] (fun (r : Int32) (u : Unit) => r = v) (fun (u : Unit) => [(mm, .inr (11, [.ref an, .ref ak, .int (nI ke), .int (nI kn), .int (fd + nI 1), .ref ab, .ref az, .ref as_, .ref ae, .ref ao, .ref ar, .ref aw, .ref al, .ref am, .int (nI mn), .ref af, .ref ac]))]) := by
  refine ckI.of (by decide) (Nat.le_of_ble_eq_true rfl) ?_
  intro pg eg sg mg blw mth cg Ag ls hx hb hrt hml hown hlk hin hg hE hA hP hD hS hl
  have hown : sg.vm.findClass RX11 = some mg.cls := hown
  have hl : lv_has ls 2 [(0, .ref mm), (1, .int v)] := hl
  have C0 : ckC pg sg mg ([.ref mm, .int v]).toArray cg cX11_finds 2 RX11 N Ag := ⟨⟨hx, hb, hml, hown, hg⟩, hE, hA⟩
  generalize hHe : sg.heap = H at hP
  have hS : va_S Ag sg.heap H [] := hHe ▸ hS
  refine lv_aload_n hx hb dX11_finds_0 rfl (lv_at hl 0 rfl) ?_
  refine lv_dup hx hb dX11_finds_1 rfl ?_
  refine va_get (ci := 11) (v := .int fd) (C := RX11) (T := TX11) (N := 17) hx hb hg inX11 hown hE.1 hP 0 rfl rfl 4 (by decide) (hg _ k4_14) (fun _ h9 => h9) rfl dX11_finds_2 ?_
  refine lv_iconst (v := (nI 1)) hx hb dX11_finds_5 (by decide) ?_
  refine lv_iadd hx hb dX11_finds_6 ?_
  refine va_put (ci := 11) (v := .int (fd + (nI 1))) (C := RX11) (T := TX11) (N := 17) hx hb hg inX11 tyX11 tyX11_ok nmX11 hown hE.1 hP hD hS 0 rfl rfl 4 (by decide) (hg _ k4_14) (fun _ h9 => h9) rfl (tyX11_ok 4 (by decide)) rfl rfl (Nat.le_of_ble_eq_true rfl) dX11_finds_7 (fun H locs hP hD hS => ?_)
  have hP : va_P N.1 vwCl [(mm, .inr (11, [.ref an, .ref ak, .int (nI ke), .int (nI kn), .int (fd + (nI 1)), .ref ab, .ref az, .ref as_, .ref ae, .ref ao, .ref ar, .ref aw, .ref al, .ref am, .int (nI mn), .ref af, .ref ac]))] H := hP
  have hD : va_D Ag [(mm, .inr (11, [.ref an, .ref ak, .int (nI ke), .int (nI kn), .int (fd + (nI 1)), .ref ab, .ref az, .ref as_, .ref ae, .ref ao, .ref ar, .ref aw, .ref al, .ref am, .int (nI mn), .ref af, .ref ac]))] := hD
  refine lv_iload_n hx hb dX11_finds_10 rfl (lv_at hl 1 rfl) ?_
  exact ck_iret hx hb hrt hlk () rfl hP hD hS ⟨Nat.le_of_ble_eq_true rfl, Nat.le_of_ble_eq_true rfl⟩ dX11_finds_11
set_option maxHeartbeats 4000000 in
set_option maxRecDepth 100000 in
/-- X11_isFlyer -/
theorem c_X11_isFlyer (l : Launch) (N : ckN) (mm : Nat) (an : Nat) (ak : Nat) (ab : Nat) (az : Nat) (as_ : Nat) (ae : Nat) (ao : Nat) (ar : Nat) (aw : Nat) (al : Nat) (am : Nat) (af : Nat) (ac : Nat) (ke : Nat) (kn : Nat) (fd : Int32) (mn : Nat) (nw : Nat → Int32) (cf : Nat) (n : Nat) (wk : Int32) (tr : Nat → Int32) (di : Nat → Int32) (fo : Nat → Int32) (w : Nat → List Nat) (sdf : Nat → Int32) (wof : Nat → Int32) (shf : Nat → Int32) (twf : Nat → Int32) (x : Int32) (hV : mV nw cf n wk tr di fo w sdf wof shf twf) (hcf : cf ≤ 8) : ckI l yX11_isFlyer cX11_isFlyer 2 (some FieldType.boolean) { frames := 3, cells := 0, slots := 0, locals := 82 } N [.ref mm, .int x] [(mm, .inr (11, [.ref an, .ref ak, .int (nI ke), .int (nI kn), .int fd, .ref ab, .ref az, .ref as_, .ref ae, .ref ao, .ref ar, .ref aw, .ref al, .ref am, .int (nI mn), .ref af, .ref ac])), (an, .inl (N.2 0, 572, .inl nw))] (fun (r : Int32) (u : Unit) => r = (b2i (ckLt x cf))) (fun (u : Unit) => [(mm, .inr (11, [.ref an, .ref ak, .int (nI ke), .int (nI kn), .int fd, .ref ab, .ref az, .ref as_, .ref ae, .ref ao, .ref ar, .ref aw, .ref al, .ref am, .int (nI mn), .ref af, .ref ac])), (an, .inl (N.2 0, 572, .inl nw))]) := by
  refine ckI.of (by decide) (Nat.le_of_ble_eq_true rfl) ?_
  intro pg eg sg mg blw mth cg Ag ls hx hb hrt hml hown hlk hin hg hE hA hP hD hS hl
  have hown : sg.vm.findClass RX11 = some mg.cls := hown
  have hl : lv_has ls 2 [(0, .ref mm), (1, .int x)] := hl
  have C0 : ckC pg sg mg ([.ref mm, .int x]).toArray cg cX11_isFlyer 2 RX11 N Ag := ⟨⟨hx, hb, hml, hown, hg⟩, hE, hA⟩
  generalize hHe : sg.heap = H at hP
  have hS : va_S Ag sg.heap H [] := hHe ▸ hS
  refine lv_iload_n hx hb dX11_isFlyer_0 rfl (lv_at hl 1 rfl) ?_
  refine lv_iconst (v := (nI 0)) hx hb dX11_isFlyer_1 (by decide) ?_
  refine lv_aload_n hx hb dX11_isFlyer_2 rfl (lv_at hl 0 rfl) ?_
  refine va_get (ci := 11) (v := .ref an) (C := RX11) (T := TX11) (N := 17) hx hb hg inX11 hown hE.1 hP 0 rfl rfl 0 (by decide) (hg _ k4_10) (fun _ h9 => h9) rfl dX11_isFlyer_3 ?_
  refine lv_iconst (v := (nI 0)) hx hb dX11_isFlyer_6 (by decide) ?_
  refine ck_iald hx hb hE hP 1 rfl (by omega) (by decide) dX11_isFlyer_7 ?_
  refine ck_top (y := (nI cf)) hV.1 ?_
  refine lv_iconst (v := (nI 1)) hx hb dX11_isFlyer_8 (by decide) ?_
  refine lv_isub hx hb dX11_isFlyer_9 ?_
  refine ck_Si (As := [.int x, .int (nI 0), .int ((nI cf) - (nI 1))]) (rest := []) (wr := [(mm, .inr (11, [.ref an, .ref ak, .int (nI ke), .int (nI kn), .int fd, .ref ab, .ref az, .ref as_, .ref ae, .ref ao, .ref ar, .ref aw, .ref al, .ref am, .int (nI mn), .ref af, .ref ac])), (an, .inl (N.2 0, 572, .inl nw))]) C0 hP hD hS (c_X11_in l N x (nI 0) ((nI cf) - (nI 1)) ) myX11_in k4_75 ⟨Nat.le_of_ble_eq_true rfl, Nat.le_of_ble_eq_true rfl⟩ [] [0, 1] ⟨⟨rfl, rfl⟩, by decide, by decide, by decide⟩ rfl hl.1 rfl (Nat.le_of_ble_eq_true rfl) dX11_isFlyer_10 ⟨Nat.le_of_ble_eq_true rfl, Nat.le_of_ble_eq_true rfl⟩ (fun r_1 u0 H locs hw0 hP hD hS => ?_)
  have hw_2 : r_1 = (b2i (ckIn x (nI 0) ((nI cf) - (nI 1)))) := hw0
  subst hw_2
  have hP : va_P N.1 vwCl [(mm, .inr (11, [.ref an, .ref ak, .int (nI ke), .int (nI kn), .int fd, .ref ab, .ref az, .ref as_, .ref ae, .ref ao, .ref ar, .ref aw, .ref al, .ref am, .int (nI mn), .ref af, .ref ac])), (an, .inl (N.2 0, 572, .inl nw))] H := hP
  have hD : va_D Ag [(mm, .inr (11, [.ref an, .ref ak, .int (nI ke), .int (nI kn), .int fd, .ref ab, .ref az, .ref as_, .ref ae, .ref ao, .ref ar, .ref aw, .ref al, .ref am, .int (nI mn), .ref af, .ref ac])), (an, .inl (N.2 0, 572, .inl nw))] := hD
  exact ck_zret (b := (ckIn x (nI 0) ((nI cf) - (nI 1)))) hx hb hrt hlk () (by rw [ckIn_m1 (by omega)]) hP hD hS ⟨Nat.le_of_ble_eq_true rfl, Nat.le_of_ble_eq_true rfl⟩ dX11_isFlyer_13
set_option maxHeartbeats 4000000 in
set_option maxRecDepth 100000 in
/-- X11_isPlace -/
theorem c_X11_isPlace (l : Launch) (N : ckN) (mm : Nat) (an : Nat) (ak : Nat) (ab : Nat) (az : Nat) (as_ : Nat) (ae : Nat) (ao : Nat) (ar : Nat) (aw : Nat) (al : Nat) (am : Nat) (af : Nat) (ac : Nat) (ke : Nat) (kn : Nat) (fd : Int32) (mn : Nat) (nw : Nat → Int32) (cf : Nat) (n : Nat) (wk : Int32) (tr : Nat → Int32) (di : Nat → Int32) (fo : Nat → Int32) (w : Nat → List Nat) (sdf : Nat → Int32) (wof : Nat → Int32) (shf : Nat → Int32) (twf : Nat → Int32) (x : Int32) (hV : mV nw cf n wk tr di fo w sdf wof shf twf) (hn : n ≤ 5) : ckI l yX11_isPlace cX11_isPlace 2 (some FieldType.boolean) { frames := 3, cells := 0, slots := 0, locals := 82 } N [.ref mm, .int x] [(mm, .inr (11, [.ref an, .ref ak, .int (nI ke), .int (nI kn), .int fd, .ref ab, .ref az, .ref as_, .ref ae, .ref ao, .ref ar, .ref aw, .ref al, .ref am, .int (nI mn), .ref af, .ref ac])), (an, .inl (N.2 0, 572, .inl nw))] (fun (r : Int32) (u : Unit) => r = (b2i (ckLt x n))) (fun (u : Unit) => [(mm, .inr (11, [.ref an, .ref ak, .int (nI ke), .int (nI kn), .int fd, .ref ab, .ref az, .ref as_, .ref ae, .ref ao, .ref ar, .ref aw, .ref al, .ref am, .int (nI mn), .ref af, .ref ac])), (an, .inl (N.2 0, 572, .inl nw))]) := by
  refine ckI.of (by decide) (Nat.le_of_ble_eq_true rfl) ?_
  intro pg eg sg mg blw mth cg Ag ls hx hb hrt hml hown hlk hin hg hE hA hP hD hS hl
  have hown : sg.vm.findClass RX11 = some mg.cls := hown
  have hl : lv_has ls 2 [(0, .ref mm), (1, .int x)] := hl
  have C0 : ckC pg sg mg ([.ref mm, .int x]).toArray cg cX11_isPlace 2 RX11 N Ag := ⟨⟨hx, hb, hml, hown, hg⟩, hE, hA⟩
  generalize hHe : sg.heap = H at hP
  have hS : va_S Ag sg.heap H [] := hHe ▸ hS
  refine lv_iload_n hx hb dX11_isPlace_0 rfl (lv_at hl 1 rfl) ?_
  refine lv_iconst (v := (nI 0)) hx hb dX11_isPlace_1 (by decide) ?_
  refine lv_aload_n hx hb dX11_isPlace_2 rfl (lv_at hl 0 rfl) ?_
  refine va_get (ci := 11) (v := .ref an) (C := RX11) (T := TX11) (N := 17) hx hb hg inX11 hown hE.1 hP 0 rfl rfl 0 (by decide) (hg _ k4_10) (fun _ h9 => h9) rfl dX11_isPlace_3 ?_
  refine lv_iconst (v := (nI 1)) hx hb dX11_isPlace_6 (by decide) ?_
  refine ck_iald hx hb hE hP 1 rfl (by omega) (by decide) dX11_isPlace_7 ?_
  refine ck_top (y := (nI n)) hV.2.1 ?_
  refine lv_iconst (v := (nI 1)) hx hb dX11_isPlace_8 (by decide) ?_
  refine lv_isub hx hb dX11_isPlace_9 ?_
  refine ck_Si (As := [.int x, .int (nI 0), .int ((nI n) - (nI 1))]) (rest := []) (wr := [(mm, .inr (11, [.ref an, .ref ak, .int (nI ke), .int (nI kn), .int fd, .ref ab, .ref az, .ref as_, .ref ae, .ref ao, .ref ar, .ref aw, .ref al, .ref am, .int (nI mn), .ref af, .ref ac])), (an, .inl (N.2 0, 572, .inl nw))]) C0 hP hD hS (c_X11_in l N x (nI 0) ((nI n) - (nI 1)) ) myX11_in k4_75 ⟨Nat.le_of_ble_eq_true rfl, Nat.le_of_ble_eq_true rfl⟩ [] [0, 1] ⟨⟨rfl, rfl⟩, by decide, by decide, by decide⟩ rfl hl.1 rfl (Nat.le_of_ble_eq_true rfl) dX11_isPlace_10 ⟨Nat.le_of_ble_eq_true rfl, Nat.le_of_ble_eq_true rfl⟩ (fun r_1 u0 H locs hw0 hP hD hS => ?_)
  have hw_2 : r_1 = (b2i (ckIn x (nI 0) ((nI n) - (nI 1)))) := hw0
  subst hw_2
  have hP : va_P N.1 vwCl [(mm, .inr (11, [.ref an, .ref ak, .int (nI ke), .int (nI kn), .int fd, .ref ab, .ref az, .ref as_, .ref ae, .ref ao, .ref ar, .ref aw, .ref al, .ref am, .int (nI mn), .ref af, .ref ac])), (an, .inl (N.2 0, 572, .inl nw))] H := hP
  have hD : va_D Ag [(mm, .inr (11, [.ref an, .ref ak, .int (nI ke), .int (nI kn), .int fd, .ref ab, .ref az, .ref as_, .ref ae, .ref ao, .ref ar, .ref aw, .ref al, .ref am, .int (nI mn), .ref af, .ref ac])), (an, .inl (N.2 0, 572, .inl nw))] := hD
  exact ck_zret (b := (ckIn x (nI 0) ((nI n) - (nI 1)))) hx hb hrt hlk () (by rw [ckIn_m1 (by omega)]) hP hD hS ⟨Nat.le_of_ble_eq_true rfl, Nat.le_of_ble_eq_true rfl⟩ dX11_isPlace_13
set_option maxHeartbeats 4000000 in
set_option maxRecDepth 100000 in
/-- X11_ofFlyer -/
theorem c_X11_ofFlyer (l : Launch) (N : ckN) (mm : Nat) (an : Nat) (ak : Nat) (ab : Nat) (az : Nat) (as_ : Nat) (ae : Nat) (ao : Nat) (ar : Nat) (aw : Nat) (al : Nat) (am : Nat) (af : Nat) (ac : Nat) (ke : Nat) (kn : Nat) (fd : Int32) (mn : Nat) (nw : Nat → Int32) (cf : Nat) (n : Nat) (wk : Int32) (tr : Nat → Int32) (di : Nat → Int32) (fo : Nat → Int32) (w : Nat → List Nat) (sdf : Nat → Int32) (wof : Nat → Int32) (shf : Nat → Int32) (twf : Nat → Int32) (i : Nat) (k : Nat) (hV : mV nw cf n wk tr di fo w sdf wof shf twf) (hik : i * 8 + k < 64) : ckI l yX11_ofFlyer cX11_ofFlyer 3 (some FieldType.int) { frames := 2, cells := 0, slots := 0, locals := 60 } N [.ref mm, .int (nI i), .int (nI k)] [(mm, .inr (11, [.ref an, .ref ak, .int (nI ke), .int (nI kn), .int fd, .ref ab, .ref az, .ref as_, .ref ae, .ref ao, .ref ar, .ref aw, .ref al, .ref am, .int (nI mn), .ref af, .ref ac])), (an, .inl (N.2 0, 572, .inl nw))] (fun (r : Int32) (u : Unit) => r = (tr (i * 8 + k))) (fun (u : Unit) => [(mm, .inr (11, [.ref an, .ref ak, .int (nI ke), .int (nI kn), .int fd, .ref ab, .ref az, .ref as_, .ref ae, .ref ao, .ref ar, .ref aw, .ref al, .ref am, .int (nI mn), .ref af, .ref ac])), (an, .inl (N.2 0, 572, .inl nw))]) := by
  refine ckI.of (by decide) (Nat.le_of_ble_eq_true rfl) ?_
  intro pg eg sg mg blw mth cg Ag ls hx hb hrt hml hown hlk hin hg hE hA hP hD hS hl
  have hown : sg.vm.findClass RX11 = some mg.cls := hown
  have hl : lv_has ls 3 [(0, .ref mm), (1, .int (nI i)), (2, .int (nI k))] := hl
  have C0 : ckC pg sg mg ([.ref mm, .int (nI i), .int (nI k)]).toArray cg cX11_ofFlyer 3 RX11 N Ag := ⟨⟨hx, hb, hml, hown, hg⟩, hE, hA⟩
  generalize hHe : sg.heap = H at hP
  have hS : va_S Ag sg.heap H [] := hHe ▸ hS
  refine lv_aload_n hx hb dX11_ofFlyer_0 rfl (lv_at hl 0 rfl) ?_
  refine va_get (ci := 11) (v := .ref an) (C := RX11) (T := TX11) (N := 17) hx hb hg inX11 hown hE.1 hP 0 rfl rfl 0 (by decide) (hg _ k4_10) (fun _ h9 => h9) rfl dX11_ofFlyer_1 ?_
  refine lv_iconst (v := (nI 3)) hx hb dX11_ofFlyer_4 (by decide) ?_
  refine lv_bipush (v := (nI 8)) hx hb dX11_ofFlyer_5 (by decide) ?_
  refine lv_iload_n hx hb dX11_ofFlyer_7 rfl (lv_at hl 1 rfl) ?_
  refine lv_imul hx hb dX11_ofFlyer_8 ?_
  refine ck_top (y := (nI (8 * i))) (pk_mul _ _) ?_
  refine lv_iadd hx hb dX11_ofFlyer_9 ?_
  refine ck_top (y := (nI (3 + (8 * i)))) (nI_add _ _) ?_
  refine lv_iload_n hx hb dX11_ofFlyer_10 rfl (lv_at hl 2 rfl) ?_
  refine lv_iadd hx hb dX11_ofFlyer_11 ?_
  refine ck_top (y := (nI (3 + (8 * i) + k))) (nI_add _ _) ?_
  refine ck_iald hx hb hE hP 1 rfl (by omega) (by decide) dX11_ofFlyer_12 ?_
  exact ck_iret hx hb hrt hlk () ((congrArg nw (by omega)).trans (hV.2.2.2.1 (i * 8 + k) hik)) hP hD hS ⟨Nat.le_of_ble_eq_true rfl, Nat.le_of_ble_eq_true rfl⟩ dX11_ofFlyer_13
set_option maxHeartbeats 4000000 in
set_option maxRecDepth 100000 in
/-- X11_windOf -/
theorem c_X11_windOf (l : Launch) (N : ckN) (h : Nat) (mi : Nat)  : ckI l yX11_windOf cX11_windOf 2 (some FieldType.int) { frames := 2, cells := 0, slots := 0, locals := 60 } N [.int (nI h), .int (nI mi)] [] (fun (r : Int32) (u : Unit) => r = (nI (67 + 2 * (20 * h + mi)))) (fun (u : Unit) => []) := by
  refine ckI.of (by decide) (Nat.le_of_ble_eq_true rfl) ?_
  intro pg eg sg mg blw mth cg Ag ls hx hb hrt hml hown hlk hin hg hE hA hP hD hS hl
  have hown : sg.vm.findClass RX11 = some mg.cls := hown
  have hl : lv_has ls 2 [(0, .int (nI h)), (1, .int (nI mi))] := hl
  have C0 : ckC pg sg mg ([.int (nI h), .int (nI mi)]).toArray cg cX11_windOf 2 RX11 N Ag := ⟨⟨hx, hb, hml, hown, hg⟩, hE, hA⟩
  generalize hHe : sg.heap = H at hP
  have hS : va_S Ag sg.heap H [] := hHe ▸ hS
  refine lv_bipush (v := (nI 67)) hx hb dX11_windOf_0 (by decide) ?_
  refine lv_iconst (v := (nI 2)) hx hb dX11_windOf_2 (by decide) ?_
  refine lv_bipush (v := (nI 20)) hx hb dX11_windOf_3 (by decide) ?_
  refine lv_iload_n hx hb dX11_windOf_5 rfl (lv_at hl 0 rfl) ?_
  refine lv_imul hx hb dX11_windOf_6 ?_
  refine ck_top (y := (nI (20 * h))) (pk_mul _ _) ?_
  refine lv_iload_n hx hb dX11_windOf_7 rfl (lv_at hl 1 rfl) ?_
  refine lv_iadd hx hb dX11_windOf_8 ?_
  refine ck_top (y := (nI (20 * h + mi))) (nI_add _ _) ?_
  refine lv_imul hx hb dX11_windOf_9 ?_
  refine ck_top (y := (nI (2 * (20 * h + mi)))) (pk_mul _ _) ?_
  refine lv_iadd hx hb dX11_windOf_10 ?_
  refine ck_top (y := (nI (67 + (2 * (20 * h + mi))))) (nI_add _ _) ?_
  exact ck_iret hx hb hrt hlk () rfl hP hD hS ⟨Nat.le_of_ble_eq_true rfl, Nat.le_of_ble_eq_true rfl⟩ dX11_windOf_11
set_option maxHeartbeats 4000000 in
set_option maxRecDepth 100000 in
/-- X11_force -/
theorem c_X11_force (l : Launch) (N : ckN) (mm : Nat) (an : Nat) (ak : Nat) (ab : Nat) (az : Nat) (as_ : Nat) (ae : Nat) (ao : Nat) (ar : Nat) (aw : Nat) (al : Nat) (am : Nat) (af : Nat) (ac : Nat) (ke : Nat) (kn : Nat) (fd : Int32) (mn : Nat) (nw : Nat → Int32) (cf : Nat) (n : Nat) (wk : Int32) (tr : Nat → Int32) (di : Nat → Int32) (fo : Nat → Int32) (w : Nat → List Nat) (sdf : Nat → Int32) (wof : Nat → Int32) (shf : Nat → Int32) (twf : Nat → Int32) (h : Nat) (mi : Nat) (hV : mV nw cf n wk tr di fo w sdf wof shf twf) (hh : h * 20 + mi < 80) : ckI l yX11_force cX11_force 3 (some FieldType.int) { frames := 3, cells := 0, slots := 0, locals := 81 } N [.ref mm, .int (nI h), .int (nI mi)] [(mm, .inr (11, [.ref an, .ref ak, .int (nI ke), .int (nI kn), .int fd, .ref ab, .ref az, .ref as_, .ref ae, .ref ao, .ref ar, .ref aw, .ref al, .ref am, .int (nI mn), .ref af, .ref ac])), (an, .inl (N.2 0, 572, .inl nw))] (fun (r : Int32) (u : Unit) => r = (fo (h * 20 + mi))) (fun (u : Unit) => [(mm, .inr (11, [.ref an, .ref ak, .int (nI ke), .int (nI kn), .int fd, .ref ab, .ref az, .ref as_, .ref ae, .ref ao, .ref ar, .ref aw, .ref al, .ref am, .int (nI mn), .ref af, .ref ac])), (an, .inl (N.2 0, 572, .inl nw))]) := by
  refine ckI.of (by decide) (Nat.le_of_ble_eq_true rfl) ?_
  intro pg eg sg mg blw mth cg Ag ls hx hb hrt hml hown hlk hin hg hE hA hP hD hS hl
  have hown : sg.vm.findClass RX11 = some mg.cls := hown
  have hl : lv_has ls 3 [(0, .ref mm), (1, .int (nI h)), (2, .int (nI mi))] := hl
  have C0 : ckC pg sg mg ([.ref mm, .int (nI h), .int (nI mi)]).toArray cg cX11_force 3 RX11 N Ag := ⟨⟨hx, hb, hml, hown, hg⟩, hE, hA⟩
  generalize hHe : sg.heap = H at hP
  have hS : va_S Ag sg.heap H [] := hHe ▸ hS
  refine lv_aload_n hx hb dX11_force_0 rfl (lv_at hl 0 rfl) ?_
  refine va_get (ci := 11) (v := .ref an) (C := RX11) (T := TX11) (N := 17) hx hb hg inX11 hown hE.1 hP 0 rfl rfl 0 (by decide) (hg _ k4_10) (fun _ h9 => h9) rfl dX11_force_1 ?_
  refine lv_iload_n hx hb dX11_force_4 rfl (lv_at hl 1 rfl) ?_
  refine lv_iload_n hx hb dX11_force_5 rfl (lv_at hl 2 rfl) ?_
  refine ck_Si (As := [.int (nI h), .int (nI mi)]) (rest := [.ref an]) (wr := [(mm, .inr (11, [.ref an, .ref ak, .int (nI ke), .int (nI kn), .int fd, .ref ab, .ref az, .ref as_, .ref ae, .ref ao, .ref ar, .ref aw, .ref al, .ref am, .int (nI mn), .ref af, .ref ac])), (an, .inl (N.2 0, 572, .inl nw))]) C0 hP hD hS (c_X11_windOf l N h mi ) myX11_windOf k4_120 ⟨Nat.le_of_ble_eq_true rfl, Nat.le_of_ble_eq_true rfl⟩ [] [0, 1] ⟨⟨rfl, rfl⟩, by decide, by decide, by decide⟩ rfl hl.1 rfl (Nat.le_of_ble_eq_true rfl) dX11_force_6 ⟨Nat.le_of_ble_eq_true rfl, Nat.le_of_ble_eq_true rfl⟩ (fun r_1 u0 H locs hw0 hP hD hS => ?_)
  have hw_2 : r_1 = (nI (67 + 2 * (20 * h + mi))) := hw0
  subst hw_2
  have hP : va_P N.1 vwCl [(mm, .inr (11, [.ref an, .ref ak, .int (nI ke), .int (nI kn), .int fd, .ref ab, .ref az, .ref as_, .ref ae, .ref ao, .ref ar, .ref aw, .ref al, .ref am, .int (nI mn), .ref af, .ref ac])), (an, .inl (N.2 0, 572, .inl nw))] H := hP
  have hD : va_D Ag [(mm, .inr (11, [.ref an, .ref ak, .int (nI ke), .int (nI kn), .int fd, .ref ab, .ref az, .ref as_, .ref ae, .ref ao, .ref ar, .ref aw, .ref al, .ref am, .int (nI mn), .ref af, .ref ac])), (an, .inl (N.2 0, 572, .inl nw))] := hD
  refine lv_iconst (v := (nI 1)) hx hb dX11_force_9 (by decide) ?_
  refine lv_iadd hx hb dX11_force_10 ?_
  refine ck_top (y := (nI (67 + 2 * (20 * h + mi) + 1))) (nI_add _ _) ?_
  refine ck_iald hx hb hE hP 1 rfl (by omega) (by decide) dX11_force_11 ?_
  exact ck_iret hx hb hrt hlk () ((congrArg nw (by omega)).trans (hV.2.2.2.2.2.1 (h * 20 + mi) hh)) hP hD hS ⟨Nat.le_of_ble_eq_true rfl, Nat.le_of_ble_eq_true rfl⟩ dX11_force_12
set_option maxHeartbeats 4000000 in
set_option maxRecDepth 100000 in
/-- X11_isLost -/
theorem c_X11_isLost (l : Launch) (N : ckN) (mm : Nat) (an : Nat) (ak : Nat) (ab : Nat) (az : Nat) (as_ : Nat) (ae : Nat) (ao : Nat) (ar : Nat) (aw : Nat) (al : Nat) (am : Nat) (af : Nat) (ac : Nat) (ke : Nat) (kn : Nat) (fd : Int32) (mn : Nat) (nw : Nat → Int32) (cf : Nat) (n : Nat) (wk : Int32) (tr : Nat → Int32) (di : Nat → Int32) (fo : Nat → Int32) (w : Nat → List Nat) (sdf : Nat → Int32) (wof : Nat → Int32) (shf : Nat → Int32) (twf : Nat → Int32) (f : Nat) (hV : mV nw cf n wk tr di fo w sdf wof shf twf) (hf : f < 5) : ckI l yX11_isLost cX11_isLost 2 (some FieldType.boolean) { frames := 2, cells := 0, slots := 0, locals := 60 } N [.ref mm, .int (nI f)] [(mm, .inr (11, [.ref an, .ref ak, .int (nI ke), .int (nI kn), .int fd, .ref ab, .ref az, .ref as_, .ref ae, .ref ao, .ref ar, .ref aw, .ref al, .ref am, .int (nI mn), .ref af, .ref ac])), (an, .inl (N.2 0, 572, .inl nw))] (fun (r : Int32) (u : Unit) => r = (b2i (decide (nI 20 ≤ wof f)))) (fun (u : Unit) => [(mm, .inr (11, [.ref an, .ref ak, .int (nI ke), .int (nI kn), .int fd, .ref ab, .ref az, .ref as_, .ref ae, .ref ao, .ref ar, .ref aw, .ref al, .ref am, .int (nI mn), .ref af, .ref ac])), (an, .inl (N.2 0, 572, .inl nw))]) := by
  refine ckI.of (by decide) (Nat.le_of_ble_eq_true rfl) ?_
  intro pg eg sg mg blw mth cg Ag ls hx hb hrt hml hown hlk hin hg hE hA hP hD hS hl
  have hown : sg.vm.findClass RX11 = some mg.cls := hown
  have hl : lv_has ls 2 [(0, .ref mm), (1, .int (nI f))] := hl
  have C0 : ckC pg sg mg ([.ref mm, .int (nI f)]).toArray cg cX11_isLost 2 RX11 N Ag := ⟨⟨hx, hb, hml, hown, hg⟩, hE, hA⟩
  generalize hHe : sg.heap = H at hP
  have hS : va_S Ag sg.heap H [] := hHe ▸ hS
  refine lv_aload_n hx hb dX11_isLost_0 rfl (lv_at hl 0 rfl) ?_
  refine va_get (ci := 11) (v := .ref an) (C := RX11) (T := TX11) (N := 17) hx hb hg inX11 hown hE.1 hP 0 rfl rfl 0 (by decide) (hg _ k4_10) (fun _ h9 => h9) rfl dX11_isLost_1 ?_
  refine lv_sipush (v := (nI 237)) hx hb dX11_isLost_4 (by decide) ?_
  refine lv_iload_n hx hb dX11_isLost_7 rfl (lv_at hl 1 rfl) ?_
  refine lv_iadd hx hb dX11_isLost_8 ?_
  refine ck_top (y := (nI (237 + f))) (nI_add _ _) ?_
  refine ck_iald hx hb hE hP 1 rfl (by omega) (by decide) dX11_isLost_9 ?_
  refine lv_bipush (v := (nI 20)) hx hb dX11_isLost_10 (by decide) ?_
  refine lv_icmp_lt (tgt := 19) hx hb dX11_isLost_12 (by decide) (fun cz_1 => ?_) (fun cz_1 => ?_)
  · refine lv_iconst (v := (nI 0)) hx hb dX11_isLost_19 (by decide) ?_
    refine ck_top (y := (b2i false)) (by decide) ?_
    exact ck_zret (b := false) hx hb hrt hlk () (congrArg b2i (Eq.symm (by rw [hV.2.2.2.2.2.2.2.1 f hf] at cz_1; exact decide_eq_false (Int32.not_le.mpr cz_1)))) hP hD hS ⟨Nat.le_of_ble_eq_true rfl, Nat.le_of_ble_eq_true rfl⟩ dX11_isLost_20
  refine lv_iconst (v := (nI 1)) hx hb dX11_isLost_15 (by decide) ?_
  refine lv_goto (tgt := 20) hx hb dX11_isLost_16 (by decide) ?_
  refine ck_top (y := (b2i true)) (by decide) ?_
  exact ck_zret (b := true) hx hb hrt hlk () (congrArg b2i (Eq.symm (by rw [hV.2.2.2.2.2.2.2.1 f hf] at cz_1; exact decide_eq_true (Int32.not_lt.mp cz_1)))) hP hD hS ⟨Nat.le_of_ble_eq_true rfl, Nat.le_of_ble_eq_true rfl⟩ dX11_isLost_20
set_option maxHeartbeats 4000000 in
set_option maxRecDepth 100000 in
/-- X11_wears -/
theorem c_X11_wears (l : Launch) (N : ckN) (mm : Nat) (an : Nat) (ak : Nat) (ab : Nat) (az : Nat) (as_ : Nat) (ae : Nat) (ao : Nat) (ar : Nat) (aw : Nat) (al : Nat) (am : Nat) (af : Nat) (ac : Nat) (ke : Nat) (kn : Nat) (fd : Int32) (mn : Nat) (nw : Nat → Int32) (cf : Nat) (n : Nat) (wk : Int32) (tr : Nat → Int32) (di : Nat → Int32) (fo : Nat → Int32) (w : Nat → List Nat) (sdf : Nat → Int32) (wof : Nat → Int32) (shf : Nat → Int32) (twf : Nat → Int32) (f : Nat) (hV : mV nw cf n wk tr di fo w sdf wof shf twf) (hf : f < 5) (hcf : cf ≤ 8) : ckI l yX11_wears cX11_wears 2 (some FieldType.int) { frames := 4, cells := 0, slots := 0, locals := 103 } N [.ref mm, .int (nI f)] [(mm, .inr (11, [.ref an, .ref ak, .int (nI ke), .int (nI kn), .int fd, .ref ab, .ref az, .ref as_, .ref ae, .ref ao, .ref ar, .ref aw, .ref al, .ref am, .int (nI mn), .ref af, .ref ac])), (an, .inl (N.2 0, 572, .inl nw))] (fun (r : Int32) (u : Unit) => r = (ckBite tr cf shf f)) (fun (u : Unit) => [(mm, .inr (11, [.ref an, .ref ak, .int (nI ke), .int (nI kn), .int fd, .ref ab, .ref az, .ref as_, .ref ae, .ref ao, .ref ar, .ref aw, .ref al, .ref am, .int (nI mn), .ref af, .ref ac])), (an, .inl (N.2 0, 572, .inl nw))]) := by
  refine ckI.of (by decide) (Nat.le_of_ble_eq_true rfl) ?_
  intro pg eg sg mg blw mth cg Ag ls hx hb hrt hml hown hlk hin hg hE hA hP hD hS hl
  have hown : sg.vm.findClass RX11 = some mg.cls := hown
  have hl : lv_has ls 2 [(0, .ref mm), (1, .int (nI f))] := hl
  have C0 : ckC pg sg mg ([.ref mm, .int (nI f)]).toArray cg cX11_wears 2 RX11 N Ag := ⟨⟨hx, hb, hml, hown, hg⟩, hE, hA⟩
  generalize hHe : sg.heap = H at hP
  have hS : va_S Ag sg.heap H [] := hHe ▸ hS
  refine lv_aload_n hx hb dX11_wears_0 rfl (lv_at hl 0 rfl) ?_
  refine lv_iload_n hx hb dX11_wears_1 rfl (lv_at hl 1 rfl) ?_
  refine ck_Vi (As := [.int (nI f)]) (rest := []) (wr := []) C0 hP hD hS (c_X11_isFlyer l N mm an ak ab az as_ ae ao ar aw al am af ac ke kn fd mn nw cf n wk tr di fo w sdf wof shf twf (nI f) hV (by omega)) myX11_isFlyer k4_92 ⟨Nat.le_of_ble_eq_true rfl, Nat.le_of_ble_eq_true rfl⟩ [0, 1] [] ⟨⟨rfl, rfl⟩, by decide, by decide, by decide⟩ 0 rfl rfl rfl rfl hl.1 rfl (Nat.le_of_ble_eq_true rfl) dX11_wears_2 ⟨Nat.le_of_ble_eq_true rfl, Nat.le_of_ble_eq_true rfl⟩ (fun r_1 u0 H locs hw0 hP hD hS => ?_)
  have hw_2 : r_1 = (b2i (ckLt (nI f) cf)) := hw0
  subst hw_2
  have hP : va_P N.1 vwCl [(mm, .inr (11, [.ref an, .ref ak, .int (nI ke), .int (nI kn), .int fd, .ref ab, .ref az, .ref as_, .ref ae, .ref ao, .ref ar, .ref aw, .ref al, .ref am, .int (nI mn), .ref af, .ref ac])), (an, .inl (N.2 0, 572, .inl nw))] H := hP
  have hD : va_D Ag [(mm, .inr (11, [.ref an, .ref ak, .int (nI ke), .int (nI kn), .int fd, .ref ab, .ref az, .ref as_, .ref ae, .ref ao, .ref ar, .ref aw, .ref al, .ref am, .int (nI mn), .ref af, .ref ac])), (an, .inl (N.2 0, 572, .inl nw))] := hD
  refine ck_ifeq (b := ckLt (nI f) cf) (tgt := 33) hx hb dX11_wears_5 (by decide) (fun cz_3 => ?_) (fun cz_3 => ?_)
  · refine lv_aload_n hx hb dX11_wears_33 rfl (lv_at hl 0 rfl) ?_
    refine va_get (ci := 11) (v := .ref an) (C := RX11) (T := TX11) (N := 17) hx hb hg inX11 hown hE.1 hP 0 rfl rfl 0 (by decide) (hg _ k4_10) (fun _ h9 => h9) rfl dX11_wears_34 ?_
    refine lv_sipush (v := (nI 242)) hx hb dX11_wears_37 (by decide) ?_
    refine lv_iload_n hx hb dX11_wears_40 rfl (lv_at hl 1 rfl) ?_
    refine lv_iadd hx hb dX11_wears_41 ?_
    refine ck_top (y := (nI (242 + f))) (nI_add _ _) ?_
    refine ck_iald hx hb hE hP 1 rfl (by omega) (by decide) dX11_wears_42 ?_
    refine ck_top (y := (shf f)) (hV.2.2.2.2.2.2.2.2.1 f hf) ?_
    exact ck_iret hx hb hrt hlk () (by rw [ckLt_nI (by omega)] at cz_3; rw [ckBite, if_neg (by rw [cz_3]; simp)]) hP hD hS ⟨Nat.le_of_ble_eq_true rfl, Nat.le_of_ble_eq_true rfl⟩ dX11_wears_43
  refine lv_aload_n hx hb dX11_wears_8 rfl (lv_at hl 0 rfl) ?_
  refine lv_iload_n hx hb dX11_wears_9 rfl (lv_at hl 1 rfl) ?_
  refine lv_iconst (v := (nI 0)) hx hb dX11_wears_10 (by decide) ?_
  refine ck_Vi (As := [.int (nI f), .int (nI 0)]) (rest := []) (wr := []) C0 hP hD hS (c_X11_ofFlyer l N mm an ak ab az as_ ae ao ar aw al am af ac ke kn fd mn nw cf n wk tr di fo w sdf wof shf twf f 0 hV (by omega)) myX11_ofFlyer k4_96 ⟨Nat.le_of_ble_eq_true rfl, Nat.le_of_ble_eq_true rfl⟩ [0, 1] [] ⟨⟨rfl, rfl⟩, by decide, by decide, by decide⟩ 0 rfl rfl rfl rfl hl.1 rfl (Nat.le_of_ble_eq_true rfl) dX11_wears_11 ⟨Nat.le_of_ble_eq_true rfl, Nat.le_of_ble_eq_true rfl⟩ (fun r_4 u0 H locs hw0 hP hD hS => ?_)
  have hw_5 : r_4 = (tr (f * 8 + 0)) := hw0
  subst hw_5
  have hP : va_P N.1 vwCl [(mm, .inr (11, [.ref an, .ref ak, .int (nI ke), .int (nI kn), .int fd, .ref ab, .ref az, .ref as_, .ref ae, .ref ao, .ref ar, .ref aw, .ref al, .ref am, .int (nI mn), .ref af, .ref ac])), (an, .inl (N.2 0, 572, .inl nw))] H := hP
  have hD : va_D Ag [(mm, .inr (11, [.ref an, .ref ak, .int (nI ke), .int (nI kn), .int fd, .ref ab, .ref az, .ref as_, .ref ae, .ref ao, .ref ar, .ref aw, .ref al, .ref am, .int (nI mn), .ref af, .ref ac])), (an, .inl (N.2 0, 572, .inl nw))] := hD
  refine lv_iconst (v := (nI 3)) hx hb dX11_wears_14 (by decide) ?_
  refine lv_icmp_ne (tgt := 33) hx hb dX11_wears_15 (by decide) (fun cz_6 => ?_) (fun cz_6 => ?_)
  · refine lv_aload_n hx hb dX11_wears_33 rfl (lv_at hl 0 rfl) ?_
    refine va_get (ci := 11) (v := .ref an) (C := RX11) (T := TX11) (N := 17) hx hb hg inX11 hown hE.1 hP 0 rfl rfl 0 (by decide) (hg _ k4_10) (fun _ h9 => h9) rfl dX11_wears_34 ?_
    refine lv_sipush (v := (nI 242)) hx hb dX11_wears_37 (by decide) ?_
    refine lv_iload_n hx hb dX11_wears_40 rfl (lv_at hl 1 rfl) ?_
    refine lv_iadd hx hb dX11_wears_41 ?_
    refine ck_top (y := (nI (242 + f))) (nI_add _ _) ?_
    refine ck_iald hx hb hE hP 1 rfl (by omega) (by decide) dX11_wears_42 ?_
    refine ck_top (y := (shf f)) (hV.2.2.2.2.2.2.2.2.1 f hf) ?_
    exact ck_iret hx hb hrt hlk () (by rw [ckLt_nI (by omega)] at cz_3; rw [ckBite, if_neg (by rw [cz_3, decide_eq_false cz_6]; simp)]) hP hD hS ⟨Nat.le_of_ble_eq_true rfl, Nat.le_of_ble_eq_true rfl⟩ dX11_wears_43
  refine lv_iconst (v := (nI 2)) hx hb dX11_wears_18 (by decide) ?_
  refine lv_aload_n hx hb dX11_wears_19 rfl (lv_at hl 0 rfl) ?_
  refine va_get (ci := 11) (v := .ref an) (C := RX11) (T := TX11) (N := 17) hx hb hg inX11 hown hE.1 hP 0 rfl rfl 0 (by decide) (hg _ k4_10) (fun _ h9 => h9) rfl dX11_wears_20 ?_
  refine lv_sipush (v := (nI 242)) hx hb dX11_wears_23 (by decide) ?_
  refine lv_iload_n hx hb dX11_wears_26 rfl (lv_at hl 1 rfl) ?_
  refine lv_iadd hx hb dX11_wears_27 ?_
  refine ck_top (y := (nI (242 + f))) (nI_add _ _) ?_
  refine ck_iald hx hb hE hP 1 rfl (by omega) (by decide) dX11_wears_28 ?_
  refine ck_top (y := (shf f)) (hV.2.2.2.2.2.2.2.2.1 f hf) ?_
  refine lv_imul hx hb dX11_wears_29 ?_
  refine lv_goto (tgt := 43) hx hb dX11_wears_30 (by decide) ?_
  exact ck_iret hx hb hrt hlk () (by rw [ckLt_nI (by omega)] at cz_3; rw [ckBite, if_pos (by rw [cz_3, decide_eq_true cz_6]; rfl)]) hP hD hS ⟨Nat.le_of_ble_eq_true rfl, Nat.le_of_ble_eq_true rfl⟩ dX11_wears_43
set_option maxHeartbeats 4000000 in
set_option maxRecDepth 100000 in
/-- X11_keep -/
theorem c_X11_keep (l : Launch) (N : ckN) (mm : Nat) (an : Nat) (ak : Nat) (ab : Nat) (az : Nat) (as_ : Nat) (ae : Nat) (ao : Nat) (ar : Nat) (aw : Nat) (al : Nat) (am : Nat) (af : Nat) (ac : Nat) (ke : Nat) (kn : Nat) (fd : Int32) (mn : Nat) (nw : Nat → Int32) (kp : Nat → Int32) (hke : ke < 20) (hkn : kn ≤ 20) : ckV l yX11_keep cX11_keep 2 none { frames := 2, cells := 0, slots := 0, locals := 60 } N [.ref mm] [(mm, .inr (11, [.ref an, .ref ak, .int (nI ke), .int (nI kn), .int fd, .ref ab, .ref az, .ref as_, .ref ae, .ref ao, .ref ar, .ref aw, .ref al, .ref am, .int (nI mn), .ref af, .ref ac])), (an, .inl (N.2 0, 572, .inl nw)), (ak, .inl (N.2 0, 11440, .inl kp))] (fun (u : Unit) => True) (fun (u : Unit) => [(mm, .inr (11, [.ref an, .ref ak, .int (nI ((ke + 1) % 20)), .int (nI (min (kn + 1) 20)), .int fd, .ref ab, .ref az, .ref as_, .ref ae, .ref ao, .ref ar, .ref aw, .ref al, .ref am, .int (nI mn), .ref af, .ref ac])), (an, .inl (N.2 0, 572, .inl nw)), (ak, .inl (N.2 0, 11440, .inl (guT kp (572 * ke) nw 572)))]) := by
  refine ckV.of (by decide) (Nat.le_of_ble_eq_true rfl) ?_
  intro pg eg sg mg blw mth cg Ag ls hx hb hrt hml hown hlk hin hg hE hA hP hD hS hl
  have hown : sg.vm.findClass RX11 = some mg.cls := hown
  have hl : lv_has ls 2 [(0, .ref mm)] := hl
  have C0 : ckC pg sg mg ([.ref mm]).toArray cg cX11_keep 2 RX11 N Ag := ⟨⟨hx, hb, hml, hown, hg⟩, hE, hA⟩
  generalize hHe : sg.heap = H at hP
  have hS : va_S Ag sg.heap H [] := hHe ▸ hS
  refine lv_iconst (v := (nI 0)) hx hb dX11_keep_0 (by decide) ?_
  refine lv_istore_n (lv' := [(1, .int (nI 0)), (0, .ref mm)]) hx hb dX11_keep_1 rfl hl (by decide) rfl (fun ls hl => ?_)
  have lp_2 : ∀ (dz : Nat) (k : Nat) (kp1 : Nat → Int32) (hdz : 572 - k = dz) (hk : k ≤ 572) (hkp : kp1 = guT kp (572 * ke) nw k) (H : Heap) (locs : List Loc) (ls : Array Slot), va_P N.1 vwCl [(mm, .inr (11, [.ref an, .ref ak, .int (nI ke), .int (nI kn), .int fd, .ref ab, .ref az, .ref as_, .ref ae, .ref ao, .ref ar, .ref aw, .ref al, .ref am, .int (nI mn), .ref af, .ref ac])), (an, .inl (N.2 0, 572, .inl nw)), (ak, .inl (N.2 0, 11440, .inl kp1))] H → va_D Ag [(mm, .inr (11, [.ref an, .ref ak, .int (nI ke), .int (nI kn), .int fd, .ref ab, .ref az, .ref as_, .ref ae, .ref ao, .ref ar, .ref aw, .ref al, .ref am, .int (nI mn), .ref af, .ref ac])), (an, .inl (N.2 0, 572, .inl nw)), (ak, .inl (N.2 0, 11440, .inl kp1))] → va_S Ag sg.heap H locs → lv_has ls 2 [(1, .int (nI k)), (0, .ref mm)] → W pg l eg { frames := 2, cells := 0, slots := 0, locals := 60 } sg mg ([.ref mm]).toArray blw mth cg H locs 0 0 (ckQv N Ag blw sg ([.ref mm]).toArray { frames := 2, cells := 0, slots := 0, locals := 60 } (fun (u : Unit) => True) (fun (u : Unit) => [(mm, .inr (11, [.ref an, .ref ak, .int (nI ((ke + 1) % 20)), .int (nI (min (kn + 1) 20)), .int fd, .ref ab, .ref az, .ref as_, .ref ae, .ref ao, .ref ar, .ref aw, .ref al, .ref am, .int (nI mn), .ref af, .ref ac])), (an, .inl (N.2 0, 572, .inl nw)), (ak, .inl (N.2 0, 11440, .inl (guT kp (572 * ke) nw 572)))])) (F0 mg 2 ls []) := by
    intro dz
    induction dz using Nat.strongRecOn with
    | _ dz ih_2 =>
      intro k kp1 hdz hk hkp H locs ls hP hD hS hl
      subst hdz
      refine lv_iload_n hx hb dX11_keep_2 rfl (lv_at hl 0 rfl) ?_
      refine lv_sipush (v := (nI 572)) hx hb dX11_keep_3 (by decide) ?_
      refine ck_ic_ge (tgt := 36) hx hb dX11_keep_6 (by decide) (by omega) (by omega) (fun cz_1 => ?_) (fun cz_1 => ?_)
      · have hkp2 : kp1 = guT kp (572 * ke) nw 572 := by rw [hkp, (show k = 572 by omega)]
        subst hkp2
        refine lv_aload_n hx hb dX11_keep_36 rfl (lv_at hl 1 rfl) ?_
        refine lv_aload_n hx hb dX11_keep_37 rfl (lv_at hl 1 rfl) ?_
        refine va_get (ci := 11) (v := .int (nI ke)) (C := RX11) (T := TX11) (N := 17) hx hb hg inX11 hown hE.1 hP 0 rfl rfl 2 (by decide) (hg _ k4_12) (fun _ h9 => h9) rfl dX11_keep_38 ?_
        refine lv_iconst (v := (nI 1)) hx hb dX11_keep_41 (by decide) ?_
        refine lv_iadd hx hb dX11_keep_42 ?_
        refine ck_top (y := (nI (ke + 1))) (nI_add _ _) ?_
        refine lv_bipush (v := (nI 20)) hx hb dX11_keep_43 (by decide) ?_
        refine lv_irem hx hb dX11_keep_45 (by decide) ?_
        refine ck_top (y := (nI ((ke + 1) % 20))) (pk_rem (by omega) (by omega) (by omega)) ?_
        refine va_put (ci := 11) (v := .int (nI ((ke + 1) % 20))) (C := RX11) (T := TX11) (N := 17) hx hb hg inX11 tyX11 tyX11_ok nmX11 hown hE.1 hP hD hS 0 rfl rfl 2 (by decide) (hg _ k4_12) (fun _ h9 => h9) rfl (tyX11_ok 2 (by decide)) rfl rfl (Nat.le_of_ble_eq_true rfl) dX11_keep_46 (fun H locs hP hD hS => ?_)
        have hP : va_P N.1 vwCl [(mm, .inr (11, [.ref an, .ref ak, .int (nI ((ke + 1) % 20)), .int (nI kn), .int fd, .ref ab, .ref az, .ref as_, .ref ae, .ref ao, .ref ar, .ref aw, .ref al, .ref am, .int (nI mn), .ref af, .ref ac])), (an, .inl (N.2 0, 572, .inl nw)), (ak, .inl (N.2 0, 11440, .inl (guT kp (572 * ke) nw 572)))] H := hP
        have hD : va_D Ag [(mm, .inr (11, [.ref an, .ref ak, .int (nI ((ke + 1) % 20)), .int (nI kn), .int fd, .ref ab, .ref az, .ref as_, .ref ae, .ref ao, .ref ar, .ref aw, .ref al, .ref am, .int (nI mn), .ref af, .ref ac])), (an, .inl (N.2 0, 572, .inl nw)), (ak, .inl (N.2 0, 11440, .inl (guT kp (572 * ke) nw 572)))] := hD
        refine lv_aload_n hx hb dX11_keep_49 rfl (lv_at hl 1 rfl) ?_
        refine lv_aload_n hx hb dX11_keep_50 rfl (lv_at hl 1 rfl) ?_
        refine va_get (ci := 11) (v := .int (nI kn)) (C := RX11) (T := TX11) (N := 17) hx hb hg inX11 hown hE.1 hP 0 rfl rfl 3 (by decide) (hg _ k4_13) (fun _ h9 => h9) rfl dX11_keep_51 ?_
        refine lv_bipush (v := (nI 20)) hx hb dX11_keep_54 (by decide) ?_
        refine ck_ic_ge (tgt := 68) hx hb dX11_keep_56 (by decide) (by omega) (by omega) (fun cz_2 => ?_) (fun cz_2 => ?_)
        · refine lv_bipush (v := (nI 20)) hx hb dX11_keep_68 (by decide) ?_
          refine ck_top (y := (nI (min (kn + 1) 20))) (congrArg nI (by omega)) ?_
          refine va_put (ci := 11) (v := .int (nI (min (kn + 1) 20))) (C := RX11) (T := TX11) (N := 17) hx hb hg inX11 tyX11 tyX11_ok nmX11 hown hE.1 hP hD hS 0 rfl rfl 3 (by decide) (hg _ k4_13) (fun _ h9 => h9) rfl (tyX11_ok 3 (by decide)) rfl rfl (Nat.le_of_ble_eq_true rfl) dX11_keep_70 (fun H locs hP hD hS => ?_)
          have hP : va_P N.1 vwCl [(mm, .inr (11, [.ref an, .ref ak, .int (nI ((ke + 1) % 20)), .int (nI (min (kn + 1) 20)), .int fd, .ref ab, .ref az, .ref as_, .ref ae, .ref ao, .ref ar, .ref aw, .ref al, .ref am, .int (nI mn), .ref af, .ref ac])), (an, .inl (N.2 0, 572, .inl nw)), (ak, .inl (N.2 0, 11440, .inl (guT kp (572 * ke) nw 572)))] H := hP
          have hD : va_D Ag [(mm, .inr (11, [.ref an, .ref ak, .int (nI ((ke + 1) % 20)), .int (nI (min (kn + 1) 20)), .int fd, .ref ab, .ref az, .ref as_, .ref ae, .ref ao, .ref ar, .ref aw, .ref al, .ref am, .int (nI mn), .ref af, .ref ac])), (an, .inl (N.2 0, 572, .inl nw)), (ak, .inl (N.2 0, 11440, .inl (guT kp (572 * ke) nw 572)))] := hD
          exact ck_vret hx hb hrt hlk () trivial hP hD hS ⟨Nat.le_of_ble_eq_true rfl, Nat.le_of_ble_eq_true rfl⟩ dX11_keep_73
        refine lv_aload_n hx hb dX11_keep_59 rfl (lv_at hl 1 rfl) ?_
        refine va_get (ci := 11) (v := .int (nI kn)) (C := RX11) (T := TX11) (N := 17) hx hb hg inX11 hown hE.1 hP 0 rfl rfl 3 (by decide) (hg _ k4_13) (fun _ h9 => h9) rfl dX11_keep_60 ?_
        refine lv_iconst (v := (nI 1)) hx hb dX11_keep_63 (by decide) ?_
        refine lv_iadd hx hb dX11_keep_64 ?_
        refine ck_top (y := (nI (kn + 1))) (nI_add _ _) ?_
        refine lv_goto (tgt := 70) hx hb dX11_keep_65 (by decide) ?_
        refine ck_top (y := (nI (min (kn + 1) 20))) (congrArg nI (by omega)) ?_
        refine va_put (ci := 11) (v := .int (nI (min (kn + 1) 20))) (C := RX11) (T := TX11) (N := 17) hx hb hg inX11 tyX11 tyX11_ok nmX11 hown hE.1 hP hD hS 0 rfl rfl 3 (by decide) (hg _ k4_13) (fun _ h9 => h9) rfl (tyX11_ok 3 (by decide)) rfl rfl (Nat.le_of_ble_eq_true rfl) dX11_keep_70 (fun H locs hP hD hS => ?_)
        have hP : va_P N.1 vwCl [(mm, .inr (11, [.ref an, .ref ak, .int (nI ((ke + 1) % 20)), .int (nI (min (kn + 1) 20)), .int fd, .ref ab, .ref az, .ref as_, .ref ae, .ref ao, .ref ar, .ref aw, .ref al, .ref am, .int (nI mn), .ref af, .ref ac])), (an, .inl (N.2 0, 572, .inl nw)), (ak, .inl (N.2 0, 11440, .inl (guT kp (572 * ke) nw 572)))] H := hP
        have hD : va_D Ag [(mm, .inr (11, [.ref an, .ref ak, .int (nI ((ke + 1) % 20)), .int (nI (min (kn + 1) 20)), .int fd, .ref ab, .ref az, .ref as_, .ref ae, .ref ao, .ref ar, .ref aw, .ref al, .ref am, .int (nI mn), .ref af, .ref ac])), (an, .inl (N.2 0, 572, .inl nw)), (ak, .inl (N.2 0, 11440, .inl (guT kp (572 * ke) nw 572)))] := hD
        exact ck_vret hx hb hrt hlk () trivial hP hD hS ⟨Nat.le_of_ble_eq_true rfl, Nat.le_of_ble_eq_true rfl⟩ dX11_keep_73
      refine lv_aload_n hx hb dX11_keep_9 rfl (lv_at hl 1 rfl) ?_
      refine va_get (ci := 11) (v := .ref ak) (C := RX11) (T := TX11) (N := 17) hx hb hg inX11 hown hE.1 hP 0 rfl rfl 1 (by decide) (hg _ k4_11) (fun _ h9 => h9) rfl dX11_keep_10 ?_
      refine lv_sipush (v := (nI 572)) hx hb dX11_keep_13 (by decide) ?_
      refine lv_aload_n hx hb dX11_keep_16 rfl (lv_at hl 1 rfl) ?_
      refine va_get (ci := 11) (v := .int (nI ke)) (C := RX11) (T := TX11) (N := 17) hx hb hg inX11 hown hE.1 hP 0 rfl rfl 2 (by decide) (hg _ k4_12) (fun _ h9 => h9) rfl dX11_keep_17 ?_
      refine lv_imul hx hb dX11_keep_20 ?_
      refine ck_top (y := (nI (572 * ke))) (pk_mul _ _) ?_
      refine lv_iload_n hx hb dX11_keep_21 rfl (lv_at hl 0 rfl) ?_
      refine lv_iadd hx hb dX11_keep_22 ?_
      refine ck_top (y := (nI (572 * ke + k))) (nI_add _ _) ?_
      refine lv_aload_n hx hb dX11_keep_23 rfl (lv_at hl 1 rfl) ?_
      refine va_get (ci := 11) (v := .ref an) (C := RX11) (T := TX11) (N := 17) hx hb hg inX11 hown hE.1 hP 0 rfl rfl 0 (by decide) (hg _ k4_10) (fun _ h9 => h9) rfl dX11_keep_24 ?_
      refine lv_iload_n hx hb dX11_keep_27 rfl (lv_at hl 0 rfl) ?_
      refine ck_iald hx hb hE hP 1 rfl (by omega) (by decide) dX11_keep_28 ?_
      refine ck_iast hx hb hE hP hD hS 2 rfl (by omega) (by decide) dX11_keep_29 (ws1 := [(mm, .inr (11, [.ref an, .ref ak, .int (nI ke), .int (nI kn), .int fd, .ref ab, .ref az, .ref as_, .ref ae, .ref ao, .ref ar, .ref aw, .ref al, .ref am, .int (nI mn), .ref af, .ref ac])), (an, .inl (N.2 0, 572, .inl nw)), (ak, .inl (N.2 0, 11440, .inl (upd kp1 (572 * ke + k) (nw k))))]) rfl (fun H locs hP hD hS => ?_)
      refine lv_iinc (v := (nI (k + 1))) (lv' := [(1, .int (nI (k + 1))), (0, .ref mm)]) hx hb dX11_keep_30 hl (k := 0) rfl (nI_1 _) (by decide) rfl (fun ls hl => ?_)
      refine lv_goto (tgt := 2) hx hb dX11_keep_33 (by decide) ?_
      exact ih_2 _ (by omega) (k + 1) (upd kp1 (572 * ke + k) (nw k)) rfl (by omega) (by rw [hkp, guT_s]) _ _ ls hP hD hS hl
  exact lp_2 _ 0 kp rfl (by omega) (guT_0 _ _ _).symm _ _ ls hP hD hS hl
set_option maxHeartbeats 4000000 in
set_option maxRecDepth 100000 in
/-- X11_undo -/
theorem c_X11_undo_z (l : Launch) (N : ckN) (mm : Nat) (an : Nat) (ak : Nat) (ab : Nat) (az : Nat) (as_ : Nat) (ae : Nat) (ao : Nat) (ar : Nat) (aw : Nat) (al : Nat) (am : Nat) (af : Nat) (ac : Nat) (ke : Nat) (kn : Nat) (fd : Int32) (mn : Nat) (hz : kn = 0) : ckI l yX11_undo cX11_undo 2 (some FieldType.int) { frames := 3, cells := 0, slots := 0, locals := 81 } N [.ref mm] [(mm, .inr (11, [.ref an, .ref ak, .int (nI ke), .int (nI kn), .int fd, .ref ab, .ref az, .ref as_, .ref ae, .ref ao, .ref ar, .ref aw, .ref al, .ref am, .int (nI mn), .ref af, .ref ac]))] (fun (r : Int32) (u : Int32) => r = -100006 ∧ u = fd + nI 1) (fun (u : Int32) => [(mm, .inr (11, [.ref an, .ref ak, .int (nI ke), .int (nI kn), .int u, .ref ab, .ref az, .ref as_, .ref ae, .ref ao, .ref ar, .ref aw, .ref al, .ref am, .int (nI mn), .ref af, .ref ac]))]) := by
  refine ckI.of (by decide) (Nat.le_of_ble_eq_true rfl) ?_
  intro pg eg sg mg blw mth cg Ag ls hx hb hrt hml hown hlk hin hg hE hA hP hD hS hl
  have hown : sg.vm.findClass RX11 = some mg.cls := hown
  have hl : lv_has ls 2 [(0, .ref mm)] := hl
  have C0 : ckC pg sg mg ([.ref mm]).toArray cg cX11_undo 2 RX11 N Ag := ⟨⟨hx, hb, hml, hown, hg⟩, hE, hA⟩
  generalize hHe : sg.heap = H at hP
  have hS : va_S Ag sg.heap H [] := hHe ▸ hS
  refine lv_aload_n hx hb dX11_undo_0 rfl (lv_at hl 0 rfl) ?_
  refine va_get (ci := 11) (v := .int (nI kn)) (C := RX11) (T := TX11) (N := 17) hx hb hg inX11 hown hE.1 hP 0 rfl rfl 3 (by decide) (hg _ k4_13) (fun _ h9 => h9) rfl dX11_undo_1 ?_
  refine ck_if0_ne (tgt := 14) hx hb dX11_undo_4 (by decide) (by omega) (fun cz_1 => absurd cz_1 (by omega)) (fun cz_1 => ?_)
  refine lv_aload_n hx hb dX11_undo_7 rfl (lv_at hl 0 rfl) ?_
  refine lv_ldc (own := RX11) (v := (-100006)) hx hb hown (hg _ k4_66) dX11_undo_8 ?_
  refine ck_Vi (As := [.int (-100006)]) (rest := []) (wr := []) C0 hP hD hS (c_X11_finds l N mm an ak ab az as_ ae ao ar aw al am af ac ke kn fd mn (-100006) ) myX11_finds k4_67 ⟨Nat.le_of_ble_eq_true rfl, Nat.le_of_ble_eq_true rfl⟩ [0] [] ⟨⟨rfl, rfl⟩, by decide, by decide, by decide⟩ 0 rfl rfl rfl rfl hl.1 rfl (Nat.le_of_ble_eq_true rfl) dX11_undo_10 ⟨Nat.le_of_ble_eq_true rfl, Nat.le_of_ble_eq_true rfl⟩ (fun r_2 u0 H locs hw0 hP hD hS => ?_)
  have hw_3 : r_2 = (-100006) := hw0
  subst hw_3
  have hP : va_P N.1 vwCl [(mm, .inr (11, [.ref an, .ref ak, .int (nI ke), .int (nI kn), .int (fd + nI 1), .ref ab, .ref az, .ref as_, .ref ae, .ref ao, .ref ar, .ref aw, .ref al, .ref am, .int (nI mn), .ref af, .ref ac]))] H := hP
  have hD : va_D Ag [(mm, .inr (11, [.ref an, .ref ak, .int (nI ke), .int (nI kn), .int (fd + nI 1), .ref ab, .ref az, .ref as_, .ref ae, .ref ao, .ref ar, .ref aw, .ref al, .ref am, .int (nI mn), .ref af, .ref ac]))] := hD
  exact ck_iret hx hb hrt hlk ((fd + nI 1)) ⟨rfl, rfl⟩ hP hD hS ⟨Nat.le_of_ble_eq_true rfl, Nat.le_of_ble_eq_true rfl⟩ dX11_undo_13
set_option maxHeartbeats 4000000 in
set_option maxRecDepth 100000 in
/-- X11_undo -/
theorem c_X11_undo_s (l : Launch) (N : ckN) (mm : Nat) (an : Nat) (ak : Nat) (ab : Nat) (az : Nat) (as_ : Nat) (ae : Nat) (ao : Nat) (ar : Nat) (aw : Nat) (al : Nat) (am : Nat) (af : Nat) (ac : Nat) (ke : Nat) (kn : Nat) (fd : Int32) (mn : Nat) (nw : Nat → Int32) (kp : Nat → Int32) (hke : ke < 20) (hkn : kn ≤ 20) (hk0 : 0 < kn) : ckI l yX11_undo cX11_undo 2 (some FieldType.int) { frames := 2, cells := 0, slots := 0, locals := 60 } N [.ref mm] [(mm, .inr (11, [.ref an, .ref ak, .int (nI ke), .int (nI kn), .int fd, .ref ab, .ref az, .ref as_, .ref ae, .ref ao, .ref ar, .ref aw, .ref al, .ref am, .int (nI mn), .ref af, .ref ac])), (an, .inl (N.2 0, 572, .inl nw)), (ak, .inl (N.2 0, 11440, .inl kp))] (fun (r : Int32) (u : (Nat → Int32)) => (r = (nI (kn - 1))) ∧ (∀ j, j < 572 → u j = kp (572 * ((ke + 20 - 1) % 20) + j))) (fun (u : (Nat → Int32)) => [(mm, .inr (11, [.ref an, .ref ak, .int (nI ((ke + 20 - 1) % 20)), .int (nI (kn - 1)), .int fd, .ref ab, .ref az, .ref as_, .ref ae, .ref ao, .ref ar, .ref aw, .ref al, .ref am, .int (nI mn), .ref af, .ref ac])), (an, .inl (N.2 0, 572, .inl u)), (ak, .inl (N.2 0, 11440, .inl kp))]) := by
  refine ckI.of (by decide) (Nat.le_of_ble_eq_true rfl) ?_
  intro pg eg sg mg blw mth cg Ag ls hx hb hrt hml hown hlk hin hg hE hA hP hD hS hl
  have hown : sg.vm.findClass RX11 = some mg.cls := hown
  have hl : lv_has ls 2 [(0, .ref mm)] := hl
  have C0 : ckC pg sg mg ([.ref mm]).toArray cg cX11_undo 2 RX11 N Ag := ⟨⟨hx, hb, hml, hown, hg⟩, hE, hA⟩
  generalize hHe : sg.heap = H at hP
  have hS : va_S Ag sg.heap H [] := hHe ▸ hS
  refine lv_aload_n hx hb dX11_undo_0 rfl (lv_at hl 0 rfl) ?_
  refine va_get (ci := 11) (v := .int (nI kn)) (C := RX11) (T := TX11) (N := 17) hx hb hg inX11 hown hE.1 hP 0 rfl rfl 3 (by decide) (hg _ k4_13) (fun _ h9 => h9) rfl dX11_undo_1 ?_
  refine ck_if0_ne (tgt := 14) hx hb dX11_undo_4 (by decide) (by omega) (fun cz_1 => ?_) (fun cz_1 => absurd cz_1 (by omega))
  refine lv_aload_n hx hb dX11_undo_14 rfl (lv_at hl 0 rfl) ?_
  refine lv_aload_n hx hb dX11_undo_15 rfl (lv_at hl 0 rfl) ?_
  refine va_get (ci := 11) (v := .int (nI ke)) (C := RX11) (T := TX11) (N := 17) hx hb hg inX11 hown hE.1 hP 0 rfl rfl 2 (by decide) (hg _ k4_12) (fun _ h9 => h9) rfl dX11_undo_16 ?_
  refine lv_bipush (v := (nI 20)) hx hb dX11_undo_19 (by decide) ?_
  refine lv_iadd hx hb dX11_undo_21 ?_
  refine ck_top (y := (nI (ke + 20))) (nI_add _ _) ?_
  refine lv_iconst (v := (nI 1)) hx hb dX11_undo_22 (by decide) ?_
  refine lv_isub hx hb dX11_undo_23 ?_
  refine ck_top (y := (nI (ke + 20 - 1))) (pk_sub (by omega)) ?_
  refine lv_bipush (v := (nI 20)) hx hb dX11_undo_24 (by decide) ?_
  refine lv_irem hx hb dX11_undo_26 (by decide) ?_
  refine ck_top (y := (nI ((ke + 20 - 1) % 20))) (pk_rem (by omega) (by omega) (by omega)) ?_
  refine va_put (ci := 11) (v := .int (nI ((ke + 20 - 1) % 20))) (C := RX11) (T := TX11) (N := 17) hx hb hg inX11 tyX11 tyX11_ok nmX11 hown hE.1 hP hD hS 0 rfl rfl 2 (by decide) (hg _ k4_12) (fun _ h9 => h9) rfl (tyX11_ok 2 (by decide)) rfl rfl (Nat.le_of_ble_eq_true rfl) dX11_undo_27 (fun H locs hP hD hS => ?_)
  have hP : va_P N.1 vwCl [(mm, .inr (11, [.ref an, .ref ak, .int (nI ((ke + 20 - 1) % 20)), .int (nI kn), .int fd, .ref ab, .ref az, .ref as_, .ref ae, .ref ao, .ref ar, .ref aw, .ref al, .ref am, .int (nI mn), .ref af, .ref ac])), (an, .inl (N.2 0, 572, .inl nw)), (ak, .inl (N.2 0, 11440, .inl kp))] H := hP
  have hD : va_D Ag [(mm, .inr (11, [.ref an, .ref ak, .int (nI ((ke + 20 - 1) % 20)), .int (nI kn), .int fd, .ref ab, .ref az, .ref as_, .ref ae, .ref ao, .ref ar, .ref aw, .ref al, .ref am, .int (nI mn), .ref af, .ref ac])), (an, .inl (N.2 0, 572, .inl nw)), (ak, .inl (N.2 0, 11440, .inl kp))] := hD
  refine lv_aload_n hx hb dX11_undo_30 rfl (lv_at hl 0 rfl) ?_
  refine lv_dup hx hb dX11_undo_31 rfl ?_
  refine va_get (ci := 11) (v := .int (nI kn)) (C := RX11) (T := TX11) (N := 17) hx hb hg inX11 hown hE.1 hP 0 rfl rfl 3 (by decide) (hg _ k4_13) (fun _ h9 => h9) rfl dX11_undo_32 ?_
  refine lv_iconst (v := (nI 1)) hx hb dX11_undo_35 (by decide) ?_
  refine lv_isub hx hb dX11_undo_36 ?_
  refine ck_top (y := (nI (kn - 1))) (pk_sub (by omega)) ?_
  refine va_put (ci := 11) (v := .int (nI (kn - 1))) (C := RX11) (T := TX11) (N := 17) hx hb hg inX11 tyX11 tyX11_ok nmX11 hown hE.1 hP hD hS 0 rfl rfl 3 (by decide) (hg _ k4_13) (fun _ h9 => h9) rfl (tyX11_ok 3 (by decide)) rfl rfl (Nat.le_of_ble_eq_true rfl) dX11_undo_37 (fun H locs hP hD hS => ?_)
  have hP : va_P N.1 vwCl [(mm, .inr (11, [.ref an, .ref ak, .int (nI ((ke + 20 - 1) % 20)), .int (nI (kn - 1)), .int fd, .ref ab, .ref az, .ref as_, .ref ae, .ref ao, .ref ar, .ref aw, .ref al, .ref am, .int (nI mn), .ref af, .ref ac])), (an, .inl (N.2 0, 572, .inl nw)), (ak, .inl (N.2 0, 11440, .inl kp))] H := hP
  have hD : va_D Ag [(mm, .inr (11, [.ref an, .ref ak, .int (nI ((ke + 20 - 1) % 20)), .int (nI (kn - 1)), .int fd, .ref ab, .ref az, .ref as_, .ref ae, .ref ao, .ref ar, .ref aw, .ref al, .ref am, .int (nI mn), .ref af, .ref ac])), (an, .inl (N.2 0, 572, .inl nw)), (ak, .inl (N.2 0, 11440, .inl kp))] := hD
  refine lv_iconst (v := (nI 0)) hx hb dX11_undo_40 (by decide) ?_
  refine lv_istore_n (lv' := [(1, .int (nI 0)), (0, .ref mm)]) hx hb dX11_undo_41 rfl hl (by decide) rfl (fun ls hl => ?_)
  have lp_42 : ∀ (dz : Nat) (k : Nat) (nw1 : Nat → Int32) (hdz : 572 - k = dz) (hk : k ≤ 572) (hz : ∀ j, j < k → nw1 j = kp (572 * ((ke + 20 - 1) % 20) + j)) (H : Heap) (locs : List Loc) (ls : Array Slot), va_P N.1 vwCl [(mm, .inr (11, [.ref an, .ref ak, .int (nI ((ke + 20 - 1) % 20)), .int (nI (kn - 1)), .int fd, .ref ab, .ref az, .ref as_, .ref ae, .ref ao, .ref ar, .ref aw, .ref al, .ref am, .int (nI mn), .ref af, .ref ac])), (an, .inl (N.2 0, 572, .inl nw1)), (ak, .inl (N.2 0, 11440, .inl kp))] H → va_D Ag [(mm, .inr (11, [.ref an, .ref ak, .int (nI ((ke + 20 - 1) % 20)), .int (nI (kn - 1)), .int fd, .ref ab, .ref az, .ref as_, .ref ae, .ref ao, .ref ar, .ref aw, .ref al, .ref am, .int (nI mn), .ref af, .ref ac])), (an, .inl (N.2 0, 572, .inl nw1)), (ak, .inl (N.2 0, 11440, .inl kp))] → va_S Ag sg.heap H locs → lv_has ls 2 [(1, .int (nI k)), (0, .ref mm)] → W pg l eg { frames := 2, cells := 0, slots := 0, locals := 60 } sg mg ([.ref mm]).toArray blw mth cg H locs 0 0 (ckQi N Ag blw sg ([.ref mm]).toArray { frames := 2, cells := 0, slots := 0, locals := 60 } (fun (r : Int32) (u : (Nat → Int32)) => (r = (nI (kn - 1))) ∧ (∀ j, j < 572 → u j = kp (572 * ((ke + 20 - 1) % 20) + j))) (fun (u : (Nat → Int32)) => [(mm, .inr (11, [.ref an, .ref ak, .int (nI ((ke + 20 - 1) % 20)), .int (nI (kn - 1)), .int fd, .ref ab, .ref az, .ref as_, .ref ae, .ref ao, .ref ar, .ref aw, .ref al, .ref am, .int (nI mn), .ref af, .ref ac])), (an, .inl (N.2 0, 572, .inl u)), (ak, .inl (N.2 0, 11440, .inl kp))])) (F0 mg 42 ls []) := by
    intro dz
    induction dz using Nat.strongRecOn with
    | _ dz ih_42 =>
      intro k nw1 hdz hk hz H locs ls hP hD hS hl
      subst hdz
      refine lv_iload_n hx hb dX11_undo_42 rfl (lv_at hl 0 rfl) ?_
      refine lv_sipush (v := (nI 572)) hx hb dX11_undo_43 (by decide) ?_
      refine ck_ic_ge (tgt := 76) hx hb dX11_undo_46 (by decide) (by omega) (by omega) (fun cz_2 => ?_) (fun cz_2 => ?_)
      · refine lv_aload_n hx hb dX11_undo_76 rfl (lv_at hl 1 rfl) ?_
        refine va_get (ci := 11) (v := .int (nI (kn - 1))) (C := RX11) (T := TX11) (N := 17) hx hb hg inX11 hown hE.1 hP 0 rfl rfl 3 (by decide) (hg _ k4_13) (fun _ h9 => h9) rfl dX11_undo_77 ?_
        exact ck_iret hx hb hrt hlk (nw1) ⟨rfl, fun j hj => hz j (by omega)⟩ hP hD hS ⟨Nat.le_of_ble_eq_true rfl, Nat.le_of_ble_eq_true rfl⟩ dX11_undo_80
      refine lv_aload_n hx hb dX11_undo_49 rfl (lv_at hl 1 rfl) ?_
      refine va_get (ci := 11) (v := .ref an) (C := RX11) (T := TX11) (N := 17) hx hb hg inX11 hown hE.1 hP 0 rfl rfl 0 (by decide) (hg _ k4_10) (fun _ h9 => h9) rfl dX11_undo_50 ?_
      refine lv_iload_n hx hb dX11_undo_53 rfl (lv_at hl 0 rfl) ?_
      refine lv_aload_n hx hb dX11_undo_54 rfl (lv_at hl 1 rfl) ?_
      refine va_get (ci := 11) (v := .ref ak) (C := RX11) (T := TX11) (N := 17) hx hb hg inX11 hown hE.1 hP 0 rfl rfl 1 (by decide) (hg _ k4_11) (fun _ h9 => h9) rfl dX11_undo_55 ?_
      refine lv_sipush (v := (nI 572)) hx hb dX11_undo_58 (by decide) ?_
      refine lv_aload_n hx hb dX11_undo_61 rfl (lv_at hl 1 rfl) ?_
      refine va_get (ci := 11) (v := .int (nI ((ke + 20 - 1) % 20))) (C := RX11) (T := TX11) (N := 17) hx hb hg inX11 hown hE.1 hP 0 rfl rfl 2 (by decide) (hg _ k4_12) (fun _ h9 => h9) rfl dX11_undo_62 ?_
      refine lv_imul hx hb dX11_undo_65 ?_
      refine ck_top (y := (nI (572 * ((ke + 20 - 1) % 20)))) (pk_mul _ _) ?_
      refine lv_iload_n hx hb dX11_undo_66 rfl (lv_at hl 0 rfl) ?_
      refine lv_iadd hx hb dX11_undo_67 ?_
      refine ck_top (y := (nI (572 * ((ke + 20 - 1) % 20) + k))) (nI_add _ _) ?_
      refine ck_iald hx hb hE hP 2 rfl (by omega) (by decide) dX11_undo_68 ?_
      refine ck_iast hx hb hE hP hD hS 1 rfl (by omega) (by decide) dX11_undo_69 (ws1 := [(mm, .inr (11, [.ref an, .ref ak, .int (nI ((ke + 20 - 1) % 20)), .int (nI (kn - 1)), .int fd, .ref ab, .ref az, .ref as_, .ref ae, .ref ao, .ref ar, .ref aw, .ref al, .ref am, .int (nI mn), .ref af, .ref ac])), (an, .inl (N.2 0, 572, .inl (upd nw1 k (kp (572 * ((ke + 20 - 1) % 20) + k))))), (ak, .inl (N.2 0, 11440, .inl kp))]) rfl (fun H locs hP hD hS => ?_)
      refine lv_iinc (v := (nI (k + 1))) (lv' := [(1, .int (nI (k + 1))), (0, .ref mm)]) hx hb dX11_undo_70 hl (k := 0) rfl (nI_1 _) (by decide) rfl (fun ls hl => ?_)
      refine lv_goto (tgt := 42) hx hb dX11_undo_73 (by decide) ?_
      exact ih_42 _ (by omega) (k + 1) (upd nw1 k (kp (572 * ((ke + 20 - 1) % 20) + k))) rfl (by omega) (ck_fill (g := fun j => kp (572 * ((ke + 20 - 1) % 20) + j)) hz rfl) _ _ ls hP hD hS hl
  exact lp_42 _ 0 nw rfl (by omega) (fun j hj => absurd hj (Nat.not_lt_zero j)) _ _ ls hP hD hS hl
