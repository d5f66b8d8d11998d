def ckTr (tr : Nat → Int32) (cf : Nat) : Prop := ∀ i k, i < cf → k < 8 → ckIn (tr (i * 8 + k)) (nI 0) (nI 99) = true
def ckFo (fo : Nat → Int32) : Prop := ∀ j, j < 80 → ckIn (fo j) (nI 0) (nI 12) = true
theorem ckIn_b {x : Int32} {b : Nat} (hb : b < 2 ^ 31) (h : ckIn x (nI 0) (nI b) = true) : 0 ≤ x.toInt ∧ x.toInt ≤ (b : Int) := by
  have := ckIn_iff.mp h
  rw [nI_toInt (by decide), nI_toInt hb] at this
  omega
theorem fFly_box {tr fo : Nat → Int32} {kd ht : Nat → Nat} {i mi : Nat} (h : kd i = 2) : fFly tr fo kd ht i mi = ckIn (fo (ht i * 20 + mi)) (tr (i * 8 + 6) + nI 1) (tr (i * 8 + 7) + nI 2) := by
  rw [fFly, fLo, fHi, if_pos h, if_pos h, h, show ckUnder 2 1 = false from rfl]
  exact Bool.and_true _
theorem fFly_els {tr fo : Nat → Int32} {kd ht : Nat → Nat} {i mi : Nat} (h : kd i ≠ 2) (h4 : kd i < 4) : fFly tr fo kd ht i mi = (ckIn (fo (ht i * 20 + mi)) (tr (i * 8 + 6)) (tr (i * 8 + 7)) && (decide (kd i = 0) || ckSteady fo (ht i) mi)) := by
  rw [fFly, fLo, fHi, if_neg h, if_neg h]
  have : (!ckUnder (kd i) 1) = decide (kd i = 0) := by
    rcases (show kd i = 0 ∨ kd i = 1 ∨ kd i = 3 by omega) with e | e | e <;> rw [e] <;> rfl
  rw [this]
theorem steady_in {fo : Nat → Int32} {h mi : Nat} (hf : ckFo fo) (hh : h < 4) (hm : mi < 20) (h0 : mi ≠ 0) : ckSteady fo h mi = ckIn (fo (h * 20 + mi) - fo (h * 20 + (mi - 1))) (-3) (nI 3) := by
  have b1 := ckIn_b (by decide) (hf (h * 20 + mi) (by omega))
  have b2 := ckIn_b (by decide) (hf (h * 20 + (mi - 1)) (by omega))
  have ed := fb_subI (x := fo (h * 20 + mi)) (y := fo (h * 20 + (mi - 1))) (by omega) (by omega)
  have e3 : (nI 3).toInt = 3 := (by decide)
  have e0 : (0 : Int32).toInt = 0 := (by decide)
  have em : (-3 : Int32).toInt = -3 := (by decide)
  rw [ckSteady, if_neg h0, Bool.eq_iff_iff, decide_eq_true_eq, ckIn_iff, e3, em, ckAbs]
  by_cases hp : 0 ≤ fo (h * 20 + mi) - fo (h * 20 + (mi - 1))
  · rw [if_pos hp, i_lt, e3]
    rw [i_le, e0] at hp
    omega
  · rw [if_neg hp, i_lt, e3, fb_subI (by omega) (by omega), e0]
    rw [i_le, e0] at hp
    omega
theorem fX_rng {tr : Nat → Int32} {cf i mi : Nat} {ht dr : Nat → Nat} (h : ckTr tr cf) (hi : i < cf) : (-200 ≤ (fX tr ht dr i mi).toInt ∧ (fX tr ht dr i mi).toInt ≤ 200) ∧ (-200 ≤ (fY tr ht dr i mi).toInt ∧ (fY tr ht dr i mi).toInt ≤ 200) := by
  have b1 := ckIn_b (by decide) (h i 1 hi (by decide))
  have b2 := ckIn_b (by decide) (h i 2 hi (by decide))
  have b4 := ckIn_b (by decide) (h i 4 hi (by decide))
  have sx : ∀ k, (ckSX k).toInt = -1 ∨ (ckSX k).toInt = 0 ∨ (ckSX k).toInt = 1 := by
    intro k
    match k with
    | 0 => decide
    | 1 => decide
    | 2 => decide
    | 3 => decide
    | 4 => decide
    | 5 => decide
    | 6 => decide
    | k + 7 => exact Or.inr (Or.inr rfl)
  have sy : ∀ k, (ckSY k).toInt = -1 ∨ (ckSY k).toInt = 0 ∨ (ckSY k).toInt = 1 := by
    intro k
    match k with
    | 0 => decide
    | 1 => decide
    | 2 => decide
    | 3 => decide
    | 4 => decide
    | 5 => decide
    | 6 => decide
    | k + 7 => exact Or.inl rfl
  constructor
  · rw [fX]
    have hm : -99 ≤ (tr (i * 8 + 4) * ckSX (dr (ht i * 20 + mi))).toInt ∧ (tr (i * 8 + 4) * ckSX (dr (ht i * 20 + mi))).toInt ≤ 99 := by
      rcases sx (dr (ht i * 20 + mi)) with e | e | e <;> rw [fb_mulI (by rw [e]; omega) (by rw [e]; omega), e] <;> omega
    rw [fb_addI (by omega) (by omega)]
    omega
  · rw [fY]
    have hm : -99 ≤ (tr (i * 8 + 4) * ckSY (dr (ht i * 20 + mi))).toInt ∧ (tr (i * 8 + 4) * ckSY (dr (ht i * 20 + mi))).toInt ≤ 99 := by
      rcases sy (dr (ht i * 20 + mi)) with e | e | e <;> rw [fb_mulI (by rw [e]; omega) (by rw [e]; omega), e] <;> omega
    rw [fb_addI (by omega) (by omega)]
    omega
theorem abs_in {x y s : Int32} (hx : -200 ≤ x.toInt ∧ x.toInt ≤ 200) (hy : -200 ≤ y.toInt ∧ y.toInt ≤ 200) (hs : 0 ≤ s.toInt ∧ s.toInt ≤ 400) : decide (ckAbs (x - y) < s) = ckIn (x - y) (-(s - nI 1)) (s - nI 1) := by
  have e1 : (nI 1).toInt = 1 := (by decide)
  have e0 : (0 : Int32).toInt = 0 := (by decide)
  have ed := fb_subI (x := x) (y := y) (by omega) (by omega)
  have es := fb_subI (x := s) (y := nI 1) (by omega) (by omega)
  have en := fb_negI (x := s - nI 1) (by omega)
  rw [Bool.eq_iff_iff, decide_eq_true_eq, ckIn_iff, ckAbs, en, es, e1]
  by_cases hp : 0 ≤ x - y
  · rw [if_pos hp, i_lt]
    rw [i_le, e0] at hp
    omega
  · rw [if_neg hp, i_lt, fb_subI (by omega) (by omega), e0]
    rw [i_le, e0] at hp
    omega
theorem abs_sym {x y s : Int32} (hx : -200 ≤ x.toInt ∧ x.toInt ≤ 200) (hy : -200 ≤ y.toInt ∧ y.toInt ≤ 200) : ckAbs (x - y) = ckAbs (y - x) := by
  have e0 : (0 : Int32).toInt = 0 := (by decide)
  have e1 := fb_subI (x := x) (y := y) (by omega) (by omega)
  have e2 := fb_subI (x := y) (y := x) (by omega) (by omega)
  rw [i_eq]
  unfold ckAbs
  by_cases h1 : 0 ≤ x - y <;> by_cases h2 : 0 ≤ y - x
  · rw [if_pos h1, if_pos h2]; rw [i_le, e0] at h1 h2; omega
  · rw [if_pos h1, if_neg h2, fb_subI (x := 0) (y := y - x) (by omega) (by omega), e0]; rw [i_le, e0] at h1 h2; omega
  · rw [if_neg h1, if_pos h2, fb_subI (x := 0) (y := x - y) (by omega) (by omega), e0]; rw [i_le, e0] at h1 h2; omega
  · rw [i_le, e0] at h1 h2; omega
theorem sp_rng {tr : Nat → Int32} {cf i j : Nat} (h : ckTr tr cf) (hi : i < cf) (hj : j < cf) : (tr (i * 8 + 5) + tr (j * 8 + 5)).toInt = (tr (i * 8 + 5)).toInt + (tr (j * 8 + 5)).toInt ∧ 0 ≤ (tr (i * 8 + 5) + tr (j * 8 + 5)).toInt ∧ (tr (i * 8 + 5) + tr (j * 8 + 5)).toInt ≤ 400 := by
  have b1 := ckIn_b (by decide) (h i 5 hi (by decide))
  have b2 := ckIn_b (by decide) (h j 5 hj (by decide))
  have e := fb_addI (x := tr (i * 8 + 5)) (y := tr (j * 8 + 5)) (by omega) (by omega)
  omega
theorem fNear_in {tr fo : Nat → Int32} {cf i j mi : Nat} {kd ht dr : Nat → Nat} (h : ckTr tr cf) (hi : i < cf) (hj : j < cf) : fNear tr fo kd ht dr i j mi = (decide (ht i = ht j) && (fFly tr fo kd ht i mi && fFly tr fo kd ht j mi) && (ckIn (fX tr ht dr i mi - fX tr ht dr j mi) (-(tr (i * 8 + 5) + tr (j * 8 + 5) - nI 1)) (tr (i * 8 + 5) + tr (j * 8 + 5) - nI 1) && ckIn (fY tr ht dr i mi - fY tr ht dr j mi) (-(tr (i * 8 + 5) + tr (j * 8 + 5) - nI 1)) (tr (i * 8 + 5) + tr (j * 8 + 5) - nI 1))) := by
  have r1 := fX_rng (ht := ht) (dr := dr) (mi := mi) h hi
  have r2 := fX_rng (ht := ht) (dr := dr) (mi := mi) h hj
  have rs := (sp_rng h hi hj).2
  rw [fNear, abs_in r1.1 r2.1 rs, abs_in r1.2 r2.2 rs]
theorem fNear_sym {tr fo : Nat → Int32} {cf i j mi : Nat} {kd ht dr : Nat → Nat} (h : ckTr tr cf) (hi : i < cf) (hj : j < cf) : fNear tr fo kd ht dr i j mi = fNear tr fo kd ht dr j i mi := by
  have r1 := fX_rng (ht := ht) (dr := dr) (mi := mi) h hi
  have r2 := fX_rng (ht := ht) (dr := dr) (mi := mi) h hj
  have es : tr (i * 8 + 5) + tr (j * 8 + 5) = tr (j * 8 + 5) + tr (i * 8 + 5) := by
    rw [i_eq, (sp_rng h hi hj).1, (sp_rng h hj hi).1]; omega
  rw [fNear, fNear, abs_sym (s := 0) r1.1 r2.1, abs_sym (s := 0) r1.2 r2.2, es, Bool.and_comm (fFly tr fo kd ht i mi), show decide (ht i = ht j) = decide (ht j = ht i) from decide_eq_decide.mpr eq_comm]
theorem bitsOf_test (q : Nat → Bool) : ∀ (n j : Nat), (bitsOf q n).testBit j = (decide (j < n) && q j)
  | 0, j => by rw [bitsOf, Nat.zero_testBit]; rfl
  | n + 1, j => by
    have ih := bitsOf_test q n j
    rw [bitsOf]
    by_cases hj : j = n
    · subst hj
      by_cases hq : q j = true
      · rw [if_pos hq, Nat.testBit_or, ih, Nat.testBit_two_pow_self, hq]; simp
      · rw [if_neg hq, ih]; simp [hq]
    · have e1 : decide (j < n + 1) = decide (j < n) := decide_eq_decide.mpr (by omega)
      rw [e1, ← ih]
      split
      · rw [Nat.testBit_or, Nat.testBit_two_pow_of_ne (Ne.symm hj), Bool.or_false]
      · rfl
theorem and_0 {a b : Nat} : a &&& b = 0 ↔ ∀ j, ¬ (a.testBit j = true ∧ b.testBit j = true) := by
  constructor
  · intro h j hj
    have := congrArg (fun x => x.testBit j) h
    simp only [Nat.testBit_and, Nat.zero_testBit, hj.1, hj.2, Bool.and_self] at this
    cases this
  · intro h
    apply Nat.eq_of_testBit_eq
    intro j
    rw [Nat.testBit_and, Nat.zero_testBit]
    have := h j
    cases h1 : a.testBit j <;> cases h2 : b.testBit j <;> simp_all
theorem bit_1 {s f : Nat} : s / 2 ^ f % 2 = 1 ↔ s.testBit f = true := by rw [Nat.testBit_eq_decide_div_mod_eq, decide_eq_true_eq]
def ckApM (nb : Nat → Nat) (n s : Nat) : Bool := decide (∀ f, f < n → s / 2 ^ f % 2 = 0 ∨ s &&& nb f = 0)
theorem apart_eq {nr : Nat → Nat → Bool} {n : Nat} (hs : ∀ f g, f < n → g < n → nr f g = nr g f) (s : Nat) : ckApM (fun f => bitsOf (fun g => decide (g ≠ f) && nr f g) n) n s = ckApart (fun f => bitsOf (nr f) f) n s := by
  rw [ckApM, ckApart]
  apply decide_eq_decide.mpr
  constructor
  · intro h f hf h1
    rw [and_0]
    rintro g ⟨g1, g2⟩
    rw [bitsOf_test, Bool.and_eq_true, decide_eq_true_eq] at g1
    rcases h f hf with q | q
    · omega
    · refine and_0.mp q g ⟨g2, ?_⟩
      rw [bitsOf_test, g1.2, decide_eq_true (show g < n by omega), decide_eq_true (show g ≠ f by omega)]
      rfl
  · intro h f hf
    by_cases h1 : s / 2 ^ f % 2 = 0
    · exact Or.inl h1
    · right
      have h1 : s / 2 ^ f % 2 = 1 := by omega
      rw [and_0]
      rintro g ⟨g1, g2⟩
      rw [bitsOf_test, Bool.and_eq_true, Bool.and_eq_true, decide_eq_true_eq, decide_eq_true_eq] at g2
      obtain ⟨gn, gf, gq⟩ := g2
      rcases Nat.lt_or_gt_of_ne gf with q | q
      · refine and_0.mp (h f hf h1) g ⟨?_, g1⟩
        rw [bitsOf_test, gq, decide_eq_true q]; rfl
      · refine and_0.mp (h g gn (bit_1.mpr g1)) f ⟨?_, bit_1.mp h1⟩
        rw [bitsOf_test, ← hs f g hf gn, gq, decide_eq_true q]; rfl
theorem psum_pop (s : Nat) : psum (fun j => s / 2 ^ j % 2) 8 = pop s := by
  simp [psum, pop]
theorem ck_or0 (x : Nat) : nI x ||| nI 0 = nI x := by rw [ck_or, Nat.or_zero]
theorem pairs_sw (nr : Nat → Nat → Bool) : ∀ (n m : Nat), psum (fun f => psum (fun g => ckPr nr f g) n) m = psum (fun g => psum (fun f => ckPr nr f g) m) n
  | 0, m => (psum_0 (fun k _ => rfl)).trans rfl
  | n + 1, m => by
    rw [psum, ← pairs_sw nr n m]
    have : ∀ (a b : Nat → Nat) (k : Nat), psum (fun f => a f + b f) k = psum a k + psum b k := by
      intro a b k
      induction k with
      | zero => rfl
      | succ k ih => rw [psum, psum, psum, ih]; omega
    exact this (fun f => psum (fun g => ckPr nr f g) n) (fun f => ckPr nr f n) m
/-- pairs with the greater first -/
def ckPm (nr : Nat → Nat → Bool) (n : Nat) : Nat := psum (fun f => psum (fun g => b2n (nr f g)) f) n
theorem psum_lt (q : Nat → Nat) (k : Nat) : ∀ (n : Nat), k ≤ n → psum (fun g => if g < k then q g else 0) n = psum q k
  | 0, h => by rw [Nat.le_zero.mp h]; rfl
  | n + 1, h => by
    by_cases hk : k = n + 1
    · subst hk
      exact psum_c (fun g hg => if_pos hg)
    · rw [psum, psum_lt q k n (by omega), if_neg (by omega), Nat.add_zero]
theorem ckPairs_m {nr : Nat → Nat → Bool} {n : Nat} (hs : ∀ f g, f < n → g < n → nr f g = nr g f) : ckPairs nr n = ckPm nr n := by
  rw [ckPairs, pairs_sw nr n n, ckPm]
  refine psum_c (fun g hg => ?_)
  show psum (fun f => if f < g then b2n (nr f g) else 0) n = psum (fun f => b2n (nr g f)) g
  rw [psum_lt (fun f => b2n (nr f g)) g n (by omega)]
  exact psum_c (fun f hf => by rw [hs f g (by omega) hg])
theorem gm_f {k f0 : Nat} {nb : Nat → Nat} {gd : Bool} (hgd : gd = decide (∀ f, f < f0 → k / 2 ^ f % 2 = 0 ∨ k &&& nb f = 0)) (h : gd = false) : false = decide (∀ f, f < f0 + 1 → k / 2 ^ f % 2 = 0 ∨ k &&& nb f = 0) := by
  rw [h] at hgd
  exact (decide_eq_false (fun q => of_decide_eq_false hgd.symm (fun f hf => q f (by omega)))).symm
theorem gm_t {k f0 : Nat} {nb : Nat → Nat} {gd : Bool} (hgd : gd = decide (∀ f, f < f0 → k / 2 ^ f % 2 = 0 ∨ k &&& nb f = 0)) (h : gd = true) (hp : k / 2 ^ f0 % 2 = 0 ∨ k &&& nb f0 = 0) : true = decide (∀ f, f < f0 + 1 → k / 2 ^ f % 2 = 0 ∨ k &&& nb f = 0) := by
  rw [h] at hgd
  exact (decide_eq_true (lt_s (of_decide_eq_true hgd.symm) hp)).symm
theorem gm_n {k f0 : Nat} {nb : Nat → Nat} (h1 : ¬ k / 2 ^ f0 % 2 = 0) (h2 : ¬ k &&& nb f0 = 0) : false = decide (∀ f, f < f0 + 1 → k / 2 ^ f % 2 = 0 ∨ k &&& nb f = 0) := (decide_eq_false (fun q => (q f0 (by omega)).elim h1 h2)).symm
set_option maxHeartbeats 4000000 in
set_option maxRecDepth 100000 in
/-- X11_doesFly -/
theorem c_X11_doesFly (l : Launch) (N : ckN) (mm : Nat) (an : Nat) (ak : Nat) (ab : Nat) (az : Nat) (as_ : Nat) (ae : Nat) (ao : Nat) (ar : Nat) (aw : Nat) (al : Nat) (am : Nat) (af : Nat) (ac : Nat) (ke : Nat) (kn : Nat) (fd : Int32) (mn : Nat) (nw : Nat → Int32) (cf : Nat) (n : Nat) (wk : Int32) (tr : Nat → Int32) (di : Nat → Int32) (fo : Nat → Int32) (w : Nat → List Nat) (sdf : Nat → Int32) (wof : Nat → Int32) (shf : Nat → Int32) (twf : Nat → Int32) (kd : Nat → Nat) (ht : Nat → Nat) (dr : Nat → Nat) (i : Nat) (mi : Nat) (hV : mV nw cf n wk tr di fo w sdf wof shf twf) (hAir : ckAir tr di cf kd ht dr) (hFo : ckFo fo) (hi : i < cf) (hm : mi < 20) : ckI l yX11_doesFly cX11_doesFly 6 (some FieldType.boolean) { frames := 4, cells := 0, slots := 0, locals := 103 } N [.ref mm, .int (nI i), .int (nI mi)] [(mm, .inr (11, [.ref an, .ref ak, .int (nI ke), .int (nI kn), .int fd, .ref ab, .ref az, .ref as_, .ref ae, .ref ao, .ref ar, .ref aw, .ref al, .ref am, .int (nI mn), .ref af, .ref ac])), (an, .inl (N.2 0, 572, .inl nw))] (fun (r : Int32) (u : Unit) => r = (b2i (fFly tr fo kd ht i mi))) (fun (u : Unit) => [(mm, .inr (11, [.ref an, .ref ak, .int (nI ke), .int (nI kn), .int fd, .ref ab, .ref az, .ref as_, .ref ae, .ref ao, .ref ar, .ref aw, .ref al, .ref am, .int (nI mn), .ref af, .ref ac])), (an, .inl (N.2 0, 572, .inl nw))]) := by
  refine ckI.of (by decide) (Nat.le_of_ble_eq_true rfl) ?_
  intro pg eg sg mg blw mth cg Ag ls hx hb hrt hml hown hlk hin hg hE hA hP hD hS hl
  have hown : sg.vm.findClass RX11 = some mg.cls := hown
  have hl : lv_has ls 6 [(0, .ref mm), (1, .int (nI i)), (2, .int (nI mi))] := hl
  have C0 : ckC pg sg mg ([.ref mm, .int (nI i), .int (nI mi)]).toArray cg cX11_doesFly 6 RX11 N Ag := ⟨⟨hx, hb, hml, hown, hg⟩, hE, hA⟩
  generalize hHe : sg.heap = H at hP
  have hS : va_S Ag sg.heap H [] := hHe ▸ hS
  obtain ⟨hn8, hAi, hAd⟩ := id hAir
  obtain ⟨hki, hk4, hhi, hh4⟩ := hAi i hi
  refine lv_aload_n hx hb dX11_doesFly_0 rfl (lv_at hl 0 rfl) ?_
  refine lv_iload_n hx hb dX11_doesFly_1 rfl (lv_at hl 1 rfl) ?_
  refine lv_iconst (v := (nI 0)) hx hb dX11_doesFly_2 (by decide) ?_
  refine ck_Vi (As := [.int (nI i), .int (nI 0)]) (rest := []) (wr := []) C0 hP hD hS (c_X11_ofFlyer l N mm an ak ab az as_ ae ao ar aw al am af ac ke kn fd mn nw cf n wk tr di fo w sdf wof shf twf i 0 hV (by omega)) myX11_ofFlyer k4_96 ⟨Nat.le_of_ble_eq_true rfl, Nat.le_of_ble_eq_true rfl⟩ [0, 1] [] ⟨⟨rfl, rfl⟩, by decide, by decide, by decide⟩ 0 rfl rfl rfl rfl hl.1 rfl (Nat.le_of_ble_eq_true rfl) dX11_doesFly_3 ⟨Nat.le_of_ble_eq_true rfl, Nat.le_of_ble_eq_true rfl⟩ (fun r_1 u0 H locs hw0 hP hD hS => ?_)
  have hw_2 : r_1 = (tr (i * 8 + 0)) := hw0
  subst hw_2
  have hP : va_P N.1 vwCl [(mm, .inr (11, [.ref an, .ref ak, .int (nI ke), .int (nI kn), .int fd, .ref ab, .ref az, .ref as_, .ref ae, .ref ao, .ref ar, .ref aw, .ref al, .ref am, .int (nI mn), .ref af, .ref ac])), (an, .inl (N.2 0, 572, .inl nw))] H := hP
  have hD : va_D Ag [(mm, .inr (11, [.ref an, .ref ak, .int (nI ke), .int (nI kn), .int fd, .ref ab, .ref az, .ref as_, .ref ae, .ref ao, .ref ar, .ref aw, .ref al, .ref am, .int (nI mn), .ref af, .ref ac])), (an, .inl (N.2 0, 572, .inl nw))] := hD
  refine ck_top (y := (nI (kd i))) hki ?_
  refine lv_istore_n (lv' := [(3, .int (nI (kd i))), (0, .ref mm), (1, .int (nI i)), (2, .int (nI mi))]) hx hb dX11_doesFly_6 rfl hl (by decide) rfl (fun ls hl => ?_)
  refine lv_aload_n hx hb dX11_doesFly_7 rfl (lv_at hl 1 rfl) ?_
  refine lv_iload_n hx hb dX11_doesFly_8 rfl (lv_at hl 2 rfl) ?_
  refine lv_iconst (v := (nI 3)) hx hb dX11_doesFly_9 (by decide) ?_
  refine ck_Vi (As := [.int (nI i), .int (nI 3)]) (rest := []) (wr := []) C0 hP hD hS (c_X11_ofFlyer l N mm an ak ab az as_ ae ao ar aw al am af ac ke kn fd mn nw cf n wk tr di fo w sdf wof shf twf i 3 hV (by omega)) myX11_ofFlyer k4_96 ⟨Nat.le_of_ble_eq_true rfl, Nat.le_of_ble_eq_true rfl⟩ [0, 1] [] ⟨⟨rfl, rfl⟩, by decide, by decide, by decide⟩ 0 rfl rfl rfl rfl hl.1 rfl (Nat.le_of_ble_eq_true rfl) dX11_doesFly_10 ⟨Nat.le_of_ble_eq_true rfl, Nat.le_of_ble_eq_true rfl⟩ (fun r_3 u0 H locs hw0 hP hD hS => ?_)
  have hw_4 : r_3 = (tr (i * 8 + 3)) := hw0
  subst hw_4
  have hP : va_P N.1 vwCl [(mm, .inr (11, [.ref an, .ref ak, .int (nI ke), .int (nI kn), .int fd, .ref ab, .ref az, .ref as_, .ref ae, .ref ao, .ref ar, .ref aw, .ref al, .ref am, .int (nI mn), .ref af, .ref ac])), (an, .inl (N.2 0, 572, .inl nw))] H := hP
  have hD : va_D Ag [(mm, .inr (11, [.ref an, .ref ak, .int (nI ke), .int (nI kn), .int fd, .ref ab, .ref az, .ref as_, .ref ae, .ref ao, .ref ar, .ref aw, .ref al, .ref am, .int (nI mn), .ref af, .ref ac])), (an, .inl (N.2 0, 572, .inl nw))] := hD
  refine ck_top (y := (nI (ht i))) hhi ?_
  refine lv_istore (lv' := [(4, .int (nI (ht i))), (3, .int (nI (kd i))), (0, .ref mm), (1, .int (nI i)), (2, .int (nI mi))]) hx hb dX11_doesFly_13 hl (by decide) rfl (fun ls hl => ?_)
  refine lv_aload_n hx hb dX11_doesFly_15 rfl (lv_at hl 2 rfl) ?_
  refine lv_iload hx hb dX11_doesFly_16 (lv_at hl 0 rfl) ?_
  refine lv_iload_n hx hb dX11_doesFly_18 rfl (lv_at hl 4 rfl) ?_
  refine ck_Vi (As := [.int (nI (ht i)), .int (nI mi)]) (rest := []) (wr := []) C0 hP hD hS (c_X11_force l N mm an ak ab az as_ ae ao ar aw al am af ac ke kn fd mn nw cf n wk tr di fo w sdf wof shf twf (ht i) mi hV (by omega)) myX11_force k4_135 ⟨Nat.le_of_ble_eq_true rfl, Nat.le_of_ble_eq_true rfl⟩ [0, 1] [] ⟨⟨rfl, rfl⟩, by decide, by decide, by decide⟩ 0 rfl rfl rfl rfl hl.1 rfl (Nat.le_of_ble_eq_true rfl) dX11_doesFly_19 ⟨Nat.le_of_ble_eq_true rfl, Nat.le_of_ble_eq_true rfl⟩ (fun r_5 u0 H locs hw0 hP hD hS => ?_)
  have hw_6 : r_5 = (fo ((ht i) * 20 + mi)) := hw0
  subst hw_6
  have hP : va_P N.1 vwCl [(mm, .inr (11, [.ref an, .ref ak, .int (nI ke), .int (nI kn), .int fd, .ref ab, .ref az, .ref as_, .ref ae, .ref ao, .ref ar, .ref aw, .ref al, .ref am, .int (nI mn), .ref af, .ref ac])), (an, .inl (N.2 0, 572, .inl nw))] H := hP
  have hD : va_D Ag [(mm, .inr (11, [.ref an, .ref ak, .int (nI ke), .int (nI kn), .int fd, .ref ab, .ref az, .ref as_, .ref ae, .ref ao, .ref ar, .ref aw, .ref al, .ref am, .int (nI mn), .ref af, .ref ac])), (an, .inl (N.2 0, 572, .inl nw))] := hD
  refine lv_istore (lv' := [(5, .int (fo ((ht i) * 20 + mi))), (4, .int (nI (ht i))), (3, .int (nI (kd i))), (0, .ref mm), (1, .int (nI i)), (2, .int (nI mi))]) hx hb dX11_doesFly_22 hl (by decide) rfl (fun ls hl => ?_)
  refine lv_iload_n hx hb dX11_doesFly_24 rfl (lv_at hl 2 rfl) ?_
  refine lv_iconst (v := (nI 2)) hx hb dX11_doesFly_25 (by decide) ?_
  refine ck_ic_ne (tgt := 53) hx hb dX11_doesFly_26 (by decide) (by omega) (by omega) (fun cz_7 => ?_) (fun cz_7 => ?_)
  · refine lv_iload hx hb dX11_doesFly_53 (lv_at hl 0 rfl) ?_
    refine lv_aload_n hx hb dX11_doesFly_55 rfl (lv_at hl 3 rfl) ?_
    refine lv_iload_n hx hb dX11_doesFly_56 rfl (lv_at hl 4 rfl) ?_
    refine lv_bipush (v := (nI 6)) hx hb dX11_doesFly_57 (by decide) ?_
    refine ck_Vi (As := [.int (nI i), .int (nI 6)]) (rest := [.int (fo ((ht i) * 20 + mi))]) (wr := []) C0 hP hD hS (c_X11_ofFlyer l N mm an ak ab az as_ ae ao ar aw al am af ac ke kn fd mn nw cf n wk tr di fo w sdf wof shf twf i 6 hV (by omega)) myX11_ofFlyer k4_96 ⟨Nat.le_of_ble_eq_true rfl, Nat.le_of_ble_eq_true rfl⟩ [0, 1] [] ⟨⟨rfl, rfl⟩, by decide, by decide, by decide⟩ 0 rfl rfl rfl rfl hl.1 rfl (Nat.le_of_ble_eq_true rfl) dX11_doesFly_59 ⟨Nat.le_of_ble_eq_true rfl, Nat.le_of_ble_eq_true rfl⟩ (fun r_8 u0 H locs hw0 hP hD hS => ?_)
    have hw_9 : r_8 = (tr (i * 8 + 6)) := hw0
    subst hw_9
    have hP : va_P N.1 vwCl [(mm, .inr (11, [.ref an, .ref ak, .int (nI ke), .int (nI kn), .int fd, .ref ab, .ref az, .ref as_, .ref ae, .ref ao, .ref ar, .ref aw, .ref al, .ref am, .int (nI mn), .ref af, .ref ac])), (an, .inl (N.2 0, 572, .inl nw))] H := hP
    have hD : va_D Ag [(mm, .inr (11, [.ref an, .ref ak, .int (nI ke), .int (nI kn), .int fd, .ref ab, .ref az, .ref as_, .ref ae, .ref ao, .ref ar, .ref aw, .ref al, .ref am, .int (nI mn), .ref af, .ref ac])), (an, .inl (N.2 0, 572, .inl nw))] := hD
    refine lv_aload_n hx hb dX11_doesFly_62 rfl (lv_at hl 3 rfl) ?_
    refine lv_iload_n hx hb dX11_doesFly_63 rfl (lv_at hl 4 rfl) ?_
    refine lv_bipush (v := (nI 7)) hx hb dX11_doesFly_64 (by decide) ?_
    refine ck_Vi (As := [.int (nI i), .int (nI 7)]) (rest := [.int (tr (i * 8 + 6)), .int (fo ((ht i) * 20 + mi))]) (wr := []) C0 hP hD hS (c_X11_ofFlyer l N mm an ak ab az as_ ae ao ar aw al am af ac ke kn fd mn nw cf n wk tr di fo w sdf wof shf twf i 7 hV (by omega)) myX11_ofFlyer k4_96 ⟨Nat.le_of_ble_eq_true rfl, Nat.le_of_ble_eq_true rfl⟩ [0, 1] [] ⟨⟨rfl, rfl⟩, by decide, by decide, by decide⟩ 0 rfl rfl rfl rfl hl.1 rfl (Nat.le_of_ble_eq_true rfl) dX11_doesFly_66 ⟨Nat.le_of_ble_eq_true rfl, Nat.le_of_ble_eq_true rfl⟩ (fun r_10 u0 H locs hw0 hP hD hS => ?_)
    have hw_11 : r_10 = (tr (i * 8 + 7)) := hw0
    subst hw_11
    have hP : va_P N.1 vwCl [(mm, .inr (11, [.ref an, .ref ak, .int (nI ke), .int (nI kn), .int fd, .ref ab, .ref az, .ref as_, .ref ae, .ref ao, .ref ar, .ref aw, .ref al, .ref am, .int (nI mn), .ref af, .ref ac])), (an, .inl (N.2 0, 572, .inl nw))] H := hP
    have hD : va_D Ag [(mm, .inr (11, [.ref an, .ref ak, .int (nI ke), .int (nI kn), .int fd, .ref ab, .ref az, .ref as_, .ref ae, .ref ao, .ref ar, .ref aw, .ref al, .ref am, .int (nI mn), .ref af, .ref ac])), (an, .inl (N.2 0, 572, .inl nw))] := hD
    refine ck_Si (As := [.int (fo ((ht i) * 20 + mi)), .int (tr (i * 8 + 6)), .int (tr (i * 8 + 7))]) (rest := []) (wr := [(mm, .inr (11, [.ref an, .ref ak, .int (nI ke), .int (nI kn), .int fd, .ref ab, .ref az, .ref as_, .ref ae, .ref ao, .ref ar, .ref aw, .ref al, .ref am, .int (nI mn), .ref af, .ref ac])), (an, .inl (N.2 0, 572, .inl nw))]) C0 hP hD hS (c_X11_in l N (fo ((ht i) * 20 + mi)) (tr (i * 8 + 6)) (tr (i * 8 + 7)) ) myX11_in k4_75 ⟨Nat.le_of_ble_eq_true rfl, Nat.le_of_ble_eq_true rfl⟩ [] [0, 1] ⟨⟨rfl, rfl⟩, by decide, by decide, by decide⟩ rfl hl.1 rfl (Nat.le_of_ble_eq_true rfl) dX11_doesFly_69 ⟨Nat.le_of_ble_eq_true rfl, Nat.le_of_ble_eq_true rfl⟩ (fun r_12 u0 H locs hw0 hP hD hS => ?_)
    have hw_13 : r_12 = (b2i (ckIn (fo ((ht i) * 20 + mi)) (tr (i * 8 + 6)) (tr (i * 8 + 7)))) := hw0
    subst hw_13
    have hP : va_P N.1 vwCl [(mm, .inr (11, [.ref an, .ref ak, .int (nI ke), .int (nI kn), .int fd, .ref ab, .ref az, .ref as_, .ref ae, .ref ao, .ref ar, .ref aw, .ref al, .ref am, .int (nI mn), .ref af, .ref ac])), (an, .inl (N.2 0, 572, .inl nw))] H := hP
    have hD : va_D Ag [(mm, .inr (11, [.ref an, .ref ak, .int (nI ke), .int (nI kn), .int fd, .ref ab, .ref az, .ref as_, .ref ae, .ref ao, .ref ar, .ref aw, .ref al, .ref am, .int (nI mn), .ref af, .ref ac])), (an, .inl (N.2 0, 572, .inl nw))] := hD
    refine ck_ifne (b := ckIn (fo ((ht i) * 20 + mi)) (tr (i * 8 + 6)) (tr (i * 8 + 7))) (tgt := 77) hx hb dX11_doesFly_72 (by decide) (fun cz_14 => ?_) (fun cz_14 => ?_)
    · refine lv_iload_n hx hb dX11_doesFly_77 rfl (lv_at hl 2 rfl) ?_
      refine ck_if0_eq (tgt := 106) hx hb dX11_doesFly_78 (by decide) (by omega) (fun cz_15 => ?_) (fun cz_15 => ?_)
      · refine lv_iconst (v := (nI 1)) hx hb dX11_doesFly_106 (by decide) ?_
        refine lv_goto (tgt := 111) hx hb dX11_doesFly_107 (by decide) ?_
        refine ck_top (y := (b2i true)) (by decide) ?_
        exact ck_zret (b := true) hx hb hrt hlk () (congrArg b2i (by rw [fFly_els cz_7 hk4, cz_14, decide_eq_true cz_15]; rfl)) hP hD hS ⟨Nat.le_of_ble_eq_true rfl, Nat.le_of_ble_eq_true rfl⟩ dX11_doesFly_111
      refine lv_iload_n hx hb dX11_doesFly_81 rfl (lv_at hl 5 rfl) ?_
      refine ck_if0_eq (tgt := 106) hx hb dX11_doesFly_82 (by decide) (by omega) (fun cz_16 => ?_) (fun cz_16 => ?_)
      · refine lv_iconst (v := (nI 1)) hx hb dX11_doesFly_106 (by decide) ?_
        refine lv_goto (tgt := 111) hx hb dX11_doesFly_107 (by decide) ?_
        refine ck_top (y := (b2i true)) (by decide) ?_
        exact ck_zret (b := true) hx hb hrt hlk () (congrArg b2i (by rw [fFly_els cz_7 hk4, cz_14, ckSteady, if_pos cz_16, Bool.or_true]; rfl)) hP hD hS ⟨Nat.le_of_ble_eq_true rfl, Nat.le_of_ble_eq_true rfl⟩ dX11_doesFly_111
      refine lv_iload hx hb dX11_doesFly_85 (lv_at hl 0 rfl) ?_
      refine lv_aload_n hx hb dX11_doesFly_87 rfl (lv_at hl 3 rfl) ?_
      refine lv_iload hx hb dX11_doesFly_88 (lv_at hl 1 rfl) ?_
      refine lv_iload_n hx hb dX11_doesFly_90 rfl (lv_at hl 5 rfl) ?_
      refine lv_iconst (v := (nI 1)) hx hb dX11_doesFly_91 (by decide) ?_
      refine lv_isub hx hb dX11_doesFly_92 ?_
      refine ck_top (y := (nI (mi - 1))) (pk_sub (by omega)) ?_
      refine ck_Vi (As := [.int (nI (ht i)), .int (nI (mi - 1))]) (rest := [.int (fo ((ht i) * 20 + mi))]) (wr := []) C0 hP hD hS (c_X11_force l N mm an ak ab az as_ ae ao ar aw al am af ac ke kn fd mn nw cf n wk tr di fo w sdf wof shf twf (ht i) (mi - 1) hV (by omega)) myX11_force k4_135 ⟨Nat.le_of_ble_eq_true rfl, Nat.le_of_ble_eq_true rfl⟩ [0, 1] [] ⟨⟨rfl, rfl⟩, by decide, by decide, by decide⟩ 0 rfl rfl rfl rfl hl.1 rfl (Nat.le_of_ble_eq_true rfl) dX11_doesFly_93 ⟨Nat.le_of_ble_eq_true rfl, Nat.le_of_ble_eq_true rfl⟩ (fun r_17 u0 H locs hw0 hP hD hS => ?_)
      have hw_18 : r_17 = (fo ((ht i) * 20 + (mi - 1))) := hw0
      subst hw_18
      have hP : va_P N.1 vwCl [(mm, .inr (11, [.ref an, .ref ak, .int (nI ke), .int (nI kn), .int fd, .ref ab, .ref az, .ref as_, .ref ae, .ref ao, .ref ar, .ref aw, .ref al, .ref am, .int (nI mn), .ref af, .ref ac])), (an, .inl (N.2 0, 572, .inl nw))] H := hP
      have hD : va_D Ag [(mm, .inr (11, [.ref an, .ref ak, .int (nI ke), .int (nI kn), .int fd, .ref ab, .ref az, .ref as_, .ref ae, .ref ao, .ref ar, .ref aw, .ref al, .ref am, .int (nI mn), .ref af, .ref ac])), (an, .inl (N.2 0, 572, .inl nw))] := hD
      refine lv_isub hx hb dX11_doesFly_96 ?_
      refine lv_bipush (v := (-3)) hx hb dX11_doesFly_97 (by decide) ?_
      refine lv_iconst (v := (nI 3)) hx hb dX11_doesFly_99 (by decide) ?_
      refine ck_Si (As := [.int ((fo ((ht i) * 20 + mi)) - (fo ((ht i) * 20 + (mi - 1)))), .int (-3), .int (nI 3)]) (rest := []) (wr := [(mm, .inr (11, [.ref an, .ref ak, .int (nI ke), .int (nI kn), .int fd, .ref ab, .ref az, .ref as_, .ref ae, .ref ao, .ref ar, .ref aw, .ref al, .ref am, .int (nI mn), .ref af, .ref ac])), (an, .inl (N.2 0, 572, .inl nw))]) C0 hP hD hS (c_X11_in l N ((fo ((ht i) * 20 + mi)) - (fo ((ht i) * 20 + (mi - 1)))) (-3) (nI 3) ) myX11_in k4_75 ⟨Nat.le_of_ble_eq_true rfl, Nat.le_of_ble_eq_true rfl⟩ [] [0, 1] ⟨⟨rfl, rfl⟩, by decide, by decide, by decide⟩ rfl hl.1 rfl (Nat.le_of_ble_eq_true rfl) dX11_doesFly_100 ⟨Nat.le_of_ble_eq_true rfl, Nat.le_of_ble_eq_true rfl⟩ (fun r_19 u0 H locs hw0 hP hD hS => ?_)
      have hw_20 : r_19 = (b2i (ckIn ((fo ((ht i) * 20 + mi)) - (fo ((ht i) * 20 + (mi - 1)))) (-3) (nI 3))) := hw0
      subst hw_20
      have hP : va_P N.1 vwCl [(mm, .inr (11, [.ref an, .ref ak, .int (nI ke), .int (nI kn), .int fd, .ref ab, .ref az, .ref as_, .ref ae, .ref ao, .ref ar, .ref aw, .ref al, .ref am, .int (nI mn), .ref af, .ref ac])), (an, .inl (N.2 0, 572, .inl nw))] H := hP
      have hD : va_D Ag [(mm, .inr (11, [.ref an, .ref ak, .int (nI ke), .int (nI kn), .int fd, .ref ab, .ref az, .ref as_, .ref ae, .ref ao, .ref ar, .ref aw, .ref al, .ref am, .int (nI mn), .ref af, .ref ac])), (an, .inl (N.2 0, 572, .inl nw))] := hD
      refine ck_ifeq (b := ckIn ((fo ((ht i) * 20 + mi)) - (fo ((ht i) * 20 + (mi - 1)))) (-3) (nI 3)) (tgt := 110) hx hb dX11_doesFly_103 (by decide) (fun cz_21 => ?_) (fun cz_21 => ?_)
      · refine lv_iconst (v := (nI 0)) hx hb dX11_doesFly_110 (by decide) ?_
        refine ck_top (y := (b2i false)) (by decide) ?_
        exact ck_zret (b := false) hx hb hrt hlk () (congrArg b2i (by rw [fFly_els cz_7 hk4, cz_14, steady_in hFo hh4 hm cz_16, cz_21]; first | rw [Bool.or_true]; rfl | rw [Bool.or_false, decide_eq_false cz_15]; rfl)) hP hD hS ⟨Nat.le_of_ble_eq_true rfl, Nat.le_of_ble_eq_true rfl⟩ dX11_doesFly_111
      refine lv_iconst (v := (nI 1)) hx hb dX11_doesFly_106 (by decide) ?_
      refine lv_goto (tgt := 111) hx hb dX11_doesFly_107 (by decide) ?_
      refine ck_top (y := (b2i true)) (by decide) ?_
      exact ck_zret (b := true) hx hb hrt hlk () (congrArg b2i (by rw [fFly_els cz_7 hk4, cz_14, steady_in hFo hh4 hm cz_16, cz_21]; first | rw [Bool.or_true]; rfl | rw [Bool.or_false, decide_eq_false cz_15]; rfl)) hP hD hS ⟨Nat.le_of_ble_eq_true rfl, Nat.le_of_ble_eq_true rfl⟩ dX11_doesFly_111
    refine lv_iconst (v := (nI 0)) hx hb dX11_doesFly_75 (by decide) ?_
    refine ck_top (y := (b2i false)) (by decide) ?_
    exact ck_zret (b := false) hx hb hrt hlk () (congrArg b2i (by rw [fFly_els cz_7 hk4, cz_14]; rfl)) hP hD hS ⟨Nat.le_of_ble_eq_true rfl, Nat.le_of_ble_eq_true rfl⟩ dX11_doesFly_76
  refine lv_iload hx hb dX11_doesFly_29 (lv_at hl 0 rfl) ?_
  refine lv_aload_n hx hb dX11_doesFly_31 rfl (lv_at hl 3 rfl) ?_
  refine lv_iload_n hx hb dX11_doesFly_32 rfl (lv_at hl 4 rfl) ?_
  refine lv_bipush (v := (nI 6)) hx hb dX11_doesFly_33 (by decide) ?_
  refine ck_Vi (As := [.int (nI i), .int (nI 6)]) (rest := [.int (fo ((ht i) * 20 + mi))]) (wr := []) C0 hP hD hS (c_X11_ofFlyer l N mm an ak ab az as_ ae ao ar aw al am af ac ke kn fd mn nw cf n wk tr di fo w sdf wof shf twf i 6 hV (by omega)) myX11_ofFlyer k4_96 ⟨Nat.le_of_ble_eq_true rfl, Nat.le_of_ble_eq_true rfl⟩ [0, 1] [] ⟨⟨rfl, rfl⟩, by decide, by decide, by decide⟩ 0 rfl rfl rfl rfl hl.1 rfl (Nat.le_of_ble_eq_true rfl) dX11_doesFly_35 ⟨Nat.le_of_ble_eq_true rfl, Nat.le_of_ble_eq_true rfl⟩ (fun r_22 u0 H locs hw0 hP hD hS => ?_)
  have hw_23 : r_22 = (tr (i * 8 + 6)) := hw0
  subst hw_23
  have hP : va_P N.1 vwCl [(mm, .inr (11, [.ref an, .ref ak, .int (nI ke), .int (nI kn), .int fd, .ref ab, .ref az, .ref as_, .ref ae, .ref ao, .ref ar, .ref aw, .ref al, .ref am, .int (nI mn), .ref af, .ref ac])), (an, .inl (N.2 0, 572, .inl nw))] H := hP
  have hD : va_D Ag [(mm, .inr (11, [.ref an, .ref ak, .int (nI ke), .int (nI kn), .int fd, .ref ab, .ref az, .ref as_, .ref ae, .ref ao, .ref ar, .ref aw, .ref al, .ref am, .int (nI mn), .ref af, .ref ac])), (an, .inl (N.2 0, 572, .inl nw))] := hD
  refine lv_iconst (v := (nI 1)) hx hb dX11_doesFly_38 (by decide) ?_
  refine lv_iadd hx hb dX11_doesFly_39 ?_
  refine lv_aload_n hx hb dX11_doesFly_40 rfl (lv_at hl 3 rfl) ?_
  refine lv_iload_n hx hb dX11_doesFly_41 rfl (lv_at hl 4 rfl) ?_
  refine lv_bipush (v := (nI 7)) hx hb dX11_doesFly_42 (by decide) ?_
  refine ck_Vi (As := [.int (nI i), .int (nI 7)]) (rest := [.int ((tr (i * 8 + 6)) + (nI 1)), .int (fo ((ht i) * 20 + mi))]) (wr := []) C0 hP hD hS (c_X11_ofFlyer l N mm an ak ab az as_ ae ao ar aw al am af ac ke kn fd mn nw cf n wk tr di fo w sdf wof shf twf i 7 hV (by omega)) myX11_ofFlyer k4_96 ⟨Nat.le_of_ble_eq_true rfl, Nat.le_of_ble_eq_true rfl⟩ [0, 1] [] ⟨⟨rfl, rfl⟩, by decide, by decide, by decide⟩ 0 rfl rfl rfl rfl hl.1 rfl (Nat.le_of_ble_eq_true rfl) dX11_doesFly_44 ⟨Nat.le_of_ble_eq_true rfl, Nat.le_of_ble_eq_true rfl⟩ (fun r_24 u0 H locs hw0 hP hD hS => ?_)
  have hw_25 : r_24 = (tr (i * 8 + 7)) := hw0
  subst hw_25
  have hP : va_P N.1 vwCl [(mm, .inr (11, [.ref an, .ref ak, .int (nI ke), .int (nI kn), .int fd, .ref ab, .ref az, .ref as_, .ref ae, .ref ao, .ref ar, .ref aw, .ref al, .ref am, .int (nI mn), .ref af, .ref ac])), (an, .inl (N.2 0, 572, .inl nw))] H := hP
  have hD : va_D Ag [(mm, .inr (11, [.ref an, .ref ak, .int (nI ke), .int (nI kn), .int fd, .ref ab, .ref az, .ref as_, .ref ae, .ref ao, .ref ar, .ref aw, .ref al, .ref am, .int (nI mn), .ref af, .ref ac])), (an, .inl (N.2 0, 572, .inl nw))] := hD
  refine lv_iconst (v := (nI 2)) hx hb dX11_doesFly_47 (by decide) ?_
  refine lv_iadd hx hb dX11_doesFly_48 ?_
  refine ck_Si (As := [.int (fo ((ht i) * 20 + mi)), .int ((tr (i * 8 + 6)) + (nI 1)), .int ((tr (i * 8 + 7)) + (nI 2))]) (rest := []) (wr := [(mm, .inr (11, [.ref an, .ref ak, .int (nI ke), .int (nI kn), .int fd, .ref ab, .ref az, .ref as_, .ref ae, .ref ao, .ref ar, .ref aw, .ref al, .ref am, .int (nI mn), .ref af, .ref ac])), (an, .inl (N.2 0, 572, .inl nw))]) C0 hP hD hS (c_X11_in l N (fo ((ht i) * 20 + mi)) ((tr (i * 8 + 6)) + (nI 1)) ((tr (i * 8 + 7)) + (nI 2)) ) myX11_in k4_75 ⟨Nat.le_of_ble_eq_true rfl, Nat.le_of_ble_eq_true rfl⟩ [] [0, 1] ⟨⟨rfl, rfl⟩, by decide, by decide, by decide⟩ rfl hl.1 rfl (Nat.le_of_ble_eq_true rfl) dX11_doesFly_49 ⟨Nat.le_of_ble_eq_true rfl, Nat.le_of_ble_eq_true rfl⟩ (fun r_26 u0 H locs hw0 hP hD hS => ?_)
  have hw_27 : r_26 = (b2i (ckIn (fo ((ht i) * 20 + mi)) ((tr (i * 8 + 6)) + (nI 1)) ((tr (i * 8 + 7)) + (nI 2)))) := hw0
  subst hw_27
  have hP : va_P N.1 vwCl [(mm, .inr (11, [.ref an, .ref ak, .int (nI ke), .int (nI kn), .int fd, .ref ab, .ref az, .ref as_, .ref ae, .ref ao, .ref ar, .ref aw, .ref al, .ref am, .int (nI mn), .ref af, .ref ac])), (an, .inl (N.2 0, 572, .inl nw))] H := hP
  have hD : va_D Ag [(mm, .inr (11, [.ref an, .ref ak, .int (nI ke), .int (nI kn), .int fd, .ref ab, .ref az, .ref as_, .ref ae, .ref ao, .ref ar, .ref aw, .ref al, .ref am, .int (nI mn), .ref af, .ref ac])), (an, .inl (N.2 0, 572, .inl nw))] := hD
  exact ck_zret (b := (ckIn (fo ((ht i) * 20 + mi)) ((tr (i * 8 + 6)) + (nI 1)) ((tr (i * 8 + 7)) + (nI 2)))) hx hb hrt hlk () (congrArg b2i (fFly_box cz_7).symm) hP hD hS ⟨Nat.le_of_ble_eq_true rfl, Nat.le_of_ble_eq_true rfl⟩ dX11_doesFly_52
set_option maxHeartbeats 4000000 in
set_option maxRecDepth 100000 in
/-- X11_whereIs -/
theorem c_X11_whereIs (l : Launch) (N : ckN) (mm : Nat) (an : Nat) (ak : Nat) (ab : Nat) (az : Nat) (as_ : Nat) (ae : Nat) (ao : Nat) (ar : Nat) (aw : Nat) (al : Nat) (am : Nat) (af : Nat) (ac : Nat) (ke : Nat) (kn : Nat) (fd : Int32) (mn : Nat) (nw : Nat → Int32) (ea : Nat → Int32) (no : Nat → Int32) (cf : Nat) (n : Nat) (wk : Int32) (tr : Nat → Int32) (di : Nat → Int32) (fo : Nat → Int32) (w : Nat → List Nat) (sdf : Nat → Int32) (wof : Nat → Int32) (shf : Nat → Int32) (twf : Nat → Int32) (kd : Nat → Nat) (ht : Nat → Nat) (dr : Nat → Nat) (i : Nat) (mi : Nat) (bb : Bool) (hV : mV nw cf n wk tr di fo w sdf wof shf twf) (hAir : ckAir tr di cf kd ht dr) (hea : ∀ j, j < 8 → ea j = ckSX j) (hno : ∀ j, j < 8 → no j = ckSY j) (hi : i < cf) (hm : mi < 20) : ckI l yX11_whereIs cX11_whereIs 5 (some FieldType.int) { frames := 3, cells := 0, slots := 0, locals := 82 } N [.ref mm, .int (nI i), .int (nI mi), .int (b2i bb)] [(mm, .inr (11, [.ref an, .ref ak, .int (nI ke), .int (nI kn), .int fd, .ref ab, .ref az, .ref as_, .ref ae, .ref ao, .ref ar, .ref aw, .ref al, .ref am, .int (nI mn), .ref af, .ref ac])), (an, .inl (N.2 0, 572, .inl nw)), (ae, .inl (N.2 0, 8, .inl ea)), (ao, .inl (N.2 0, 8, .inl no))] (fun (r : Int32) (u : Unit) => r = (if bb = true then fY tr ht dr i mi else fX tr ht dr i mi)) (fun (u : Unit) => [(mm, .inr (11, [.ref an, .ref ak, .int (nI ke), .int (nI kn), .int fd, .ref ab, .ref az, .ref as_, .ref ae, .ref ao, .ref ar, .ref aw, .ref al, .ref am, .int (nI mn), .ref af, .ref ac])), (an, .inl (N.2 0, 572, .inl nw)), (ae, .inl (N.2 0, 8, .inl ea)), (ao, .inl (N.2 0, 8, .inl no))]) := by
  refine ckI.of (by decide) (Nat.le_of_ble_eq_true rfl) ?_
  intro pg eg sg mg blw mth cg Ag ls hx hb hrt hml hown hlk hin hg hE hA hP hD hS hl
  have hown : sg.vm.findClass RX11 = some mg.cls := hown
  have hl : lv_has ls 5 [(0, .ref mm), (1, .int (nI i)), (2, .int (nI mi)), (3, .int (b2i bb))] := hl
  have C0 : ckC pg sg mg ([.ref mm, .int (nI i), .int (nI mi), .int (b2i bb)]).toArray cg cX11_whereIs 5 RX11 N Ag := ⟨⟨hx, hb, hml, hown, hg⟩, hE, hA⟩
  generalize hHe : sg.heap = H at hP
  have hS : va_S Ag sg.heap H [] := hHe ▸ hS
  obtain ⟨hn8, hAi, hAd⟩ := id hAir
  obtain ⟨hki, hk4, hhi, hh4⟩ := hAi i hi
  obtain ⟨hdj, hd8⟩ := hAd (ht i * 20 + mi) (by omega)
  refine lv_aload_n hx hb dX11_whereIs_0 rfl (lv_at hl 0 rfl) ?_
  refine va_get (ci := 11) (v := .ref an) (C := RX11) (T := TX11) (N := 17) hx hb hg inX11 hown hE.1 hP 0 rfl rfl 0 (by decide) (hg _ k4_10) (fun _ h9 => h9) rfl dX11_whereIs_1 ?_
  refine lv_aload_n hx hb dX11_whereIs_4 rfl (lv_at hl 0 rfl) ?_
  refine lv_iload_n hx hb dX11_whereIs_5 rfl (lv_at hl 1 rfl) ?_
  refine lv_iconst (v := (nI 3)) hx hb dX11_whereIs_6 (by decide) ?_
  refine ck_Vi (As := [.int (nI i), .int (nI 3)]) (rest := [.ref an]) (wr := [(ae, .inl (N.2 0, 8, .inl ea)), (ao, .inl (N.2 0, 8, .inl no))]) C0 hP hD hS (c_X11_ofFlyer l N mm an ak ab az as_ ae ao ar aw al am af ac ke kn fd mn nw cf n wk tr di fo w sdf wof shf twf i 3 hV (by omega)) myX11_ofFlyer k4_96 ⟨Nat.le_of_ble_eq_true rfl, Nat.le_of_ble_eq_true rfl⟩ [0, 1] [2, 3] ⟨⟨rfl, rfl⟩, by decide, by decide, by decide⟩ 0 rfl rfl rfl rfl hl.1 rfl (Nat.le_of_ble_eq_true rfl) dX11_whereIs_7 ⟨Nat.le_of_ble_eq_true rfl, Nat.le_of_ble_eq_true rfl⟩ (fun r_1 u0 H locs hw0 hP hD hS => ?_)
  have hw_2 : r_1 = (tr (i * 8 + 3)) := hw0
  subst hw_2
  have hP : va_P N.1 vwCl [(ae, .inl (N.2 0, 8, .inl ea)), (ao, .inl (N.2 0, 8, .inl no)), (mm, .inr (11, [.ref an, .ref ak, .int (nI ke), .int (nI kn), .int fd, .ref ab, .ref az, .ref as_, .ref ae, .ref ao, .ref ar, .ref aw, .ref al, .ref am, .int (nI mn), .ref af, .ref ac])), (an, .inl (N.2 0, 572, .inl nw))] H := hP
  have hD : va_D Ag [(ae, .inl (N.2 0, 8, .inl ea)), (ao, .inl (N.2 0, 8, .inl no)), (mm, .inr (11, [.ref an, .ref ak, .int (nI ke), .int (nI kn), .int fd, .ref ab, .ref az, .ref as_, .ref ae, .ref ao, .ref ar, .ref aw, .ref al, .ref am, .int (nI mn), .ref af, .ref ac])), (an, .inl (N.2 0, 572, .inl nw))] := hD
  refine ck_top (y := (nI (ht i))) hhi ?_
  refine lv_iload_n hx hb dX11_whereIs_10 rfl (lv_at hl 2 rfl) ?_
  refine ck_Si (As := [.int (nI (ht i)), .int (nI mi)]) (rest := [.ref an]) (wr := [(ae, .inl (N.2 0, 8, .inl ea)), (ao, .inl (N.2 0, 8, .inl no)), (mm, .inr (11, [.ref an, .ref ak, .int (nI ke), .int (nI kn), .int fd, .ref ab, .ref az, .ref as_, .ref ae, .ref ao, .ref ar, .ref aw, .ref al, .ref am, .int (nI mn), .ref af, .ref ac])), (an, .inl (N.2 0, 572, .inl nw))]) C0 hP hD hS (c_X11_windOf l N (ht i) mi ) myX11_windOf k4_120 ⟨Nat.le_of_ble_eq_true rfl, Nat.le_of_ble_eq_true rfl⟩ [] [0, 1, 2, 3] ⟨⟨rfl, rfl⟩, by decide, by decide, by decide⟩ rfl hl.1 rfl (Nat.le_of_ble_eq_true rfl) dX11_whereIs_11 ⟨Nat.le_of_ble_eq_true rfl, Nat.le_of_ble_eq_true rfl⟩ (fun r_3 u0 H locs hw0 hP hD hS => ?_)
  have hw_4 : r_3 = (nI (67 + 2 * (20 * (ht i) + mi))) := hw0
  subst hw_4
  have hP : va_P N.1 vwCl [(ae, .inl (N.2 0, 8, .inl ea)), (ao, .inl (N.2 0, 8, .inl no)), (mm, .inr (11, [.ref an, .ref ak, .int (nI ke), .int (nI kn), .int fd, .ref ab, .ref az, .ref as_, .ref ae, .ref ao, .ref ar, .ref aw, .ref al, .ref am, .int (nI mn), .ref af, .ref ac])), (an, .inl (N.2 0, 572, .inl nw))] H := hP
  have hD : va_D Ag [(ae, .inl (N.2 0, 8, .inl ea)), (ao, .inl (N.2 0, 8, .inl no)), (mm, .inr (11, [.ref an, .ref ak, .int (nI ke), .int (nI kn), .int fd, .ref ab, .ref az, .ref as_, .ref ae, .ref ao, .ref ar, .ref aw, .ref al, .ref am, .int (nI mn), .ref af, .ref ac])), (an, .inl (N.2 0, 572, .inl nw))] := hD
  refine ck_iald hx hb hE hP 3 rfl (by omega) (by decide) dX11_whereIs_14 ?_
  refine ck_top (y := (nI (dr (ht i * 20 + mi)))) ((congrArg nw (by omega)).trans ((hV.2.2.2.2.1 (ht i * 20 + mi) (by omega)).trans hdj)) ?_
  refine lv_istore (lv' := [(4, .int (nI (dr (ht i * 20 + mi)))), (0, .ref mm), (1, .int (nI i)), (2, .int (nI mi)), (3, .int (b2i bb))]) hx hb dX11_whereIs_15 hl (by decide) rfl (fun ls hl => ?_)
  refine lv_aload_n hx hb dX11_whereIs_17 rfl (lv_at hl 1 rfl) ?_
  refine lv_iload_n hx hb dX11_whereIs_18 rfl (lv_at hl 2 rfl) ?_
  refine lv_iload_n hx hb dX11_whereIs_19 rfl (lv_at hl 4 rfl) ?_
  refine ck_ifeq (b := bb) (tgt := 27) hx hb dX11_whereIs_20 (by decide) (fun cz_5 => ?_) (fun cz_5 => ?_)
  · subst cz_5
    refine lv_iconst (v := (nI 1)) hx hb dX11_whereIs_27 (by decide) ?_
    refine ck_Vi (As := [.int (nI i), .int (nI 1)]) (rest := []) (wr := [(ae, .inl (N.2 0, 8, .inl ea)), (ao, .inl (N.2 0, 8, .inl no))]) C0 hP hD hS (c_X11_ofFlyer l N mm an ak ab az as_ ae ao ar aw al am af ac ke kn fd mn nw cf n wk tr di fo w sdf wof shf twf i 1 hV (by omega)) myX11_ofFlyer k4_96 ⟨Nat.le_of_ble_eq_true rfl, Nat.le_of_ble_eq_true rfl⟩ [2, 3] [0, 1] ⟨⟨rfl, rfl⟩, by decide, by decide, by decide⟩ 2 rfl rfl rfl rfl hl.1 rfl (Nat.le_of_ble_eq_true rfl) dX11_whereIs_28 ⟨Nat.le_of_ble_eq_true rfl, Nat.le_of_ble_eq_true rfl⟩ (fun r_6 u0 H locs hw0 hP hD hS => ?_)
    have hw_7 : r_6 = (tr (i * 8 + 1)) := hw0
    subst hw_7
    have hP : va_P N.1 vwCl [(ae, .inl (N.2 0, 8, .inl ea)), (ao, .inl (N.2 0, 8, .inl no)), (mm, .inr (11, [.ref an, .ref ak, .int (nI ke), .int (nI kn), .int fd, .ref ab, .ref az, .ref as_, .ref ae, .ref ao, .ref ar, .ref aw, .ref al, .ref am, .int (nI mn), .ref af, .ref ac])), (an, .inl (N.2 0, 572, .inl nw))] H := hP
    have hD : va_D Ag [(ae, .inl (N.2 0, 8, .inl ea)), (ao, .inl (N.2 0, 8, .inl no)), (mm, .inr (11, [.ref an, .ref ak, .int (nI ke), .int (nI kn), .int fd, .ref ab, .ref az, .ref as_, .ref ae, .ref ao, .ref ar, .ref aw, .ref al, .ref am, .int (nI mn), .ref af, .ref ac])), (an, .inl (N.2 0, 572, .inl nw))] := hD
    refine lv_aload_n hx hb dX11_whereIs_31 rfl (lv_at hl 1 rfl) ?_
    refine lv_iload_n hx hb dX11_whereIs_32 rfl (lv_at hl 2 rfl) ?_
    refine lv_iconst (v := (nI 4)) hx hb dX11_whereIs_33 (by decide) ?_
    refine ck_Vi (As := [.int (nI i), .int (nI 4)]) (rest := [.int (tr (i * 8 + 1))]) (wr := [(ae, .inl (N.2 0, 8, .inl ea)), (ao, .inl (N.2 0, 8, .inl no))]) C0 hP hD hS (c_X11_ofFlyer l N mm an ak ab az as_ ae ao ar aw al am af ac ke kn fd mn nw cf n wk tr di fo w sdf wof shf twf i 4 hV (by omega)) myX11_ofFlyer k4_96 ⟨Nat.le_of_ble_eq_true rfl, Nat.le_of_ble_eq_true rfl⟩ [2, 3] [0, 1] ⟨⟨rfl, rfl⟩, by decide, by decide, by decide⟩ 2 rfl rfl rfl rfl hl.1 rfl (Nat.le_of_ble_eq_true rfl) dX11_whereIs_34 ⟨Nat.le_of_ble_eq_true rfl, Nat.le_of_ble_eq_true rfl⟩ (fun r_8 u0 H locs hw0 hP hD hS => ?_)
    have hw_9 : r_8 = (tr (i * 8 + 4)) := hw0
    subst hw_9
    have hP : va_P N.1 vwCl [(ae, .inl (N.2 0, 8, .inl ea)), (ao, .inl (N.2 0, 8, .inl no)), (mm, .inr (11, [.ref an, .ref ak, .int (nI ke), .int (nI kn), .int fd, .ref ab, .ref az, .ref as_, .ref ae, .ref ao, .ref ar, .ref aw, .ref al, .ref am, .int (nI mn), .ref af, .ref ac])), (an, .inl (N.2 0, 572, .inl nw))] H := hP
    have hD : va_D Ag [(ae, .inl (N.2 0, 8, .inl ea)), (ao, .inl (N.2 0, 8, .inl no)), (mm, .inr (11, [.ref an, .ref ak, .int (nI ke), .int (nI kn), .int fd, .ref ab, .ref az, .ref as_, .ref ae, .ref ao, .ref ar, .ref aw, .ref al, .ref am, .int (nI mn), .ref af, .ref ac])), (an, .inl (N.2 0, 572, .inl nw))] := hD
    refine lv_iload_n hx hb dX11_whereIs_37 rfl (lv_at hl 4 rfl) ?_
    refine ck_ifeq (b := false) (tgt := 51) hx hb dX11_whereIs_38 (by decide) (fun cz_10 => ?_) (fun cz_10 => absurd cz_10 (by decide))
    refine lv_aload_n hx hb dX11_whereIs_51 rfl (lv_at hl 1 rfl) ?_
    refine va_get (ci := 11) (v := .ref ae) (C := RX11) (T := TX11) (N := 17) hx hb hg inX11 hown hE.1 hP 2 rfl rfl 8 (by decide) (hg _ k4_18) (fun _ h9 => h9) rfl dX11_whereIs_52 ?_
    refine lv_iload hx hb dX11_whereIs_55 (lv_at hl 0 rfl) ?_
    refine ck_iald hx hb hE hP 0 rfl (by omega) (by decide) dX11_whereIs_57 ?_
    refine ck_top (y := (ckSX (dr (ht i * 20 + mi)))) (hea _ hd8) ?_
    refine lv_imul hx hb dX11_whereIs_58 ?_
    refine lv_iadd hx hb dX11_whereIs_59 ?_
    exact ck_iret hx hb hrt hlk () rfl (hP.sub [2, 3, 0, 1] rfl) (hD.sub [2, 3, 0, 1] (by decide) rfl) hS ⟨Nat.le_of_ble_eq_true rfl, Nat.le_of_ble_eq_true rfl⟩ dX11_whereIs_60
  subst cz_5
  refine lv_iconst (v := (nI 2)) hx hb dX11_whereIs_23 (by decide) ?_
  refine lv_goto (tgt := 28) hx hb dX11_whereIs_24 (by decide) ?_
  refine ck_Vi (As := [.int (nI i), .int (nI 2)]) (rest := []) (wr := [(ae, .inl (N.2 0, 8, .inl ea)), (ao, .inl (N.2 0, 8, .inl no))]) C0 hP hD hS (c_X11_ofFlyer l N mm an ak ab az as_ ae ao ar aw al am af ac ke kn fd mn nw cf n wk tr di fo w sdf wof shf twf i 2 hV (by omega)) myX11_ofFlyer k4_96 ⟨Nat.le_of_ble_eq_true rfl, Nat.le_of_ble_eq_true rfl⟩ [2, 3] [0, 1] ⟨⟨rfl, rfl⟩, by decide, by decide, by decide⟩ 2 rfl rfl rfl rfl hl.1 rfl (Nat.le_of_ble_eq_true rfl) dX11_whereIs_28 ⟨Nat.le_of_ble_eq_true rfl, Nat.le_of_ble_eq_true rfl⟩ (fun r_11 u0 H locs hw0 hP hD hS => ?_)
  have hw_12 : r_11 = (tr (i * 8 + 2)) := hw0
  subst hw_12
  have hP : va_P N.1 vwCl [(ae, .inl (N.2 0, 8, .inl ea)), (ao, .inl (N.2 0, 8, .inl no)), (mm, .inr (11, [.ref an, .ref ak, .int (nI ke), .int (nI kn), .int fd, .ref ab, .ref az, .ref as_, .ref ae, .ref ao, .ref ar, .ref aw, .ref al, .ref am, .int (nI mn), .ref af, .ref ac])), (an, .inl (N.2 0, 572, .inl nw))] H := hP
  have hD : va_D Ag [(ae, .inl (N.2 0, 8, .inl ea)), (ao, .inl (N.2 0, 8, .inl no)), (mm, .inr (11, [.ref an, .ref ak, .int (nI ke), .int (nI kn), .int fd, .ref ab, .ref az, .ref as_, .ref ae, .ref ao, .ref ar, .ref aw, .ref al, .ref am, .int (nI mn), .ref af, .ref ac])), (an, .inl (N.2 0, 572, .inl nw))] := hD
  refine lv_aload_n hx hb dX11_whereIs_31 rfl (lv_at hl 1 rfl) ?_
  refine lv_iload_n hx hb dX11_whereIs_32 rfl (lv_at hl 2 rfl) ?_
  refine lv_iconst (v := (nI 4)) hx hb dX11_whereIs_33 (by decide) ?_
  refine ck_Vi (As := [.int (nI i), .int (nI 4)]) (rest := [.int (tr (i * 8 + 2))]) (wr := [(ae, .inl (N.2 0, 8, .inl ea)), (ao, .inl (N.2 0, 8, .inl no))]) C0 hP hD hS (c_X11_ofFlyer l N mm an ak ab az as_ ae ao ar aw al am af ac ke kn fd mn nw cf n wk tr di fo w sdf wof shf twf i 4 hV (by omega)) myX11_ofFlyer k4_96 ⟨Nat.le_of_ble_eq_true rfl, Nat.le_of_ble_eq_true rfl⟩ [2, 3] [0, 1] ⟨⟨rfl, rfl⟩, by decide, by decide, by decide⟩ 2 rfl rfl rfl rfl hl.1 rfl (Nat.le_of_ble_eq_true rfl) dX11_whereIs_34 ⟨Nat.le_of_ble_eq_true rfl, Nat.le_of_ble_eq_true rfl⟩ (fun r_13 u0 H locs hw0 hP hD hS => ?_)
  have hw_14 : r_13 = (tr (i * 8 + 4)) := hw0
  subst hw_14
  have hP : va_P N.1 vwCl [(ae, .inl (N.2 0, 8, .inl ea)), (ao, .inl (N.2 0, 8, .inl no)), (mm, .inr (11, [.ref an, .ref ak, .int (nI ke), .int (nI kn), .int fd, .ref ab, .ref az, .ref as_, .ref ae, .ref ao, .ref ar, .ref aw, .ref al, .ref am, .int (nI mn), .ref af, .ref ac])), (an, .inl (N.2 0, 572, .inl nw))] H := hP
  have hD : va_D Ag [(ae, .inl (N.2 0, 8, .inl ea)), (ao, .inl (N.2 0, 8, .inl no)), (mm, .inr (11, [.ref an, .ref ak, .int (nI ke), .int (nI kn), .int fd, .ref ab, .ref az, .ref as_, .ref ae, .ref ao, .ref ar, .ref aw, .ref al, .ref am, .int (nI mn), .ref af, .ref ac])), (an, .inl (N.2 0, 572, .inl nw))] := hD
  refine lv_iload_n hx hb dX11_whereIs_37 rfl (lv_at hl 4 rfl) ?_
  refine ck_ifeq (b := true) (tgt := 51) hx hb dX11_whereIs_38 (by decide) (fun cz_15 => absurd cz_15 (by decide)) (fun cz_15 => ?_)
  refine lv_aload_n hx hb dX11_whereIs_41 rfl (lv_at hl 1 rfl) ?_
  refine va_get (ci := 11) (v := .ref ao) (C := RX11) (T := TX11) (N := 17) hx hb hg inX11 hown hE.1 hP 2 rfl rfl 9 (by decide) (hg _ k4_19) (fun _ h9 => h9) rfl dX11_whereIs_42 ?_
  refine lv_iload hx hb dX11_whereIs_45 (lv_at hl 0 rfl) ?_
  refine ck_iald hx hb hE hP 1 rfl (by omega) (by decide) dX11_whereIs_47 ?_
  refine ck_top (y := (ckSY (dr (ht i * 20 + mi)))) (hno _ hd8) ?_
  refine lv_goto (tgt := 58) hx hb dX11_whereIs_48 (by decide) ?_
  refine lv_imul hx hb dX11_whereIs_58 ?_
  refine lv_iadd hx hb dX11_whereIs_59 ?_
  exact ck_iret hx hb hrt hlk () rfl (hP.sub [2, 3, 0, 1] rfl) (hD.sub [2, 3, 0, 1] (by decide) rfl) hS ⟨Nat.le_of_ble_eq_true rfl, Nat.le_of_ble_eq_true rfl⟩ dX11_whereIs_60
set_option maxHeartbeats 4000000 in
set_option maxRecDepth 100000 in
/-- X11_doMeet -/
theorem c_X11_doMeet (l : Launch) (N : ckN) (mm : Nat) (an : Nat) (ak : Nat) (ab : Nat) (az : Nat) (as_ : Nat) (ae : Nat) (ao : Nat) (ar : Nat) (aw : Nat) (al : Nat) (am : Nat) (af : Nat) (ac : Nat) (ke : Nat) (kn : Nat) (fd : Int32) (mn : Nat) (nw : Nat → Int32) (ea : Nat → Int32) (no : Nat → Int32) (cf : Nat) (n : Nat) (wk : Int32) (tr : Nat → Int32) (di : Nat → Int32) (fo : Nat → Int32) (w : Nat → List Nat) (sdf : Nat → Int32) (wof : Nat → Int32) (shf : Nat → Int32) (twf : Nat → Int32) (kd : Nat → Nat) (ht : Nat → Nat) (dr : Nat → Nat) (i : Nat) (j : Nat) (mi : Nat) (hV : mV nw cf n wk tr di fo w sdf wof shf twf) (hAir : ckAir tr di cf kd ht dr) (hTr : ckTr tr cf) (hFo : ckFo fo) (hea : ∀ j, j < 8 → ea j = ckSX j) (hno : ∀ j, j < 8 → no j = ckSY j) (hi : i < cf) (hj : j < cf) (hm : mi < 20) : ckI l yX11_doMeet cX11_doMeet 5 (some FieldType.boolean) { frames := 5, cells := 0, slots := 0, locals := 128 } N [.ref mm, .int (nI i), .int (nI j), .int (nI mi)] [(mm, .inr (11, [.ref an, .ref ak, .int (nI ke), .int (nI kn), .int fd, .ref ab, .ref az, .ref as_, .ref ae, .ref ao, .ref ar, .ref aw, .ref al, .ref am, .int (nI mn), .ref af, .ref ac])), (an, .inl (N.2 0, 572, .inl nw)), (ae, .inl (N.2 0, 8, .inl ea)), (ao, .inl (N.2 0, 8, .inl no))] (fun (r : Int32) (u : Unit) => r = (b2i (fNear tr fo kd ht dr i j mi))) (fun (u : Unit) => [(mm, .inr (11, [.ref an, .ref ak, .int (nI ke), .int (nI kn), .int fd, .ref ab, .ref az, .ref as_, .ref ae, .ref ao, .ref ar, .ref aw, .ref al, .ref am, .int (nI mn), .ref af, .ref ac])), (an, .inl (N.2 0, 572, .inl nw)), (ae, .inl (N.2 0, 8, .inl ea)), (ao, .inl (N.2 0, 8, .inl no))]) := by
  refine ckI.of (by decide) (Nat.le_of_ble_eq_true rfl) ?_
  intro pg eg sg mg blw mth cg Ag ls hx hb hrt hml hown hlk hin hg hE hA hP hD hS hl
  have hown : sg.vm.findClass RX11 = some mg.cls := hown
  have hl : lv_has ls 5 [(0, .ref mm), (1, .int (nI i)), (2, .int (nI j)), (3, .int (nI mi))] := hl
  have C0 : ckC pg sg mg ([.ref mm, .int (nI i), .int (nI j), .int (nI mi)]).toArray cg cX11_doMeet 5 RX11 N Ag := ⟨⟨hx, hb, hml, hown, hg⟩, hE, hA⟩
  generalize hHe : sg.heap = H at hP
  have hS : va_S Ag sg.heap H [] := hHe ▸ hS
  obtain ⟨hn8, hAi, hAd⟩ := id hAir
  obtain ⟨hki, hk4, hhi, hh4⟩ := hAi i hi
  obtain ⟨hkj, hkj4, hhj, hhj4⟩ := hAi j hj
  refine lv_aload_n hx hb dX11_doMeet_0 rfl (lv_at hl 0 rfl) ?_
  refine lv_iload_n hx hb dX11_doMeet_1 rfl (lv_at hl 1 rfl) ?_
  refine lv_iconst (v := (nI 3)) hx hb dX11_doMeet_2 (by decide) ?_
  refine ck_Vi (As := [.int (nI i), .int (nI 3)]) (rest := []) (wr := [(ae, .inl (N.2 0, 8, .inl ea)), (ao, .inl (N.2 0, 8, .inl no))]) C0 hP hD hS (c_X11_ofFlyer l N mm an ak ab az as_ ae ao ar aw al am af ac ke kn fd mn nw cf n wk tr di fo w sdf wof shf twf i 3 hV (by omega)) myX11_ofFlyer k4_96 ⟨Nat.le_of_ble_eq_true rfl, Nat.le_of_ble_eq_true rfl⟩ [0, 1] [2, 3] ⟨⟨rfl, rfl⟩, by decide, by decide, by decide⟩ 0 rfl rfl rfl rfl hl.1 rfl (Nat.le_of_ble_eq_true rfl) dX11_doMeet_3 ⟨Nat.le_of_ble_eq_true rfl, Nat.le_of_ble_eq_true rfl⟩ (fun r_1 u0 H locs hw0 hP hD hS => ?_)
  have hw_2 : r_1 = (tr (i * 8 + 3)) := hw0
  subst hw_2
  have hP : va_P N.1 vwCl [(ae, .inl (N.2 0, 8, .inl ea)), (ao, .inl (N.2 0, 8, .inl no)), (mm, .inr (11, [.ref an, .ref ak, .int (nI ke), .int (nI kn), .int fd, .ref ab, .ref az, .ref as_, .ref ae, .ref ao, .ref ar, .ref aw, .ref al, .ref am, .int (nI mn), .ref af, .ref ac])), (an, .inl (N.2 0, 572, .inl nw))] H := hP
  have hD : va_D Ag [(ae, .inl (N.2 0, 8, .inl ea)), (ao, .inl (N.2 0, 8, .inl no)), (mm, .inr (11, [.ref an, .ref ak, .int (nI ke), .int (nI kn), .int fd, .ref ab, .ref az, .ref as_, .ref ae, .ref ao, .ref ar, .ref aw, .ref al, .ref am, .int (nI mn), .ref af, .ref ac])), (an, .inl (N.2 0, 572, .inl nw))] := hD
  refine ck_top (y := (nI (ht i))) hhi ?_
  refine lv_aload_n hx hb dX11_doMeet_6 rfl (lv_at hl 0 rfl) ?_
  refine lv_iload_n hx hb dX11_doMeet_7 rfl (lv_at hl 2 rfl) ?_
  refine lv_iconst (v := (nI 3)) hx hb dX11_doMeet_8 (by decide) ?_
  refine ck_Vi (As := [.int (nI j), .int (nI 3)]) (rest := [.int (nI (ht i))]) (wr := [(ae, .inl (N.2 0, 8, .inl ea)), (ao, .inl (N.2 0, 8, .inl no))]) C0 hP hD hS (c_X11_ofFlyer l N mm an ak ab az as_ ae ao ar aw al am af ac ke kn fd mn nw cf n wk tr di fo w sdf wof shf twf j 3 hV (by omega)) myX11_ofFlyer k4_96 ⟨Nat.le_of_ble_eq_true rfl, Nat.le_of_ble_eq_true rfl⟩ [2, 3] [0, 1] ⟨⟨rfl, rfl⟩, by decide, by decide, by decide⟩ 2 rfl rfl rfl rfl hl.1 rfl (Nat.le_of_ble_eq_true rfl) dX11_doMeet_9 ⟨Nat.le_of_ble_eq_true rfl, Nat.le_of_ble_eq_true rfl⟩ (fun r_3 u0 H locs hw0 hP hD hS => ?_)
  have hw_4 : r_3 = (tr (j * 8 + 3)) := hw0
  subst hw_4
  have hP : va_P N.1 vwCl [(ae, .inl (N.2 0, 8, .inl ea)), (ao, .inl (N.2 0, 8, .inl no)), (mm, .inr (11, [.ref an, .ref ak, .int (nI ke), .int (nI kn), .int fd, .ref ab, .ref az, .ref as_, .ref ae, .ref ao, .ref ar, .ref aw, .ref al, .ref am, .int (nI mn), .ref af, .ref ac])), (an, .inl (N.2 0, 572, .inl nw))] H := hP
  have hD : va_D Ag [(ae, .inl (N.2 0, 8, .inl ea)), (ao, .inl (N.2 0, 8, .inl no)), (mm, .inr (11, [.ref an, .ref ak, .int (nI ke), .int (nI kn), .int fd, .ref ab, .ref az, .ref as_, .ref ae, .ref ao, .ref ar, .ref aw, .ref al, .ref am, .int (nI mn), .ref af, .ref ac])), (an, .inl (N.2 0, 572, .inl nw))] := hD
  refine ck_top (y := (nI (ht j))) hhj ?_
  refine ck_ic_ne (tgt := 33) hx hb dX11_doMeet_12 (by decide) (by omega) (by omega) (fun cz_5 => ?_) (fun cz_5 => ?_)
  · refine lv_iconst (v := (nI 0)) hx hb dX11_doMeet_33 (by decide) ?_
    refine ck_top (y := (b2i false)) (by decide) ?_
    exact ck_zret (b := false) hx hb hrt hlk () (congrArg b2i (by rw [fNear_in hTr hi hj, decide_eq_false cz_5]; rfl)) (hP.sub [2, 3, 0, 1] rfl) (hD.sub [2, 3, 0, 1] (by decide) rfl) hS ⟨Nat.le_of_ble_eq_true rfl, Nat.le_of_ble_eq_true rfl⟩ dX11_doMeet_34
  refine lv_aload_n hx hb dX11_doMeet_15 rfl (lv_at hl 0 rfl) ?_
  refine lv_iload_n hx hb dX11_doMeet_16 rfl (lv_at hl 1 rfl) ?_
  refine lv_iload_n hx hb dX11_doMeet_17 rfl (lv_at hl 3 rfl) ?_
  refine ck_Vi (As := [.int (nI i), .int (nI mi)]) (rest := []) (wr := [(ae, .inl (N.2 0, 8, .inl ea)), (ao, .inl (N.2 0, 8, .inl no))]) C0 hP hD hS (c_X11_doesFly l N mm an ak ab az as_ ae ao ar aw al am af ac ke kn fd mn nw cf n wk tr di fo w sdf wof shf twf kd ht dr i mi hV hAir hFo (by omega) (by omega)) myX11_doesFly k4_131 ⟨Nat.le_of_ble_eq_true rfl, Nat.le_of_ble_eq_true rfl⟩ [2, 3] [0, 1] ⟨⟨rfl, rfl⟩, by decide, by decide, by decide⟩ 2 rfl rfl rfl rfl hl.1 rfl (Nat.le_of_ble_eq_true rfl) dX11_doMeet_18 ⟨Nat.le_of_ble_eq_true rfl, Nat.le_of_ble_eq_true rfl⟩ (fun r_6 u0 H locs hw0 hP hD hS => ?_)
  have hw_7 : r_6 = (b2i (fFly tr fo kd ht i mi)) := hw0
  subst hw_7
  have hP : va_P N.1 vwCl [(ae, .inl (N.2 0, 8, .inl ea)), (ao, .inl (N.2 0, 8, .inl no)), (mm, .inr (11, [.ref an, .ref ak, .int (nI ke), .int (nI kn), .int fd, .ref ab, .ref az, .ref as_, .ref ae, .ref ao, .ref ar, .ref aw, .ref al, .ref am, .int (nI mn), .ref af, .ref ac])), (an, .inl (N.2 0, 572, .inl nw))] H := hP
  have hD : va_D Ag [(ae, .inl (N.2 0, 8, .inl ea)), (ao, .inl (N.2 0, 8, .inl no)), (mm, .inr (11, [.ref an, .ref ak, .int (nI ke), .int (nI kn), .int fd, .ref ab, .ref az, .ref as_, .ref ae, .ref ao, .ref ar, .ref aw, .ref al, .ref am, .int (nI mn), .ref af, .ref ac])), (an, .inl (N.2 0, 572, .inl nw))] := hD
  refine ck_ifeq (b := fFly tr fo kd ht i mi) (tgt := 33) hx hb dX11_doMeet_21 (by decide) (fun cz_8 => ?_) (fun cz_8 => ?_)
  · refine lv_iconst (v := (nI 0)) hx hb dX11_doMeet_33 (by decide) ?_
    refine ck_top (y := (b2i false)) (by decide) ?_
    exact ck_zret (b := false) hx hb hrt hlk () (congrArg b2i (by rw [fNear_in hTr hi hj, decide_eq_true cz_5, cz_8]; rfl)) (hP.sub [2, 3, 0, 1] rfl) (hD.sub [2, 3, 0, 1] (by decide) rfl) hS ⟨Nat.le_of_ble_eq_true rfl, Nat.le_of_ble_eq_true rfl⟩ dX11_doMeet_34
  refine lv_aload_n hx hb dX11_doMeet_24 rfl (lv_at hl 0 rfl) ?_
  refine lv_iload_n hx hb dX11_doMeet_25 rfl (lv_at hl 2 rfl) ?_
  refine lv_iload_n hx hb dX11_doMeet_26 rfl (lv_at hl 3 rfl) ?_
  refine ck_Vi (As := [.int (nI j), .int (nI mi)]) (rest := []) (wr := [(ae, .inl (N.2 0, 8, .inl ea)), (ao, .inl (N.2 0, 8, .inl no))]) C0 hP hD hS (c_X11_doesFly l N mm an ak ab az as_ ae ao ar aw al am af ac ke kn fd mn nw cf n wk tr di fo w sdf wof shf twf kd ht dr j mi hV hAir hFo (by omega) (by omega)) myX11_doesFly k4_131 ⟨Nat.le_of_ble_eq_true rfl, Nat.le_of_ble_eq_true rfl⟩ [2, 3] [0, 1] ⟨⟨rfl, rfl⟩, by decide, by decide, by decide⟩ 2 rfl rfl rfl rfl hl.1 rfl (Nat.le_of_ble_eq_true rfl) dX11_doMeet_27 ⟨Nat.le_of_ble_eq_true rfl, Nat.le_of_ble_eq_true rfl⟩ (fun r_9 u0 H locs hw0 hP hD hS => ?_)
  have hw_10 : r_9 = (b2i (fFly tr fo kd ht j mi)) := hw0
  subst hw_10
  have hP : va_P N.1 vwCl [(ae, .inl (N.2 0, 8, .inl ea)), (ao, .inl (N.2 0, 8, .inl no)), (mm, .inr (11, [.ref an, .ref ak, .int (nI ke), .int (nI kn), .int fd, .ref ab, .ref az, .ref as_, .ref ae, .ref ao, .ref ar, .ref aw, .ref al, .ref am, .int (nI mn), .ref af, .ref ac])), (an, .inl (N.2 0, 572, .inl nw))] H := hP
  have hD : va_D Ag [(ae, .inl (N.2 0, 8, .inl ea)), (ao, .inl (N.2 0, 8, .inl no)), (mm, .inr (11, [.ref an, .ref ak, .int (nI ke), .int (nI kn), .int fd, .ref ab, .ref az, .ref as_, .ref ae, .ref ao, .ref ar, .ref aw, .ref al, .ref am, .int (nI mn), .ref af, .ref ac])), (an, .inl (N.2 0, 572, .inl nw))] := hD
  refine ck_ifne (b := fFly tr fo kd ht j mi) (tgt := 35) hx hb dX11_doMeet_30 (by decide) (fun cz_11 => ?_) (fun cz_11 => ?_)
  · refine lv_aload_n hx hb dX11_doMeet_35 rfl (lv_at hl 0 rfl) ?_
    refine lv_iload_n hx hb dX11_doMeet_36 rfl (lv_at hl 1 rfl) ?_
    refine lv_iconst (v := (nI 5)) hx hb dX11_doMeet_37 (by decide) ?_
    refine ck_Vi (As := [.int (nI i), .int (nI 5)]) (rest := []) (wr := [(ae, .inl (N.2 0, 8, .inl ea)), (ao, .inl (N.2 0, 8, .inl no))]) C0 hP hD hS (c_X11_ofFlyer l N mm an ak ab az as_ ae ao ar aw al am af ac ke kn fd mn nw cf n wk tr di fo w sdf wof shf twf i 5 hV (by omega)) myX11_ofFlyer k4_96 ⟨Nat.le_of_ble_eq_true rfl, Nat.le_of_ble_eq_true rfl⟩ [2, 3] [0, 1] ⟨⟨rfl, rfl⟩, by decide, by decide, by decide⟩ 2 rfl rfl rfl rfl hl.1 rfl (Nat.le_of_ble_eq_true rfl) dX11_doMeet_38 ⟨Nat.le_of_ble_eq_true rfl, Nat.le_of_ble_eq_true rfl⟩ (fun r_12 u0 H locs hw0 hP hD hS => ?_)
    have hw_13 : r_12 = (tr (i * 8 + 5)) := hw0
    subst hw_13
    have hP : va_P N.1 vwCl [(ae, .inl (N.2 0, 8, .inl ea)), (ao, .inl (N.2 0, 8, .inl no)), (mm, .inr (11, [.ref an, .ref ak, .int (nI ke), .int (nI kn), .int fd, .ref ab, .ref az, .ref as_, .ref ae, .ref ao, .ref ar, .ref aw, .ref al, .ref am, .int (nI mn), .ref af, .ref ac])), (an, .inl (N.2 0, 572, .inl nw))] H := hP
    have hD : va_D Ag [(ae, .inl (N.2 0, 8, .inl ea)), (ao, .inl (N.2 0, 8, .inl no)), (mm, .inr (11, [.ref an, .ref ak, .int (nI ke), .int (nI kn), .int fd, .ref ab, .ref az, .ref as_, .ref ae, .ref ao, .ref ar, .ref aw, .ref al, .ref am, .int (nI mn), .ref af, .ref ac])), (an, .inl (N.2 0, 572, .inl nw))] := hD
    refine lv_aload_n hx hb dX11_doMeet_41 rfl (lv_at hl 0 rfl) ?_
    refine lv_iload_n hx hb dX11_doMeet_42 rfl (lv_at hl 2 rfl) ?_
    refine lv_iconst (v := (nI 5)) hx hb dX11_doMeet_43 (by decide) ?_
    refine ck_Vi (As := [.int (nI j), .int (nI 5)]) (rest := [.int (tr (i * 8 + 5))]) (wr := [(ae, .inl (N.2 0, 8, .inl ea)), (ao, .inl (N.2 0, 8, .inl no))]) C0 hP hD hS (c_X11_ofFlyer l N mm an ak ab az as_ ae ao ar aw al am af ac ke kn fd mn nw cf n wk tr di fo w sdf wof shf twf j 5 hV (by omega)) myX11_ofFlyer k4_96 ⟨Nat.le_of_ble_eq_true rfl, Nat.le_of_ble_eq_true rfl⟩ [2, 3] [0, 1] ⟨⟨rfl, rfl⟩, by decide, by decide, by decide⟩ 2 rfl rfl rfl rfl hl.1 rfl (Nat.le_of_ble_eq_true rfl) dX11_doMeet_44 ⟨Nat.le_of_ble_eq_true rfl, Nat.le_of_ble_eq_true rfl⟩ (fun r_14 u0 H locs hw0 hP hD hS => ?_)
    have hw_15 : r_14 = (tr (j * 8 + 5)) := hw0
    subst hw_15
    have hP : va_P N.1 vwCl [(ae, .inl (N.2 0, 8, .inl ea)), (ao, .inl (N.2 0, 8, .inl no)), (mm, .inr (11, [.ref an, .ref ak, .int (nI ke), .int (nI kn), .int fd, .ref ab, .ref az, .ref as_, .ref ae, .ref ao, .ref ar, .ref aw, .ref al, .ref am, .int (nI mn), .ref af, .ref ac])), (an, .inl (N.2 0, 572, .inl nw))] H := hP
    have hD : va_D Ag [(ae, .inl (N.2 0, 8, .inl ea)), (ao, .inl (N.2 0, 8, .inl no)), (mm, .inr (11, [.ref an, .ref ak, .int (nI ke), .int (nI kn), .int fd, .ref ab, .ref az, .ref as_, .ref ae, .ref ao, .ref ar, .ref aw, .ref al, .ref am, .int (nI mn), .ref af, .ref ac])), (an, .inl (N.2 0, 572, .inl nw))] := hD
    refine lv_iadd hx hb dX11_doMeet_47 ?_
    refine lv_iconst (v := (nI 1)) hx hb dX11_doMeet_48 (by decide) ?_
    refine lv_isub hx hb dX11_doMeet_49 ?_
    refine lv_istore (lv' := [(4, .int (((tr (i * 8 + 5)) + (tr (j * 8 + 5))) - (nI 1))), (0, .ref mm), (1, .int (nI i)), (2, .int (nI j)), (3, .int (nI mi))]) hx hb dX11_doMeet_50 hl (by decide) rfl (fun ls hl => ?_)
    refine lv_aload_n hx hb dX11_doMeet_52 rfl (lv_at hl 1 rfl) ?_
    refine lv_iload_n hx hb dX11_doMeet_53 rfl (lv_at hl 2 rfl) ?_
    refine lv_iload_n hx hb dX11_doMeet_54 rfl (lv_at hl 4 rfl) ?_
    refine lv_iconst (v := (nI 0)) hx hb dX11_doMeet_55 (by decide) ?_
    refine ck_Vi (As := [.int (nI i), .int (nI mi), .int (b2i false)]) (rest := []) (wr := []) C0 hP hD hS (c_X11_whereIs l N mm an ak ab az as_ ae ao ar aw al am af ac ke kn fd mn nw ea no cf n wk tr di fo w sdf wof shf twf kd ht dr i mi false hV hAir hea hno (by omega) (by omega)) myX11_whereIs k4_143 ⟨Nat.le_of_ble_eq_true rfl, Nat.le_of_ble_eq_true rfl⟩ [2, 3, 0, 1] [] ⟨⟨rfl, rfl⟩, by decide, by decide, by decide⟩ 2 rfl rfl rfl rfl hl.1 rfl (Nat.le_of_ble_eq_true rfl) dX11_doMeet_56 ⟨Nat.le_of_ble_eq_true rfl, Nat.le_of_ble_eq_true rfl⟩ (fun r_16 u0 H locs hw0 hP hD hS => ?_)
    have hw_17 : r_16 = (if false = true then fY tr ht dr i mi else fX tr ht dr i mi) := hw0
    subst hw_17
    have hP : va_P N.1 vwCl [(mm, .inr (11, [.ref an, .ref ak, .int (nI ke), .int (nI kn), .int fd, .ref ab, .ref az, .ref as_, .ref ae, .ref ao, .ref ar, .ref aw, .ref al, .ref am, .int (nI mn), .ref af, .ref ac])), (an, .inl (N.2 0, 572, .inl nw)), (ae, .inl (N.2 0, 8, .inl ea)), (ao, .inl (N.2 0, 8, .inl no))] H := hP
    have hD : va_D Ag [(mm, .inr (11, [.ref an, .ref ak, .int (nI ke), .int (nI kn), .int fd, .ref ab, .ref az, .ref as_, .ref ae, .ref ao, .ref ar, .ref aw, .ref al, .ref am, .int (nI mn), .ref af, .ref ac])), (an, .inl (N.2 0, 572, .inl nw)), (ae, .inl (N.2 0, 8, .inl ea)), (ao, .inl (N.2 0, 8, .inl no))] := hD
    refine ck_top (y := (fX tr ht dr i mi)) rfl ?_
    refine lv_aload_n hx hb dX11_doMeet_59 rfl (lv_at hl 1 rfl) ?_
    refine lv_iload_n hx hb dX11_doMeet_60 rfl (lv_at hl 3 rfl) ?_
    refine lv_iload_n hx hb dX11_doMeet_61 rfl (lv_at hl 4 rfl) ?_
    refine lv_iconst (v := (nI 0)) hx hb dX11_doMeet_62 (by decide) ?_
    refine ck_Vi (As := [.int (nI j), .int (nI mi), .int (b2i false)]) (rest := [.int (fX tr ht dr i mi)]) (wr := []) C0 hP hD hS (c_X11_whereIs l N mm an ak ab az as_ ae ao ar aw al am af ac ke kn fd mn nw ea no cf n wk tr di fo w sdf wof shf twf kd ht dr j mi false hV hAir hea hno (by omega) (by omega)) myX11_whereIs k4_143 ⟨Nat.le_of_ble_eq_true rfl, Nat.le_of_ble_eq_true rfl⟩ [0, 1, 2, 3] [] ⟨⟨rfl, rfl⟩, by decide, by decide, by decide⟩ 0 rfl rfl rfl rfl hl.1 rfl (Nat.le_of_ble_eq_true rfl) dX11_doMeet_63 ⟨Nat.le_of_ble_eq_true rfl, Nat.le_of_ble_eq_true rfl⟩ (fun r_18 u0 H locs hw0 hP hD hS => ?_)
    have hw_19 : r_18 = (if false = true then fY tr ht dr j mi else fX tr ht dr j mi) := hw0
    subst hw_19
    have hP : va_P N.1 vwCl [(mm, .inr (11, [.ref an, .ref ak, .int (nI ke), .int (nI kn), .int fd, .ref ab, .ref az, .ref as_, .ref ae, .ref ao, .ref ar, .ref aw, .ref al, .ref am, .int (nI mn), .ref af, .ref ac])), (an, .inl (N.2 0, 572, .inl nw)), (ae, .inl (N.2 0, 8, .inl ea)), (ao, .inl (N.2 0, 8, .inl no))] H := hP
    have hD : va_D Ag [(mm, .inr (11, [.ref an, .ref ak, .int (nI ke), .int (nI kn), .int fd, .ref ab, .ref az, .ref as_, .ref ae, .ref ao, .ref ar, .ref aw, .ref al, .ref am, .int (nI mn), .ref af, .ref ac])), (an, .inl (N.2 0, 572, .inl nw)), (ae, .inl (N.2 0, 8, .inl ea)), (ao, .inl (N.2 0, 8, .inl no))] := hD
    refine ck_top (y := (fX tr ht dr j mi)) rfl ?_
    refine lv_isub hx hb dX11_doMeet_66 ?_
    refine lv_iload hx hb dX11_doMeet_67 (lv_at hl 0 rfl) ?_
    refine lv_ineg hx hb dX11_doMeet_69 ?_
    refine lv_iload hx hb dX11_doMeet_70 (lv_at hl 0 rfl) ?_
    refine ck_Si (As := [.int ((fX tr ht dr i mi) - (fX tr ht dr j mi)), .int (-(((tr (i * 8 + 5)) + (tr (j * 8 + 5))) - (nI 1))), .int (((tr (i * 8 + 5)) + (tr (j * 8 + 5))) - (nI 1))]) (rest := []) (wr := [(mm, .inr (11, [.ref an, .ref ak, .int (nI ke), .int (nI kn), .int fd, .ref ab, .ref az, .ref as_, .ref ae, .ref ao, .ref ar, .ref aw, .ref al, .ref am, .int (nI mn), .ref af, .ref ac])), (an, .inl (N.2 0, 572, .inl nw)), (ae, .inl (N.2 0, 8, .inl ea)), (ao, .inl (N.2 0, 8, .inl no))]) C0 hP hD hS (c_X11_in l N ((fX tr ht dr i mi) - (fX tr ht dr j mi)) (-(((tr (i * 8 + 5)) + (tr (j * 8 + 5))) - (nI 1))) (((tr (i * 8 + 5)) + (tr (j * 8 + 5))) - (nI 1)) ) myX11_in k4_75 ⟨Nat.le_of_ble_eq_true rfl, Nat.le_of_ble_eq_true rfl⟩ [] [0, 1, 2, 3] ⟨⟨rfl, rfl⟩, by decide, by decide, by decide⟩ rfl hl.1 rfl (Nat.le_of_ble_eq_true rfl) dX11_doMeet_72 ⟨Nat.le_of_ble_eq_true rfl, Nat.le_of_ble_eq_true rfl⟩ (fun r_20 u0 H locs hw0 hP hD hS => ?_)
    have hw_21 : r_20 = (b2i (ckIn ((fX tr ht dr i mi) - (fX tr ht dr j mi)) (-(((tr (i * 8 + 5)) + (tr (j * 8 + 5))) - (nI 1))) (((tr (i * 8 + 5)) + (tr (j * 8 + 5))) - (nI 1)))) := hw0
    subst hw_21
    have hP : va_P N.1 vwCl [(mm, .inr (11, [.ref an, .ref ak, .int (nI ke), .int (nI kn), .int fd, .ref ab, .ref az, .ref as_, .ref ae, .ref ao, .ref ar, .ref aw, .ref al, .ref am, .int (nI mn), .ref af, .ref ac])), (an, .inl (N.2 0, 572, .inl nw)), (ae, .inl (N.2 0, 8, .inl ea)), (ao, .inl (N.2 0, 8, .inl no))] H := hP
    have hD : va_D Ag [(mm, .inr (11, [.ref an, .ref ak, .int (nI ke), .int (nI kn), .int fd, .ref ab, .ref az, .ref as_, .ref ae, .ref ao, .ref ar, .ref aw, .ref al, .ref am, .int (nI mn), .ref af, .ref ac])), (an, .inl (N.2 0, 572, .inl nw)), (ae, .inl (N.2 0, 8, .inl ea)), (ao, .inl (N.2 0, 8, .inl no))] := hD
    refine ck_ifeq (b := ckIn ((fX tr ht dr i mi) - (fX tr ht dr j mi)) (-(((tr (i * 8 + 5)) + (tr (j * 8 + 5))) - (nI 1))) (((tr (i * 8 + 5)) + (tr (j * 8 + 5))) - (nI 1))) (tgt := 108) hx hb dX11_doMeet_75 (by decide) (fun cz_22 => ?_) (fun cz_22 => ?_)
    · refine lv_iconst (v := (nI 0)) hx hb dX11_doMeet_108 (by decide) ?_
      refine ck_top (y := (b2i false)) (by decide) ?_
      exact ck_zret (b := false) hx hb hrt hlk () (congrArg b2i (by rw [fNear_in hTr hi hj, decide_eq_true cz_5, cz_8, cz_11, cz_22]; rfl)) hP hD hS ⟨Nat.le_of_ble_eq_true rfl, Nat.le_of_ble_eq_true rfl⟩ dX11_doMeet_109
    refine lv_aload_n hx hb dX11_doMeet_78 rfl (lv_at hl 1 rfl) ?_
    refine lv_iload_n hx hb dX11_doMeet_79 rfl (lv_at hl 2 rfl) ?_
    refine lv_iload_n hx hb dX11_doMeet_80 rfl (lv_at hl 4 rfl) ?_
    refine lv_iconst (v := (nI 1)) hx hb dX11_doMeet_81 (by decide) ?_
    refine ck_Vi (As := [.int (nI i), .int (nI mi), .int (b2i true)]) (rest := []) (wr := []) C0 hP hD hS (c_X11_whereIs l N mm an ak ab az as_ ae ao ar aw al am af ac ke kn fd mn nw ea no cf n wk tr di fo w sdf wof shf twf kd ht dr i mi true hV hAir hea hno (by omega) (by omega)) myX11_whereIs k4_143 ⟨Nat.le_of_ble_eq_true rfl, Nat.le_of_ble_eq_true rfl⟩ [0, 1, 2, 3] [] ⟨⟨rfl, rfl⟩, by decide, by decide, by decide⟩ 0 rfl rfl rfl rfl hl.1 rfl (Nat.le_of_ble_eq_true rfl) dX11_doMeet_82 ⟨Nat.le_of_ble_eq_true rfl, Nat.le_of_ble_eq_true rfl⟩ (fun r_23 u0 H locs hw0 hP hD hS => ?_)
    have hw_24 : r_23 = (if true = true then fY tr ht dr i mi else fX tr ht dr i mi) := hw0
    subst hw_24
    have hP : va_P N.1 vwCl [(mm, .inr (11, [.ref an, .ref ak, .int (nI ke), .int (nI kn), .int fd, .ref ab, .ref az, .ref as_, .ref ae, .ref ao, .ref ar, .ref aw, .ref al, .ref am, .int (nI mn), .ref af, .ref ac])), (an, .inl (N.2 0, 572, .inl nw)), (ae, .inl (N.2 0, 8, .inl ea)), (ao, .inl (N.2 0, 8, .inl no))] H := hP
    have hD : va_D Ag [(mm, .inr (11, [.ref an, .ref ak, .int (nI ke), .int (nI kn), .int fd, .ref ab, .ref az, .ref as_, .ref ae, .ref ao, .ref ar, .ref aw, .ref al, .ref am, .int (nI mn), .ref af, .ref ac])), (an, .inl (N.2 0, 572, .inl nw)), (ae, .inl (N.2 0, 8, .inl ea)), (ao, .inl (N.2 0, 8, .inl no))] := hD
    refine ck_top (y := (fY tr ht dr i mi)) rfl ?_
    refine lv_aload_n hx hb dX11_doMeet_85 rfl (lv_at hl 1 rfl) ?_
    refine lv_iload_n hx hb dX11_doMeet_86 rfl (lv_at hl 3 rfl) ?_
    refine lv_iload_n hx hb dX11_doMeet_87 rfl (lv_at hl 4 rfl) ?_
    refine lv_iconst (v := (nI 1)) hx hb dX11_doMeet_88 (by decide) ?_
    refine ck_Vi (As := [.int (nI j), .int (nI mi), .int (b2i true)]) (rest := [.int (fY tr ht dr i mi)]) (wr := []) C0 hP hD hS (c_X11_whereIs l N mm an ak ab az as_ ae ao ar aw al am af ac ke kn fd mn nw ea no cf n wk tr di fo w sdf wof shf twf kd ht dr j mi true hV hAir hea hno (by omega) (by omega)) myX11_whereIs k4_143 ⟨Nat.le_of_ble_eq_true rfl, Nat.le_of_ble_eq_true rfl⟩ [0, 1, 2, 3] [] ⟨⟨rfl, rfl⟩, by decide, by decide, by decide⟩ 0 rfl rfl rfl rfl hl.1 rfl (Nat.le_of_ble_eq_true rfl) dX11_doMeet_89 ⟨Nat.le_of_ble_eq_true rfl, Nat.le_of_ble_eq_true rfl⟩ (fun r_25 u0 H locs hw0 hP hD hS => ?_)
    have hw_26 : r_25 = (if true = true then fY tr ht dr j mi else fX tr ht dr j mi) := hw0
    subst hw_26
    have hP : va_P N.1 vwCl [(mm, .inr (11, [.ref an, .ref ak, .int (nI ke), .int (nI kn), .int fd, .ref ab, .ref az, .ref as_, .ref ae, .ref ao, .ref ar, .ref aw, .ref al, .ref am, .int (nI mn), .ref af, .ref ac])), (an, .inl (N.2 0, 572, .inl nw)), (ae, .inl (N.2 0, 8, .inl ea)), (ao, .inl (N.2 0, 8, .inl no))] H := hP
    have hD : va_D Ag [(mm, .inr (11, [.ref an, .ref ak, .int (nI ke), .int (nI kn), .int fd, .ref ab, .ref az, .ref as_, .ref ae, .ref ao, .ref ar, .ref aw, .ref al, .ref am, .int (nI mn), .ref af, .ref ac])), (an, .inl (N.2 0, 572, .inl nw)), (ae, .inl (N.2 0, 8, .inl ea)), (ao, .inl (N.2 0, 8, .inl no))] := hD
    refine ck_top (y := (fY tr ht dr j mi)) rfl ?_
    refine lv_isub hx hb dX11_doMeet_92 ?_
    refine lv_iload hx hb dX11_doMeet_93 (lv_at hl 0 rfl) ?_
    refine lv_ineg hx hb dX11_doMeet_95 ?_
    refine lv_iload hx hb dX11_doMeet_96 (lv_at hl 0 rfl) ?_
    refine ck_Si (As := [.int ((fY tr ht dr i mi) - (fY tr ht dr j mi)), .int (-(((tr (i * 8 + 5)) + (tr (j * 8 + 5))) - (nI 1))), .int (((tr (i * 8 + 5)) + (tr (j * 8 + 5))) - (nI 1))]) (rest := []) (wr := [(mm, .inr (11, [.ref an, .ref ak, .int (nI ke), .int (nI kn), .int fd, .ref ab, .ref az, .ref as_, .ref ae, .ref ao, .ref ar, .ref aw, .ref al, .ref am, .int (nI mn), .ref af, .ref ac])), (an, .inl (N.2 0, 572, .inl nw)), (ae, .inl (N.2 0, 8, .inl ea)), (ao, .inl (N.2 0, 8, .inl no))]) C0 hP hD hS (c_X11_in l N ((fY tr ht dr i mi) - (fY tr ht dr j mi)) (-(((tr (i * 8 + 5)) + (tr (j * 8 + 5))) - (nI 1))) (((tr (i * 8 + 5)) + (tr (j * 8 + 5))) - (nI 1)) ) myX11_in k4_75 ⟨Nat.le_of_ble_eq_true rfl, Nat.le_of_ble_eq_true rfl⟩ [] [0, 1, 2, 3] ⟨⟨rfl, rfl⟩, by decide, by decide, by decide⟩ rfl hl.1 rfl (Nat.le_of_ble_eq_true rfl) dX11_doMeet_98 ⟨Nat.le_of_ble_eq_true rfl, Nat.le_of_ble_eq_true rfl⟩ (fun r_27 u0 H locs hw0 hP hD hS => ?_)
    have hw_28 : r_27 = (b2i (ckIn ((fY tr ht dr i mi) - (fY tr ht dr j mi)) (-(((tr (i * 8 + 5)) + (tr (j * 8 + 5))) - (nI 1))) (((tr (i * 8 + 5)) + (tr (j * 8 + 5))) - (nI 1)))) := hw0
    subst hw_28
    have hP : va_P N.1 vwCl [(mm, .inr (11, [.ref an, .ref ak, .int (nI ke), .int (nI kn), .int fd, .ref ab, .ref az, .ref as_, .ref ae, .ref ao, .ref ar, .ref aw, .ref al, .ref am, .int (nI mn), .ref af, .ref ac])), (an, .inl (N.2 0, 572, .inl nw)), (ae, .inl (N.2 0, 8, .inl ea)), (ao, .inl (N.2 0, 8, .inl no))] H := hP
    have hD : va_D Ag [(mm, .inr (11, [.ref an, .ref ak, .int (nI ke), .int (nI kn), .int fd, .ref ab, .ref az, .ref as_, .ref ae, .ref ao, .ref ar, .ref aw, .ref al, .ref am, .int (nI mn), .ref af, .ref ac])), (an, .inl (N.2 0, 572, .inl nw)), (ae, .inl (N.2 0, 8, .inl ea)), (ao, .inl (N.2 0, 8, .inl no))] := hD
    refine ck_ifeq (b := ckIn ((fY tr ht dr i mi) - (fY tr ht dr j mi)) (-(((tr (i * 8 + 5)) + (tr (j * 8 + 5))) - (nI 1))) (((tr (i * 8 + 5)) + (tr (j * 8 + 5))) - (nI 1))) (tgt := 108) hx hb dX11_doMeet_101 (by decide) (fun cz_29 => ?_) (fun cz_29 => ?_)
    · refine lv_iconst (v := (nI 0)) hx hb dX11_doMeet_108 (by decide) ?_
      refine ck_top (y := (b2i false)) (by decide) ?_
      exact ck_zret (b := false) hx hb hrt hlk () (congrArg b2i (by rw [fNear_in hTr hi hj, decide_eq_true cz_5, cz_8, cz_11, cz_22, cz_29]; rfl)) hP hD hS ⟨Nat.le_of_ble_eq_true rfl, Nat.le_of_ble_eq_true rfl⟩ dX11_doMeet_109
    refine lv_iconst (v := (nI 1)) hx hb dX11_doMeet_104 (by decide) ?_
    refine lv_goto (tgt := 109) hx hb dX11_doMeet_105 (by decide) ?_
    refine ck_top (y := (b2i true)) (by decide) ?_
    exact ck_zret (b := true) hx hb hrt hlk () (congrArg b2i (by rw [fNear_in hTr hi hj, decide_eq_true cz_5, cz_8, cz_11, cz_22, cz_29]; rfl)) hP hD hS ⟨Nat.le_of_ble_eq_true rfl, Nat.le_of_ble_eq_true rfl⟩ dX11_doMeet_109
  refine lv_iconst (v := (nI 0)) hx hb dX11_doMeet_33 (by decide) ?_
  refine ck_top (y := (b2i false)) (by decide) ?_
  exact ck_zret (b := false) hx hb hrt hlk () (congrArg b2i (by rw [fNear_in hTr hi hj, decide_eq_true cz_5, cz_8, cz_11]; rfl)) (hP.sub [2, 3, 0, 1] rfl) (hD.sub [2, 3, 0, 1] (by decide) rfl) hS ⟨Nat.le_of_ble_eq_true rfl, Nat.le_of_ble_eq_true rfl⟩ dX11_doMeet_34
set_option maxHeartbeats 4000000 in
set_option maxRecDepth 100000 in
/-- X11_ones -/
theorem c_X11_ones (l : Launch) (N : ckN) (s : Nat) (hs : s < 2 ^ 31) : ckI l yX11_ones cX11_ones 3 (some FieldType.int) { frames := 2, cells := 0, slots := 0, locals := 60 } N [.int (nI s)] [] (fun (r : Int32) (u : Unit) => r = (nI (pop s))) (fun (u : Unit) => []) := by
  refine ckI.of (by decide) (Nat.le_of_ble_eq_true rfl) ?_
  intro pg eg sg mg blw mth cg Ag ls hx hb hrt hml hown hlk hin hg hE hA hP hD hS hl
  have hown : sg.vm.findClass RX11 = some mg.cls := hown
  have hl : lv_has ls 3 [(0, .int (nI s))] := hl
  have C0 : ckC pg sg mg ([.int (nI s)]).toArray cg cX11_ones 3 RX11 N Ag := ⟨⟨hx, hb, hml, hown, hg⟩, hE, hA⟩
  generalize hHe : sg.heap = H at hP
  have hS : va_S Ag sg.heap H [] := hHe ▸ hS
  refine lv_iconst (v := (nI 0)) hx hb dX11_ones_0 (by decide) ?_
  refine lv_istore_n (lv' := [(1, .int (nI 0)), (0, .int (nI s))]) hx hb dX11_ones_1 rfl hl (by decide) rfl (fun ls hl => ?_)
  refine lv_iconst (v := (nI 0)) hx hb dX11_ones_2 (by decide) ?_
  refine lv_istore_n (lv' := [(2, .int (nI 0)), (1, .int (nI 0)), (0, .int (nI s))]) hx hb dX11_ones_3 rfl hl (by decide) rfl (fun ls hl => ?_)
  have lp_4 : ∀ (dz : Nat) (k : Nat) (ac : Nat) (hdz : 8 - k = dz) (hk : k ≤ 8) (ha : ac = psum (fun j => s / 2 ^ j % 2) k) (H : Heap) (locs : List Loc) (ls : Array Slot), va_P N.1 vwCl [] H → va_D Ag [] → va_S Ag sg.heap H locs → lv_has ls 3 [(2, .int (nI k)), (1, .int (nI ac)), (0, .int (nI s))] → W pg l eg { frames := 2, cells := 0, slots := 0, locals := 60 } sg mg ([.int (nI s)]).toArray blw mth cg H locs 0 0 (ckQi N Ag blw sg ([.int (nI s)]).toArray { frames := 2, cells := 0, slots := 0, locals := 60 } (fun (r : Int32) (u : Unit) => r = (nI (pop s))) (fun (u : Unit) => [])) (F0 mg 4 ls []) := by
    intro dz
    induction dz using Nat.strongRecOn with
    | _ dz ih_4 =>
      intro k ac hdz hk ha H locs ls hP hD hS hl
      subst hdz
      refine lv_iload_n hx hb dX11_ones_4 rfl (lv_at hl 0 rfl) ?_
      refine lv_bipush (v := (nI 8)) hx hb dX11_ones_5 (by decide) ?_
      refine ck_ic_ge (tgt := 24) hx hb dX11_ones_7 (by decide) (by omega) (by omega) (fun cz_1 => ?_) (fun cz_1 => ?_)
      · refine lv_iload_n hx hb dX11_ones_24 rfl (lv_at hl 1 rfl) ?_
        exact ck_iret hx hb hrt hlk () (by rw [ha, (show k = 8 by omega), psum_pop]) hP hD hS ⟨Nat.le_of_ble_eq_true rfl, Nat.le_of_ble_eq_true rfl⟩ dX11_ones_25
      refine lv_iload_n hx hb dX11_ones_10 rfl (lv_at hl 1 rfl) ?_
      refine lv_iload_n hx hb dX11_ones_11 rfl (lv_at hl 2 rfl) ?_
      refine lv_iload_n hx hb dX11_ones_12 rfl (lv_at hl 0 rfl) ?_
      refine lv_ishr hx hb dX11_ones_13 ?_
      refine ck_top (y := (nI (s / 2 ^ k))) (ck_shr (by omega) (by omega)) ?_
      refine lv_iconst (v := (nI 1)) hx hb dX11_ones_14 (by decide) ?_
      refine lv_iand hx hb dX11_ones_15 ?_
      refine ck_top (y := (nI ((s / 2 ^ k) % 2))) (ck_and1 _) ?_
      refine lv_iadd hx hb dX11_ones_16 ?_
      refine ck_top (y := (nI (ac + ((s / 2 ^ k) % 2)))) (nI_add _ _) ?_
      refine lv_istore_n (lv' := [(1, .int (nI (ac + ((s / 2 ^ k) % 2)))), (2, .int (nI k)), (0, .int (nI s))]) hx hb dX11_ones_17 rfl hl (by decide) rfl (fun ls hl => ?_)
      refine lv_iinc (v := (nI (k + 1))) (lv' := [(2, .int (nI (k + 1))), (1, .int (nI (ac + ((s / 2 ^ k) % 2)))), (0, .int (nI s))]) hx hb dX11_ones_18 hl (k := 1) rfl (nI_1 _) (by decide) rfl (fun ls hl => ?_)
      refine lv_goto (tgt := 4) hx hb dX11_ones_21 (by decide) ?_
      exact ih_4 _ (by omega) (k + 1) (ac + ((s / 2 ^ k) % 2)) rfl (by omega) (by rw [ha]; rfl) _ _ ls hP hD hS hl
  exact lp_4 _ 0 0 rfl (by omega) rfl _ _ ls hP hD hS hl
set_option maxHeartbeats 4000000 in
set_option maxRecDepth 100000 in
/-- X11_fieldOf -/
theorem c_X11_fieldOf (l : Launch) (N : ckN) (mm : Nat) (an : Nat) (ak : Nat) (ab : Nat) (az : Nat) (as_ : Nat) (ae : Nat) (ao : Nat) (ar : Nat) (aw : Nat) (al : Nat) (am : Nat) (af : Nat) (ac : Nat) (ke : Nat) (kn : Nat) (fd : Int32) (mn : Nat) (nw : Nat → Int32) (ea : Nat → Int32) (no : Nat → Int32) (ne : Nat → Int32) (cf : Nat) (n : Nat) (wk : Int32) (tr : Nat → Int32) (di : Nat → Int32) (fo : Nat → Int32) (w : Nat → List Nat) (sdf : Nat → Int32) (wof : Nat → Int32) (shf : Nat → Int32) (twf : Nat → Int32) (kd : Nat → Nat) (ht : Nat → Nat) (dr : Nat → Nat) (mi : Nat) (hV : mV nw cf n wk tr di fo w sdf wof shf twf) (hAir : ckAir tr di cf kd ht dr) (hTr : ckTr tr cf) (hFo : ckFo fo) (hea : ∀ j, j < 8 → ea j = ckSX j) (hno : ∀ j, j < 8 → no j = ckSY j) (hm : mi < 20) : ckI l yX11_fieldOf cX11_fieldOf 7 (some FieldType.int) { frames := 6, cells := 0, slots := 0, locals := 152 } N [.ref mm, .int (nI mi)] [(mm, .inr (11, [.ref an, .ref ak, .int (nI ke), .int (nI kn), .int fd, .ref ab, .ref az, .ref as_, .ref ae, .ref ao, .ref ar, .ref aw, .ref al, .ref am, .int (nI mn), .ref af, .ref ac])), (an, .inl (N.2 0, 572, .inl nw)), (ae, .inl (N.2 0, 8, .inl ea)), (ao, .inl (N.2 0, 8, .inl no)), (ar, .inl (N.2 0, 8, .inl ne))] (fun (r : Int32) (u : (Nat → Int32)) => r = (nI (ckField (fun f => fFly tr fo kd ht f mi) (fun f g => fNear tr fo kd ht dr f g mi) cf))) (fun (u : (Nat → Int32)) => [(mm, .inr (11, [.ref an, .ref ak, .int (nI ke), .int (nI kn), .int fd, .ref ab, .ref az, .ref as_, .ref ae, .ref ao, .ref ar, .ref aw, .ref al, .ref am, .int (nI mn), .ref af, .ref ac])), (an, .inl (N.2 0, 572, .inl nw)), (ae, .inl (N.2 0, 8, .inl ea)), (ao, .inl (N.2 0, 8, .inl no)), (ar, .inl (N.2 0, 8, .inl u))]) := by
  refine ckI.of (by decide) (Nat.le_of_ble_eq_true rfl) ?_
  intro pg eg sg mg blw mth cg Ag ls hx hb hrt hml hown hlk hin hg hE hA hP hD hS hl
  have hown : sg.vm.findClass RX11 = some mg.cls := hown
  have hl : lv_has ls 7 [(0, .ref mm), (1, .int (nI mi))] := hl
  have C0 : ckC pg sg mg ([.ref mm, .int (nI mi)]).toArray cg cX11_fieldOf 7 RX11 N Ag := ⟨⟨hx, hb, hml, hown, hg⟩, hE, hA⟩
  generalize hHe : sg.heap = H at hP
  have hS : va_S Ag sg.heap H [] := hHe ▸ hS
  have hn8 := hAir.1
  refine lv_iconst (v := (nI 0)) hx hb dX11_fieldOf_0 (by decide) ?_
  refine lv_istore_n (lv' := [(2, .int (nI 0)), (0, .ref mm), (1, .int (nI mi))]) hx hb dX11_fieldOf_1 rfl hl (by decide) rfl (fun ls hl => ?_)
  refine lv_iconst (v := (nI 0)) hx hb dX11_fieldOf_2 (by decide) ?_
  refine lv_istore_n (lv' := [(3, .int (nI 0)), (2, .int (nI 0)), (0, .ref mm), (1, .int (nI mi))]) hx hb dX11_fieldOf_3 rfl hl (by decide) rfl (fun ls hl => ?_)
  have lp_4 : ∀ (dz : Nat) (i : Nat) (b : Nat) (ne1 : Nat → Int32) (hdz : cf - i = dz) (hi : i ≤ cf) (hbb : b = bitsOf (fun f => fFly tr fo kd ht f mi) i) (hne : ∀ f, f < i → ne1 f = nI ((fun f => bitsOf (fun g => decide (g ≠ f) && fNear tr fo kd ht dr f g mi) cf) f)) (H : Heap) (locs : List Loc) (ls : Array Slot), va_P N.1 vwCl [(mm, .inr (11, [.ref an, .ref ak, .int (nI ke), .int (nI kn), .int fd, .ref ab, .ref az, .ref as_, .ref ae, .ref ao, .ref ar, .ref aw, .ref al, .ref am, .int (nI mn), .ref af, .ref ac])), (an, .inl (N.2 0, 572, .inl nw)), (ae, .inl (N.2 0, 8, .inl ea)), (ao, .inl (N.2 0, 8, .inl no)), (ar, .inl (N.2 0, 8, .inl ne1))] H → va_D Ag [(mm, .inr (11, [.ref an, .ref ak, .int (nI ke), .int (nI kn), .int fd, .ref ab, .ref az, .ref as_, .ref ae, .ref ao, .ref ar, .ref aw, .ref al, .ref am, .int (nI mn), .ref af, .ref ac])), (an, .inl (N.2 0, 572, .inl nw)), (ae, .inl (N.2 0, 8, .inl ea)), (ao, .inl (N.2 0, 8, .inl no)), (ar, .inl (N.2 0, 8, .inl ne1))] → va_S Ag sg.heap H locs → lv_has ls 7 [(3, .int (nI i)), (2, .int (nI b)), (0, .ref mm), (1, .int (nI mi))] → W pg l eg { frames := 6, cells := 0, slots := 0, locals := 152 } sg mg ([.ref mm, .int (nI mi)]).toArray blw mth cg H locs 0 0 (ckQi N Ag blw sg ([.ref mm, .int (nI mi)]).toArray { frames := 6, cells := 0, slots := 0, locals := 152 } (fun (r : Int32) (u : (Nat → Int32)) => r = (nI (ckField (fun f => fFly tr fo kd ht f mi) (fun f g => fNear tr fo kd ht dr f g mi) cf))) (fun (u : (Nat → Int32)) => [(mm, .inr (11, [.ref an, .ref ak, .int (nI ke), .int (nI kn), .int fd, .ref ab, .ref az, .ref as_, .ref ae, .ref ao, .ref ar, .ref aw, .ref al, .ref am, .int (nI mn), .ref af, .ref ac])), (an, .inl (N.2 0, 572, .inl nw)), (ae, .inl (N.2 0, 8, .inl ea)), (ao, .inl (N.2 0, 8, .inl no)), (ar, .inl (N.2 0, 8, .inl u))])) (F0 mg 4 ls []) := by
    intro dz
    induction dz using Nat.strongRecOn with
    | _ dz ih_4 =>
      intro i b ne1 hdz hi hbb hne H locs ls hP hD hS hl
      subst hdz
      refine lv_iload_n hx hb dX11_fieldOf_4 rfl (lv_at hl 0 rfl) ?_
      refine lv_aload_n hx hb dX11_fieldOf_5 rfl (lv_at hl 2 rfl) ?_
      refine va_get (ci := 11) (v := .ref an) (C := RX11) (T := TX11) (N := 17) hx hb hg inX11 hown hE.1 hP 0 rfl rfl 0 (by decide) (hg _ k4_10) (fun _ h9 => h9) rfl dX11_fieldOf_6 ?_
      refine lv_iconst (v := (nI 0)) hx hb dX11_fieldOf_9 (by decide) ?_
      refine ck_iald hx hb hE hP 1 rfl (by omega) (by decide) dX11_fieldOf_10 ?_
      refine ck_top (y := (nI cf)) hV.1 ?_
      refine ck_ic_ge (tgt := 100) hx hb dX11_fieldOf_11 (by decide) (by omega) (by omega) (fun cz_1 => ?_) (fun cz_1 => ?_)
      · have hbx : b = bitsOf (fun f => fFly tr fo kd ht f mi) cf := by rw [hbb, (show i = cf by omega)]
        have hb3 : b < 256 := by rw [hbx]; exact Nat.lt_of_lt_of_le (bitsOf_lt _ cf) (Nat.pow_le_pow_right (by decide) hn8)
        have hne : ∀ f, f < cf → ne1 f = nI ((fun f => bitsOf (fun g => decide (g ≠ f) && fNear tr fo kd ht dr f g mi) cf) f) := fun f hf => hne f (by omega)
        refine lv_iconst (v := (nI 0)) hx hb dX11_fieldOf_100 (by decide) ?_
        refine lv_istore_n (lv' := [(3, .int (nI 0)), (2, .int (nI b)), (0, .ref mm), (1, .int (nI mi))]) hx hb dX11_fieldOf_101 rfl hl (by decide) rfl (fun ls hl => ?_)
        refine lv_iconst (v := (nI 1)) hx hb dX11_fieldOf_102 (by decide) ?_
        refine lv_istore (lv' := [(4, .int (nI 1)), (3, .int (nI 0)), (2, .int (nI b)), (0, .ref mm), (1, .int (nI mi))]) hx hb dX11_fieldOf_103 hl (by decide) rfl (fun ls hl => ?_)
        have lp_105 : ∀ (dz : Nat) (k : Nat) (fdd : Nat) (hdz : b + 1 - k = dz) (hk : 1 ≤ k ∧ k ≤ b + 1) (hfd : fdd = ckBest b (ckApM (fun f => bitsOf (fun g => decide (g ≠ f) && fNear tr fo kd ht dr f g mi) cf) cf) (k - 1)) (hf6 : fdd < 256) (H : Heap) (locs : List Loc) (ls : Array Slot), va_P N.1 vwCl [(mm, .inr (11, [.ref an, .ref ak, .int (nI ke), .int (nI kn), .int fd, .ref ab, .ref az, .ref as_, .ref ae, .ref ao, .ref ar, .ref aw, .ref al, .ref am, .int (nI mn), .ref af, .ref ac])), (an, .inl (N.2 0, 572, .inl nw)), (ae, .inl (N.2 0, 8, .inl ea)), (ao, .inl (N.2 0, 8, .inl no)), (ar, .inl (N.2 0, 8, .inl ne1))] H → va_D Ag [(mm, .inr (11, [.ref an, .ref ak, .int (nI ke), .int (nI kn), .int fd, .ref ab, .ref az, .ref as_, .ref ae, .ref ao, .ref ar, .ref aw, .ref al, .ref am, .int (nI mn), .ref af, .ref ac])), (an, .inl (N.2 0, 572, .inl nw)), (ae, .inl (N.2 0, 8, .inl ea)), (ao, .inl (N.2 0, 8, .inl no)), (ar, .inl (N.2 0, 8, .inl ne1))] → va_S Ag sg.heap H locs → lv_has ls 7 [(4, .int (nI k)), (3, .int (nI fdd)), (2, .int (nI b)), (0, .ref mm), (1, .int (nI mi))] → W pg l eg { frames := 6, cells := 0, slots := 0, locals := 152 } sg mg ([.ref mm, .int (nI mi)]).toArray blw mth cg H locs 0 0 (ckQi N Ag blw sg ([.ref mm, .int (nI mi)]).toArray { frames := 6, cells := 0, slots := 0, locals := 152 } (fun (r : Int32) (u : (Nat → Int32)) => r = (nI (ckField (fun f => fFly tr fo kd ht f mi) (fun f g => fNear tr fo kd ht dr f g mi) cf))) (fun (u : (Nat → Int32)) => [(mm, .inr (11, [.ref an, .ref ak, .int (nI ke), .int (nI kn), .int fd, .ref ab, .ref az, .ref as_, .ref ae, .ref ao, .ref ar, .ref aw, .ref al, .ref am, .int (nI mn), .ref af, .ref ac])), (an, .inl (N.2 0, 572, .inl nw)), (ae, .inl (N.2 0, 8, .inl ea)), (ao, .inl (N.2 0, 8, .inl no)), (ar, .inl (N.2 0, 8, .inl u))])) (F0 mg 105 ls []) := by
          intro dz
          induction dz using Nat.strongRecOn with
          | _ dz ih_105 =>
            intro k fdd hdz hk hfd hf6 H locs ls hP hD hS hl
            subst hdz
            refine lv_iload hx hb dX11_fieldOf_105 (lv_at hl 0 rfl) ?_
            refine lv_iload_n hx hb dX11_fieldOf_107 rfl (lv_at hl 2 rfl) ?_
            refine ck_ic_gt (tgt := 211) hx hb dX11_fieldOf_108 (by decide) (by omega) (by omega) (fun cz_2 => ?_) (fun cz_2 => ?_)
            · refine lv_iload_n hx hb dX11_fieldOf_211 rfl (lv_at hl 1 rfl) ?_
              exact ck_iret hx hb hrt hlk (ne1) (by rw [hfd, (show k - 1 = b by omega), ckField, ← hbx]; exact congrArg nI (congrArg (fun a => ckBest b a b) (funext (fun s => apart_eq (fun f g hf hg => fNear_sym hTr hf hg) s)))) hP hD hS ⟨Nat.le_of_ble_eq_true rfl, Nat.le_of_ble_eq_true rfl⟩ dX11_fieldOf_212
            refine lv_iload hx hb dX11_fieldOf_111 (lv_at hl 0 rfl) ?_
            refine lv_iload_n hx hb dX11_fieldOf_113 rfl (lv_at hl 2 rfl) ?_
            refine lv_iconst (v := (-1)) hx hb dX11_fieldOf_114 (by decide) ?_
            refine lv_ixor hx hb dX11_fieldOf_115 ?_
            refine lv_iand hx hb dX11_fieldOf_116 ?_
            refine lv_if_ne (tgt := 205) hx hb dX11_fieldOf_117 (by decide) (fun cz_3 => ?_) (fun cz_3 => ?_)
            · refine lv_iinc (v := (nI (k + 1))) (lv' := [(4, .int (nI (k + 1))), (3, .int (nI fdd)), (2, .int (nI b)), (0, .ref mm), (1, .int (nI mi))]) hx hb dX11_fieldOf_205 hl (k := 0) rfl (nI_1 _) (by decide) rfl (fun ls hl => ?_)
              refine lv_goto (tgt := 105) hx hb dX11_fieldOf_208 (by decide) ?_
              exact ih_105 _ (by omega) (k + 1) fdd rfl (by omega) (ckBest_n hk.1 hfd (fun q => cz_3 q.1)) (by omega) _ _ ls hP hD hS hl
            have hs1 := cz_3
            refine lv_iload hx hb dX11_fieldOf_120 (lv_at hl 0 rfl) ?_
            refine ck_Si (As := [.int (nI k)]) (rest := []) (wr := [(mm, .inr (11, [.ref an, .ref ak, .int (nI ke), .int (nI kn), .int fd, .ref ab, .ref az, .ref as_, .ref ae, .ref ao, .ref ar, .ref aw, .ref al, .ref am, .int (nI mn), .ref af, .ref ac])), (an, .inl (N.2 0, 572, .inl nw)), (ae, .inl (N.2 0, 8, .inl ea)), (ao, .inl (N.2 0, 8, .inl no)), (ar, .inl (N.2 0, 8, .inl ne1))]) C0 hP hD hS (c_X11_ones l N k (by omega)) myX11_ones k4_167 ⟨Nat.le_of_ble_eq_true rfl, Nat.le_of_ble_eq_true rfl⟩ [] [0, 1, 2, 3, 4] ⟨⟨rfl, rfl⟩, by decide, by decide, by decide⟩ rfl hl.1 rfl (Nat.le_of_ble_eq_true rfl) dX11_fieldOf_122 ⟨Nat.le_of_ble_eq_true rfl, Nat.le_of_ble_eq_true rfl⟩ (fun r_4 u0 H locs hw0 hP hD hS => ?_)
            have hw_5 : r_4 = (nI (pop k)) := hw0
            subst hw_5
            have hP : va_P N.1 vwCl [(mm, .inr (11, [.ref an, .ref ak, .int (nI ke), .int (nI kn), .int fd, .ref ab, .ref az, .ref as_, .ref ae, .ref ao, .ref ar, .ref aw, .ref al, .ref am, .int (nI mn), .ref af, .ref ac])), (an, .inl (N.2 0, 572, .inl nw)), (ae, .inl (N.2 0, 8, .inl ea)), (ao, .inl (N.2 0, 8, .inl no)), (ar, .inl (N.2 0, 8, .inl ne1))] H := hP
            have hD : va_D Ag [(mm, .inr (11, [.ref an, .ref ak, .int (nI ke), .int (nI kn), .int fd, .ref ab, .ref az, .ref as_, .ref ae, .ref ao, .ref ar, .ref aw, .ref al, .ref am, .int (nI mn), .ref af, .ref ac])), (an, .inl (N.2 0, 572, .inl nw)), (ae, .inl (N.2 0, 8, .inl ea)), (ao, .inl (N.2 0, 8, .inl no)), (ar, .inl (N.2 0, 8, .inl ne1))] := hD
            refine lv_iload_n hx hb dX11_fieldOf_125 rfl (lv_at hl 1 rfl) ?_
            refine ck_Si (As := [.int (nI fdd)]) (rest := [.int (nI (pop k))]) (wr := [(mm, .inr (11, [.ref an, .ref ak, .int (nI ke), .int (nI kn), .int fd, .ref ab, .ref az, .ref as_, .ref ae, .ref ao, .ref ar, .ref aw, .ref al, .ref am, .int (nI mn), .ref af, .ref ac])), (an, .inl (N.2 0, 572, .inl nw)), (ae, .inl (N.2 0, 8, .inl ea)), (ao, .inl (N.2 0, 8, .inl no)), (ar, .inl (N.2 0, 8, .inl ne1))]) C0 hP hD hS (c_X11_ones l N fdd (by omega)) myX11_ones k4_167 ⟨Nat.le_of_ble_eq_true rfl, Nat.le_of_ble_eq_true rfl⟩ [] [0, 1, 2, 3, 4] ⟨⟨rfl, rfl⟩, by decide, by decide, by decide⟩ rfl hl.1 rfl (Nat.le_of_ble_eq_true rfl) dX11_fieldOf_126 ⟨Nat.le_of_ble_eq_true rfl, Nat.le_of_ble_eq_true rfl⟩ (fun r_6 u0 H locs hw0 hP hD hS => ?_)
            have hw_7 : r_6 = (nI (pop fdd)) := hw0
            subst hw_7
            have hP : va_P N.1 vwCl [(mm, .inr (11, [.ref an, .ref ak, .int (nI ke), .int (nI kn), .int fd, .ref ab, .ref az, .ref as_, .ref ae, .ref ao, .ref ar, .ref aw, .ref al, .ref am, .int (nI mn), .ref af, .ref ac])), (an, .inl (N.2 0, 572, .inl nw)), (ae, .inl (N.2 0, 8, .inl ea)), (ao, .inl (N.2 0, 8, .inl no)), (ar, .inl (N.2 0, 8, .inl ne1))] H := hP
            have hD : va_D Ag [(mm, .inr (11, [.ref an, .ref ak, .int (nI ke), .int (nI kn), .int fd, .ref ab, .ref az, .ref as_, .ref ae, .ref ao, .ref ar, .ref aw, .ref al, .ref am, .int (nI mn), .ref af, .ref ac])), (an, .inl (N.2 0, 572, .inl nw)), (ae, .inl (N.2 0, 8, .inl ea)), (ao, .inl (N.2 0, 8, .inl no)), (ar, .inl (N.2 0, 8, .inl ne1))] := hD
            refine ck_ic_gt (tgt := 135) hx hb dX11_fieldOf_129 (by decide) (pop_lt _) (pop_lt _) (fun cz_8 => ?_) (fun cz_8 => ?_)
            · have hs2 := cz_8
              refine lv_iconst (v := (nI 1)) hx hb dX11_fieldOf_135 (by decide) ?_
              refine lv_istore (lv' := [(5, .int (nI 1)), (4, .int (nI k)), (3, .int (nI fdd)), (2, .int (nI b)), (0, .ref mm), (1, .int (nI mi))]) hx hb dX11_fieldOf_136 hl (by decide) rfl (fun ls hl => ?_)
              refine lv_iconst (v := (nI 0)) hx hb dX11_fieldOf_138 (by decide) ?_
              refine lv_istore (lv' := [(6, .int (nI 0)), (5, .int (nI 1)), (4, .int (nI k)), (3, .int (nI fdd)), (2, .int (nI b)), (0, .ref mm), (1, .int (nI mi))]) hx hb dX11_fieldOf_139 hl (by decide) rfl (fun ls hl => ?_)
              have lp_141 : ∀ (dz : Nat) (f0 : Nat) (gd : Bool) (hdz : cf - f0 = dz) (hf0 : f0 ≤ cf) (hgd : gd = decide (∀ f, f < f0 → k / 2 ^ f % 2 = 0 ∨ k &&& (fun f => bitsOf (fun g => decide (g ≠ f) && fNear tr fo kd ht dr f g mi) cf) f = 0)) (H : Heap) (locs : List Loc) (ls : Array Slot), va_P N.1 vwCl [(mm, .inr (11, [.ref an, .ref ak, .int (nI ke), .int (nI kn), .int fd, .ref ab, .ref az, .ref as_, .ref ae, .ref ao, .ref ar, .ref aw, .ref al, .ref am, .int (nI mn), .ref af, .ref ac])), (an, .inl (N.2 0, 572, .inl nw)), (ae, .inl (N.2 0, 8, .inl ea)), (ao, .inl (N.2 0, 8, .inl no)), (ar, .inl (N.2 0, 8, .inl ne1))] H → va_D Ag [(mm, .inr (11, [.ref an, .ref ak, .int (nI ke), .int (nI kn), .int fd, .ref ab, .ref az, .ref as_, .ref ae, .ref ao, .ref ar, .ref aw, .ref al, .ref am, .int (nI mn), .ref af, .ref ac])), (an, .inl (N.2 0, 572, .inl nw)), (ae, .inl (N.2 0, 8, .inl ea)), (ao, .inl (N.2 0, 8, .inl no)), (ar, .inl (N.2 0, 8, .inl ne1))] → va_S Ag sg.heap H locs → lv_has ls 7 [(6, .int (nI f0)), (5, .int (b2i gd)), (4, .int (nI k)), (3, .int (nI fdd)), (2, .int (nI b)), (0, .ref mm), (1, .int (nI mi))] → W pg l eg { frames := 6, cells := 0, slots := 0, locals := 152 } sg mg ([.ref mm, .int (nI mi)]).toArray blw mth cg H locs 0 0 (ckQi N Ag blw sg ([.ref mm, .int (nI mi)]).toArray { frames := 6, cells := 0, slots := 0, locals := 152 } (fun (r : Int32) (u : (Nat → Int32)) => r = (nI (ckField (fun f => fFly tr fo kd ht f mi) (fun f g => fNear tr fo kd ht dr f g mi) cf))) (fun (u : (Nat → Int32)) => [(mm, .inr (11, [.ref an, .ref ak, .int (nI ke), .int (nI kn), .int fd, .ref ab, .ref az, .ref as_, .ref ae, .ref ao, .ref ar, .ref aw, .ref al, .ref am, .int (nI mn), .ref af, .ref ac])), (an, .inl (N.2 0, 572, .inl nw)), (ae, .inl (N.2 0, 8, .inl ea)), (ao, .inl (N.2 0, 8, .inl no)), (ar, .inl (N.2 0, 8, .inl u))])) (F0 mg 141 ls []) := by
                intro dz
                induction dz using Nat.strongRecOn with
                | _ dz ih_141 =>
                  intro f0 gd hdz hf0 hgd H locs ls hP hD hS hl
                  subst hdz
                  refine lv_iload hx hb dX11_fieldOf_141 (lv_at hl 0 rfl) ?_
                  refine lv_aload_n hx hb dX11_fieldOf_143 rfl (lv_at hl 5 rfl) ?_
                  refine va_get (ci := 11) (v := .ref an) (C := RX11) (T := TX11) (N := 17) hx hb hg inX11 hown hE.1 hP 0 rfl rfl 0 (by decide) (hg _ k4_10) (fun _ h9 => h9) rfl dX11_fieldOf_144 ?_
                  refine lv_iconst (v := (nI 0)) hx hb dX11_fieldOf_147 (by decide) ?_
                  refine ck_iald hx hb hE hP 1 rfl (by omega) (by decide) dX11_fieldOf_148 ?_
                  refine ck_top (y := (nI cf)) hV.1 ?_
                  refine ck_ic_ge (tgt := 193) hx hb dX11_fieldOf_149 (by decide) (by omega) (by omega) (fun cz_9 => ?_) (fun cz_9 => ?_)
                  · refine lv_iload hx hb dX11_fieldOf_193 (lv_at hl 1 rfl) ?_
                    refine ck_ifeq (b := gd) (tgt := 203) hx hb dX11_fieldOf_195 (by decide) (fun cz_10 => ?_) (fun cz_10 => ?_)
                    · have hgo := cz_10
                      refine lv_iload_n hx hb dX11_fieldOf_203 rfl (lv_at hl 3 rfl) ?_
                      refine lv_istore_n (lv' := [(3, .int (nI fdd)), (6, .int (nI f0)), (5, .int (b2i gd)), (4, .int (nI k)), (2, .int (nI b)), (0, .ref mm), (1, .int (nI mi))]) hx hb dX11_fieldOf_204 rfl hl (by decide) rfl (fun ls hl => ?_)
                      refine lv_iinc (v := (nI (k + 1))) (lv' := [(4, .int (nI (k + 1))), (3, .int (nI fdd)), (6, .int (nI f0)), (5, .int (b2i gd)), (2, .int (nI b)), (0, .ref mm), (1, .int (nI mi))]) hx hb dX11_fieldOf_205 hl (k := 3) rfl (nI_1 _) (by decide) rfl (fun ls hl => ?_)
                      refine lv_goto (tgt := 105) hx hb dX11_fieldOf_208 (by decide) ?_
                      exact ih_105 _ (by omega) (k + 1) fdd rfl (by omega) (ckBest_n hk.1 hfd (fun q => absurd (hgo.symm.trans (hgd.trans ((congrArg (fun z => decide (∀ f, f < z → k / 2 ^ f % 2 = 0 ∨ k &&& (fun f => bitsOf (fun g => decide (g ≠ f) && fNear tr fo kd ht dr f g mi) cf) f = 0)) (show f0 = cf by omega)).trans q.2.2))) (by decide))) (by omega) _ _ ls hP hD hS (lv_sub hl [0, 1, 4, 5, 6] rfl)
                    have hgo := cz_10
                    refine lv_iload hx hb dX11_fieldOf_198 (lv_at hl 2 rfl) ?_
                    refine lv_goto (tgt := 204) hx hb dX11_fieldOf_200 (by decide) ?_
                    refine lv_istore_n (lv' := [(3, .int (nI k)), (6, .int (nI f0)), (5, .int (b2i gd)), (4, .int (nI k)), (2, .int (nI b)), (0, .ref mm), (1, .int (nI mi))]) hx hb dX11_fieldOf_204 rfl hl (by decide) rfl (fun ls hl => ?_)
                    refine lv_iinc (v := (nI (k + 1))) (lv' := [(4, .int (nI (k + 1))), (3, .int (nI k)), (6, .int (nI f0)), (5, .int (b2i gd)), (2, .int (nI b)), (0, .ref mm), (1, .int (nI mi))]) hx hb dX11_fieldOf_205 hl (k := 3) rfl (nI_1 _) (by decide) rfl (fun ls hl => ?_)
                    refine lv_goto (tgt := 105) hx hb dX11_fieldOf_208 (by decide) ?_
                    exact ih_105 _ (by omega) (k + 1) k rfl (by omega) (ckBest_y hk.1 hfd hs1 hs2 (by rw [← hgo, hgd, (show f0 = cf by omega)]; rfl)) (by omega) _ _ ls hP hD hS (lv_sub hl [0, 1, 4, 5, 6] rfl)
                  refine lv_iload hx hb dX11_fieldOf_152 (lv_at hl 1 rfl) ?_
                  refine ck_ifeq (b := gd) (tgt := 184) hx hb dX11_fieldOf_154 (by decide) (fun cz_11 => ?_) (fun cz_11 => ?_)
                  · refine lv_iconst (v := (nI 0)) hx hb dX11_fieldOf_184 (by decide) ?_
                    refine lv_istore (lv' := [(5, .int (nI 0)), (6, .int (nI f0)), (4, .int (nI k)), (3, .int (nI fdd)), (2, .int (nI b)), (0, .ref mm), (1, .int (nI mi))]) hx hb dX11_fieldOf_185 hl (by decide) rfl (fun ls hl => ?_)
                    refine lv_iinc (v := (nI (f0 + 1))) (lv' := [(6, .int (nI (f0 + 1))), (5, .int (nI 0)), (4, .int (nI k)), (3, .int (nI fdd)), (2, .int (nI b)), (0, .ref mm), (1, .int (nI mi))]) hx hb dX11_fieldOf_187 hl (k := 1) rfl (nI_1 _) (by decide) rfl (fun ls hl => ?_)
                    refine lv_goto (tgt := 141) hx hb dX11_fieldOf_190 (by decide) ?_
                    exact ih_141 _ (by omega) (f0 + 1) false rfl (by omega) (gm_f hgd cz_11) _ _ ls hP hD hS hl
                  refine lv_iload hx hb dX11_fieldOf_157 (lv_at hl 2 rfl) ?_
                  refine lv_iload hx hb dX11_fieldOf_159 (lv_at hl 0 rfl) ?_
                  refine lv_ishr hx hb dX11_fieldOf_161 ?_
                  refine ck_top (y := (nI (k / 2 ^ f0))) (ck_shr (by omega) (by omega)) ?_
                  refine lv_iconst (v := (nI 1)) hx hb dX11_fieldOf_162 (by decide) ?_
                  refine lv_iand hx hb dX11_fieldOf_163 ?_
                  refine ck_top (y := (nI ((k / 2 ^ f0) % 2))) (ck_and1 _) ?_
                  refine ck_if0_eq (tgt := 180) hx hb dX11_fieldOf_164 (by decide) (by omega) (fun cz_12 => ?_) (fun cz_12 => ?_)
                  · refine lv_iconst (v := (nI 1)) hx hb dX11_fieldOf_180 (by decide) ?_
                    refine lv_goto (tgt := 185) hx hb dX11_fieldOf_181 (by decide) ?_
                    refine lv_istore (lv' := [(5, .int (nI 1)), (6, .int (nI f0)), (4, .int (nI k)), (3, .int (nI fdd)), (2, .int (nI b)), (0, .ref mm), (1, .int (nI mi))]) hx hb dX11_fieldOf_185 hl (by decide) rfl (fun ls hl => ?_)
                    refine lv_iinc (v := (nI (f0 + 1))) (lv' := [(6, .int (nI (f0 + 1))), (5, .int (nI 1)), (4, .int (nI k)), (3, .int (nI fdd)), (2, .int (nI b)), (0, .ref mm), (1, .int (nI mi))]) hx hb dX11_fieldOf_187 hl (k := 1) rfl (nI_1 _) (by decide) rfl (fun ls hl => ?_)
                    refine lv_goto (tgt := 141) hx hb dX11_fieldOf_190 (by decide) ?_
                    exact ih_141 _ (by omega) (f0 + 1) true rfl (by omega) (gm_t hgd cz_11 (Or.inl cz_12)) _ _ ls hP hD hS hl
                  refine lv_iload hx hb dX11_fieldOf_167 (lv_at hl 2 rfl) ?_
                  refine lv_aload_n hx hb dX11_fieldOf_169 rfl (lv_at hl 5 rfl) ?_
                  refine va_get (ci := 11) (v := .ref ar) (C := RX11) (T := TX11) (N := 17) hx hb hg inX11 hown hE.1 hP 0 rfl rfl 10 (by decide) (hg _ k4_20) (fun _ h9 => h9) rfl dX11_fieldOf_170 ?_
                  refine lv_iload hx hb dX11_fieldOf_173 (lv_at hl 0 rfl) ?_
                  refine ck_iald hx hb hE hP 4 rfl (by omega) (by decide) dX11_fieldOf_175 ?_
                  refine ck_top (y := (nI ((fun f => bitsOf (fun g => decide (g ≠ f) && fNear tr fo kd ht dr f g mi) cf) f0))) (hne f0 (by omega)) ?_
                  refine lv_iand hx hb dX11_fieldOf_176 ?_
                  refine ck_top (y := (nI (k &&& ((fun f => bitsOf (fun g => decide (g ≠ f) && fNear tr fo kd ht dr f g mi) cf) f0)))) (ck_and _ _) ?_
                  refine ck_if0_ne (tgt := 184) hx hb dX11_fieldOf_177 (by decide) (Nat.lt_of_le_of_lt Nat.and_le_left (by omega)) (fun cz_13 => ?_) (fun cz_13 => ?_)
                  · refine lv_iconst (v := (nI 0)) hx hb dX11_fieldOf_184 (by decide) ?_
                    refine lv_istore (lv' := [(5, .int (nI 0)), (6, .int (nI f0)), (4, .int (nI k)), (3, .int (nI fdd)), (2, .int (nI b)), (0, .ref mm), (1, .int (nI mi))]) hx hb dX11_fieldOf_185 hl (by decide) rfl (fun ls hl => ?_)
                    refine lv_iinc (v := (nI (f0 + 1))) (lv' := [(6, .int (nI (f0 + 1))), (5, .int (nI 0)), (4, .int (nI k)), (3, .int (nI fdd)), (2, .int (nI b)), (0, .ref mm), (1, .int (nI mi))]) hx hb dX11_fieldOf_187 hl (k := 1) rfl (nI_1 _) (by decide) rfl (fun ls hl => ?_)
                    refine lv_goto (tgt := 141) hx hb dX11_fieldOf_190 (by decide) ?_
                    exact ih_141 _ (by omega) (f0 + 1) false rfl (by omega) (gm_n cz_12 cz_13) _ _ ls hP hD hS hl
                  refine lv_iconst (v := (nI 1)) hx hb dX11_fieldOf_180 (by decide) ?_
                  refine lv_goto (tgt := 185) hx hb dX11_fieldOf_181 (by decide) ?_
                  refine lv_istore (lv' := [(5, .int (nI 1)), (6, .int (nI f0)), (4, .int (nI k)), (3, .int (nI fdd)), (2, .int (nI b)), (0, .ref mm), (1, .int (nI mi))]) hx hb dX11_fieldOf_185 hl (by decide) rfl (fun ls hl => ?_)
                  refine lv_iinc (v := (nI (f0 + 1))) (lv' := [(6, .int (nI (f0 + 1))), (5, .int (nI 1)), (4, .int (nI k)), (3, .int (nI fdd)), (2, .int (nI b)), (0, .ref mm), (1, .int (nI mi))]) hx hb dX11_fieldOf_187 hl (k := 1) rfl (nI_1 _) (by decide) rfl (fun ls hl => ?_)
                  refine lv_goto (tgt := 141) hx hb dX11_fieldOf_190 (by decide) ?_
                  exact ih_141 _ (by omega) (f0 + 1) true rfl (by omega) (gm_t hgd cz_11 (Or.inr cz_13)) _ _ ls hP hD hS hl
              exact lp_141 _ 0 true rfl (by omega) (decide_eq_true (fun f hf => absurd hf (Nat.not_lt_zero f))).symm _ _ ls hP hD hS hl
            refine lv_goto (tgt := 205) hx hb dX11_fieldOf_132 (by decide) ?_
            refine lv_iinc (v := (nI (k + 1))) (lv' := [(4, .int (nI (k + 1))), (3, .int (nI fdd)), (2, .int (nI b)), (0, .ref mm), (1, .int (nI mi))]) hx hb dX11_fieldOf_205 hl (k := 0) rfl (nI_1 _) (by decide) rfl (fun ls hl => ?_)
            refine lv_goto (tgt := 105) hx hb dX11_fieldOf_208 (by decide) ?_
            exact ih_105 _ (by omega) (k + 1) fdd rfl (by omega) (ckBest_n hk.1 hfd (fun q => absurd q.2.1 (Nat.not_lt.mpr cz_8))) (by omega) _ _ ls hP hD hS hl
        exact lp_105 _ 1 0 rfl (by omega) rfl (by omega) _ _ ls hP hD hS hl
      refine lv_iload_n hx hb dX11_fieldOf_14 rfl (lv_at hl 1 rfl) ?_
      refine lv_aload_n hx hb dX11_fieldOf_15 rfl (lv_at hl 2 rfl) ?_
      refine lv_iload_n hx hb dX11_fieldOf_16 rfl (lv_at hl 0 rfl) ?_
      refine lv_iload_n hx hb dX11_fieldOf_17 rfl (lv_at hl 3 rfl) ?_
      refine ck_Vi (As := [.int (nI i), .int (nI mi)]) (rest := [.int (nI b)]) (wr := [(ae, .inl (N.2 0, 8, .inl ea)), (ao, .inl (N.2 0, 8, .inl no)), (ar, .inl (N.2 0, 8, .inl ne1))]) C0 hP hD hS (c_X11_doesFly l N mm an ak ab az as_ ae ao ar aw al am af ac ke kn fd mn nw cf n wk tr di fo w sdf wof shf twf kd ht dr i mi hV hAir hFo (by omega) (by omega)) myX11_doesFly k4_131 ⟨Nat.le_of_ble_eq_true rfl, Nat.le_of_ble_eq_true rfl⟩ [0, 1] [2, 3, 4] ⟨⟨rfl, rfl⟩, by decide, by decide, by decide⟩ 0 rfl rfl rfl rfl hl.1 rfl (Nat.le_of_ble_eq_true rfl) dX11_fieldOf_18 ⟨Nat.le_of_ble_eq_true rfl, Nat.le_of_ble_eq_true rfl⟩ (fun r_14 u0 H locs hw0 hP hD hS => ?_)
      have hw_15 : r_14 = (b2i (fFly tr fo kd ht i mi)) := hw0
      subst hw_15
      have hP : va_P N.1 vwCl [(ae, .inl (N.2 0, 8, .inl ea)), (ao, .inl (N.2 0, 8, .inl no)), (ar, .inl (N.2 0, 8, .inl ne1)), (mm, .inr (11, [.ref an, .ref ak, .int (nI ke), .int (nI kn), .int fd, .ref ab, .ref az, .ref as_, .ref ae, .ref ao, .ref ar, .ref aw, .ref al, .ref am, .int (nI mn), .ref af, .ref ac])), (an, .inl (N.2 0, 572, .inl nw))] H := hP
      have hD : va_D Ag [(ae, .inl (N.2 0, 8, .inl ea)), (ao, .inl (N.2 0, 8, .inl no)), (ar, .inl (N.2 0, 8, .inl ne1)), (mm, .inr (11, [.ref an, .ref ak, .int (nI ke), .int (nI kn), .int fd, .ref ab, .ref az, .ref as_, .ref ae, .ref ao, .ref ar, .ref aw, .ref al, .ref am, .int (nI mn), .ref af, .ref ac])), (an, .inl (N.2 0, 572, .inl nw))] := hD
      refine ck_ifeq (b := fFly tr fo kd ht i mi) (tgt := 30) hx hb dX11_fieldOf_21 (by decide) (fun cz_16 => ?_) (fun cz_16 => ?_)
      · refine lv_iconst (v := (nI 0)) hx hb dX11_fieldOf_30 (by decide) ?_
        refine lv_ior hx hb dX11_fieldOf_31 ?_
        refine ck_top (y := (nI b)) (ck_or0 _) ?_
        refine lv_istore_n (lv' := [(2, .int (nI b)), (3, .int (nI i)), (0, .ref mm), (1, .int (nI mi))]) hx hb dX11_fieldOf_32 rfl hl (by decide) rfl (fun ls hl => ?_)
        refine lv_aload_n hx hb dX11_fieldOf_33 rfl (lv_at hl 2 rfl) ?_
        refine va_get (ci := 11) (v := .ref ar) (C := RX11) (T := TX11) (N := 17) hx hb hg inX11 hown hE.1 hP 3 rfl rfl 10 (by decide) (hg _ k4_20) (fun _ h9 => h9) rfl dX11_fieldOf_34 ?_
        refine lv_iload_n hx hb dX11_fieldOf_37 rfl (lv_at hl 1 rfl) ?_
        refine lv_iconst (v := (nI 0)) hx hb dX11_fieldOf_38 (by decide) ?_
        refine ck_iast hx hb hE hP hD hS 2 rfl (by omega) (by decide) dX11_fieldOf_39 (ws1 := [(ae, .inl (N.2 0, 8, .inl ea)), (ao, .inl (N.2 0, 8, .inl no)), (ar, .inl (N.2 0, 8, .inl (upd ne1 i (nI 0)))), (mm, .inr (11, [.ref an, .ref ak, .int (nI ke), .int (nI kn), .int fd, .ref ab, .ref az, .ref as_, .ref ae, .ref ao, .ref ar, .ref aw, .ref al, .ref am, .int (nI mn), .ref af, .ref ac])), (an, .inl (N.2 0, 572, .inl nw))]) rfl (fun H locs hP hD hS => ?_)
        refine lv_iconst (v := (nI 0)) hx hb dX11_fieldOf_40 (by decide) ?_
        refine lv_istore (lv' := [(4, .int (nI 0)), (2, .int (nI b)), (3, .int (nI i)), (0, .ref mm), (1, .int (nI mi))]) hx hb dX11_fieldOf_41 hl (by decide) rfl (fun ls hl => ?_)
        have lp_43 : ∀ (dz : Nat) (j : Nat) (b2 : Nat) (ne2 : Nat → Int32) (hdz : cf - j = dz) (hj : j ≤ cf) (hb2 : b2 = bitsOf (fun f => fFly tr fo kd ht f mi) (i + 1)) (hni : ne2 i = nI (bitsOf (fun g => decide (g ≠ i) && fNear tr fo kd ht dr i g mi) j)) (hne2 : ∀ f, f < i → ne2 f = nI ((fun f => bitsOf (fun g => decide (g ≠ f) && fNear tr fo kd ht dr f g mi) cf) f)) (H : Heap) (locs : List Loc) (ls : Array Slot), va_P N.1 vwCl [(mm, .inr (11, [.ref an, .ref ak, .int (nI ke), .int (nI kn), .int fd, .ref ab, .ref az, .ref as_, .ref ae, .ref ao, .ref ar, .ref aw, .ref al, .ref am, .int (nI mn), .ref af, .ref ac])), (an, .inl (N.2 0, 572, .inl nw)), (ae, .inl (N.2 0, 8, .inl ea)), (ao, .inl (N.2 0, 8, .inl no)), (ar, .inl (N.2 0, 8, .inl ne2))] H → va_D Ag [(mm, .inr (11, [.ref an, .ref ak, .int (nI ke), .int (nI kn), .int fd, .ref ab, .ref az, .ref as_, .ref ae, .ref ao, .ref ar, .ref aw, .ref al, .ref am, .int (nI mn), .ref af, .ref ac])), (an, .inl (N.2 0, 572, .inl nw)), (ae, .inl (N.2 0, 8, .inl ea)), (ao, .inl (N.2 0, 8, .inl no)), (ar, .inl (N.2 0, 8, .inl ne2))] → va_S Ag sg.heap H locs → lv_has ls 7 [(4, .int (nI j)), (3, .int (nI i)), (2, .int (nI b2)), (0, .ref mm), (1, .int (nI mi))] → W pg l eg { frames := 6, cells := 0, slots := 0, locals := 152 } sg mg ([.ref mm, .int (nI mi)]).toArray blw mth cg H locs 0 0 (ckQi N Ag blw sg ([.ref mm, .int (nI mi)]).toArray { frames := 6, cells := 0, slots := 0, locals := 152 } (fun (r : Int32) (u : (Nat → Int32)) => r = (nI (ckField (fun f => fFly tr fo kd ht f mi) (fun f g => fNear tr fo kd ht dr f g mi) cf))) (fun (u : (Nat → Int32)) => [(mm, .inr (11, [.ref an, .ref ak, .int (nI ke), .int (nI kn), .int fd, .ref ab, .ref az, .ref as_, .ref ae, .ref ao, .ref ar, .ref aw, .ref al, .ref am, .int (nI mn), .ref af, .ref ac])), (an, .inl (N.2 0, 572, .inl nw)), (ae, .inl (N.2 0, 8, .inl ea)), (ao, .inl (N.2 0, 8, .inl no)), (ar, .inl (N.2 0, 8, .inl u))])) (F0 mg 43 ls []) := by
          intro dz
          induction dz using Nat.strongRecOn with
          | _ dz ih_43 =>
            intro j b2 ne2 hdz hj hb2 hni hne2 H locs ls hP hD hS hl
            subst hdz
            refine lv_iload hx hb dX11_fieldOf_43 (lv_at hl 0 rfl) ?_
            refine lv_aload_n hx hb dX11_fieldOf_45 rfl (lv_at hl 3 rfl) ?_
            refine va_get (ci := 11) (v := .ref an) (C := RX11) (T := TX11) (N := 17) hx hb hg inX11 hown hE.1 hP 0 rfl rfl 0 (by decide) (hg _ k4_10) (fun _ h9 => h9) rfl dX11_fieldOf_46 ?_
            refine lv_iconst (v := (nI 0)) hx hb dX11_fieldOf_49 (by decide) ?_
            refine ck_iald hx hb hE hP 1 rfl (by omega) (by decide) dX11_fieldOf_50 ?_
            refine ck_top (y := (nI cf)) hV.1 ?_
            refine ck_ic_ge (tgt := 94) hx hb dX11_fieldOf_51 (by decide) (by omega) (by omega) (fun cz_17 => ?_) (fun cz_17 => ?_)
            · refine lv_iinc (v := (nI (i + 1))) (lv' := [(3, .int (nI (i + 1))), (4, .int (nI j)), (2, .int (nI b2)), (0, .ref mm), (1, .int (nI mi))]) hx hb dX11_fieldOf_94 hl (k := 1) rfl (nI_1 _) (by decide) rfl (fun ls hl => ?_)
              refine lv_goto (tgt := 4) hx hb dX11_fieldOf_97 (by decide) ?_
              exact ih_4 _ (by omega) (i + 1) b2 ne2 rfl (by omega) hb2 (lt_s hne2 (by rw [hni, (show j = cf by omega)])) _ _ ls hP hD hS (lv_sub hl [0, 2, 3, 4] rfl)
            refine lv_aload_n hx hb dX11_fieldOf_54 rfl (lv_at hl 3 rfl) ?_
            refine va_get (ci := 11) (v := .ref ar) (C := RX11) (T := TX11) (N := 17) hx hb hg inX11 hown hE.1 hP 0 rfl rfl 10 (by decide) (hg _ k4_20) (fun _ h9 => h9) rfl dX11_fieldOf_55 ?_
            refine lv_iload_n hx hb dX11_fieldOf_58 rfl (lv_at hl 1 rfl) ?_
            refine lv_dup2_11 hx hb dX11_fieldOf_59 rfl rfl ?_
            refine ck_iald hx hb hE hP 4 rfl (by omega) (by decide) dX11_fieldOf_60 ?_
            refine ck_top (y := (nI (bitsOf (fun g => decide (g ≠ i) && fNear tr fo kd ht dr i g mi) j))) hni ?_
            refine lv_iload hx hb dX11_fieldOf_61 (lv_at hl 0 rfl) ?_
            refine lv_iload_n hx hb dX11_fieldOf_63 rfl (lv_at hl 1 rfl) ?_
            refine ck_ic_eq (tgt := 85) hx hb dX11_fieldOf_64 (by decide) (by omega) (by omega) (fun cz_18 => ?_) (fun cz_18 => ?_)
            · refine lv_iconst (v := (nI 0)) hx hb dX11_fieldOf_85 (by decide) ?_
              refine lv_ior hx hb dX11_fieldOf_86 ?_
              refine ck_top (y := (nI (bitsOf (fun g => decide (g ≠ i) && fNear tr fo kd ht dr i g mi) j))) (ck_or0 _) ?_
              refine ck_iast hx hb hE hP hD hS 4 rfl (by omega) (by decide) dX11_fieldOf_87 (ws1 := [(mm, .inr (11, [.ref an, .ref ak, .int (nI ke), .int (nI kn), .int fd, .ref ab, .ref az, .ref as_, .ref ae, .ref ao, .ref ar, .ref aw, .ref al, .ref am, .int (nI mn), .ref af, .ref ac])), (an, .inl (N.2 0, 572, .inl nw)), (ae, .inl (N.2 0, 8, .inl ea)), (ao, .inl (N.2 0, 8, .inl no)), (ar, .inl (N.2 0, 8, .inl (upd ne2 i (nI (bitsOf (fun g => decide (g ≠ i) && fNear tr fo kd ht dr i g mi) j)))))]) rfl (fun H locs hP hD hS => ?_)
              refine lv_iinc (v := (nI (j + 1))) (lv' := [(4, .int (nI (j + 1))), (3, .int (nI i)), (2, .int (nI b2)), (0, .ref mm), (1, .int (nI mi))]) hx hb dX11_fieldOf_88 hl (k := 0) rfl (nI_1 _) (by decide) rfl (fun ls hl => ?_)
              refine lv_goto (tgt := 43) hx hb dX11_fieldOf_91 (by decide) ?_
              exact ih_43 _ (by omega) (j + 1) b2 (upd ne2 i (nI (bitsOf (fun g => decide (g ≠ i) && fNear tr fo kd ht dr i g mi) j))) rfl (by omega) hb2 (pk_us.trans (by rw [bitsOf, (show (decide (j ≠ i) && fNear tr fo kd ht dr i j mi) = false from by rw [decide_eq_false (fun q => q cz_18)]; rfl)]; rfl)) (fun f hf => (pk_un (by omega)).trans (hne2 f hf)) _ _ ls hP hD hS hl
            refine lv_aload_n hx hb dX11_fieldOf_67 rfl (lv_at hl 3 rfl) ?_
            refine lv_iload_n hx hb dX11_fieldOf_68 rfl (lv_at hl 1 rfl) ?_
            refine lv_iload hx hb dX11_fieldOf_69 (lv_at hl 0 rfl) ?_
            refine lv_iload_n hx hb dX11_fieldOf_71 rfl (lv_at hl 4 rfl) ?_
            refine ck_Vi (As := [.int (nI i), .int (nI j), .int (nI mi)]) (rest := [.int (nI (bitsOf (fun g => decide (g ≠ i) && fNear tr fo kd ht dr i g mi) j)), .int (nI i), .ref ar]) (wr := [(ar, .inl (N.2 0, 8, .inl ne2))]) C0 hP hD hS (c_X11_doMeet l N mm an ak ab az as_ ae ao ar aw al am af ac ke kn fd mn nw ea no cf n wk tr di fo w sdf wof shf twf kd ht dr i j mi hV hAir hTr hFo hea hno (by omega) (by omega) (by omega)) myX11_doMeet k4_151 ⟨Nat.le_of_ble_eq_true rfl, Nat.le_of_ble_eq_true rfl⟩ [0, 1, 2, 3] [4] ⟨⟨rfl, rfl⟩, by decide, by decide, by decide⟩ 0 rfl rfl rfl rfl hl.1 rfl (Nat.le_of_ble_eq_true rfl) dX11_fieldOf_72 ⟨Nat.le_of_ble_eq_true rfl, Nat.le_of_ble_eq_true rfl⟩ (fun r_19 u0 H locs hw0 hP hD hS => ?_)
            have hw_20 : r_19 = (b2i (fNear tr fo kd ht dr i j mi)) := hw0
            subst hw_20
            have hP : va_P N.1 vwCl [(ar, .inl (N.2 0, 8, .inl ne2)), (mm, .inr (11, [.ref an, .ref ak, .int (nI ke), .int (nI kn), .int fd, .ref ab, .ref az, .ref as_, .ref ae, .ref ao, .ref ar, .ref aw, .ref al, .ref am, .int (nI mn), .ref af, .ref ac])), (an, .inl (N.2 0, 572, .inl nw)), (ae, .inl (N.2 0, 8, .inl ea)), (ao, .inl (N.2 0, 8, .inl no))] H := hP
            have hD : va_D Ag [(ar, .inl (N.2 0, 8, .inl ne2)), (mm, .inr (11, [.ref an, .ref ak, .int (nI ke), .int (nI kn), .int fd, .ref ab, .ref az, .ref as_, .ref ae, .ref ao, .ref ar, .ref aw, .ref al, .ref am, .int (nI mn), .ref af, .ref ac])), (an, .inl (N.2 0, 572, .inl nw)), (ae, .inl (N.2 0, 8, .inl ea)), (ao, .inl (N.2 0, 8, .inl no))] := hD
            refine ck_ifeq (b := fNear tr fo kd ht dr i j mi) (tgt := 85) hx hb dX11_fieldOf_75 (by decide) (fun cz_21 => ?_) (fun cz_21 => ?_)
            · refine lv_iconst (v := (nI 0)) hx hb dX11_fieldOf_85 (by decide) ?_
              refine lv_ior hx hb dX11_fieldOf_86 ?_
              refine ck_top (y := (nI (bitsOf (fun g => decide (g ≠ i) && fNear tr fo kd ht dr i g mi) j))) (ck_or0 _) ?_
              refine ck_iast hx hb hE hP hD hS 0 rfl (by omega) (by decide) dX11_fieldOf_87 (ws1 := [(ar, .inl (N.2 0, 8, .inl (upd ne2 i (nI (bitsOf (fun g => decide (g ≠ i) && fNear tr fo kd ht dr i g mi) j))))), (mm, .inr (11, [.ref an, .ref ak, .int (nI ke), .int (nI kn), .int fd, .ref ab, .ref az, .ref as_, .ref ae, .ref ao, .ref ar, .ref aw, .ref al, .ref am, .int (nI mn), .ref af, .ref ac])), (an, .inl (N.2 0, 572, .inl nw)), (ae, .inl (N.2 0, 8, .inl ea)), (ao, .inl (N.2 0, 8, .inl no))]) rfl (fun H locs hP hD hS => ?_)
              refine lv_iinc (v := (nI (j + 1))) (lv' := [(4, .int (nI (j + 1))), (3, .int (nI i)), (2, .int (nI b2)), (0, .ref mm), (1, .int (nI mi))]) hx hb dX11_fieldOf_88 hl (k := 0) rfl (nI_1 _) (by decide) rfl (fun ls hl => ?_)
              refine lv_goto (tgt := 43) hx hb dX11_fieldOf_91 (by decide) ?_
              exact ih_43 _ (by omega) (j + 1) b2 (upd ne2 i (nI (bitsOf (fun g => decide (g ≠ i) && fNear tr fo kd ht dr i g mi) j))) rfl (by omega) hb2 (pk_us.trans (by rw [bitsOf, (show (decide (j ≠ i) && fNear tr fo kd ht dr i j mi) = false from by rw [decide_eq_true cz_18, cz_21]; rfl)]; rfl)) (fun f hf => (pk_un (by omega)).trans (hne2 f hf)) _ _ ls (hP.sub [1, 2, 3, 4, 0] rfl) (hD.sub [1, 2, 3, 4, 0] (by decide) rfl) hS hl
            refine lv_iconst (v := (nI 1)) hx hb dX11_fieldOf_78 (by decide) ?_
            refine lv_iload hx hb dX11_fieldOf_79 (lv_at hl 0 rfl) ?_
            refine lv_ishl hx hb dX11_fieldOf_81 ?_
            refine ck_top (y := (nI (2 ^ j))) (ck_shl1 (by omega)) ?_
            refine lv_goto (tgt := 86) hx hb dX11_fieldOf_82 (by decide) ?_
            refine lv_ior hx hb dX11_fieldOf_86 ?_
            refine ck_top (y := (nI ((bitsOf (fun g => decide (g ≠ i) && fNear tr fo kd ht dr i g mi) j) ||| (2 ^ j)))) (ck_or _ _) ?_
            refine ck_iast hx hb hE hP hD hS 0 rfl (by omega) (by decide) dX11_fieldOf_87 (ws1 := [(ar, .inl (N.2 0, 8, .inl (upd ne2 i (nI ((bitsOf (fun g => decide (g ≠ i) && fNear tr fo kd ht dr i g mi) j) ||| (2 ^ j)))))), (mm, .inr (11, [.ref an, .ref ak, .int (nI ke), .int (nI kn), .int fd, .ref ab, .ref az, .ref as_, .ref ae, .ref ao, .ref ar, .ref aw, .ref al, .ref am, .int (nI mn), .ref af, .ref ac])), (an, .inl (N.2 0, 572, .inl nw)), (ae, .inl (N.2 0, 8, .inl ea)), (ao, .inl (N.2 0, 8, .inl no))]) rfl (fun H locs hP hD hS => ?_)
            refine lv_iinc (v := (nI (j + 1))) (lv' := [(4, .int (nI (j + 1))), (3, .int (nI i)), (2, .int (nI b2)), (0, .ref mm), (1, .int (nI mi))]) hx hb dX11_fieldOf_88 hl (k := 0) rfl (nI_1 _) (by decide) rfl (fun ls hl => ?_)
            refine lv_goto (tgt := 43) hx hb dX11_fieldOf_91 (by decide) ?_
            exact ih_43 _ (by omega) (j + 1) b2 (upd ne2 i (nI ((bitsOf (fun g => decide (g ≠ i) && fNear tr fo kd ht dr i g mi) j) ||| (2 ^ j)))) rfl (by omega) hb2 (pk_us.trans (by rw [bitsOf, (show (decide (j ≠ i) && fNear tr fo kd ht dr i j mi) = true from by rw [decide_eq_true cz_18, cz_21]; rfl)]; rfl)) (fun f hf => (pk_un (by omega)).trans (hne2 f hf)) _ _ ls (hP.sub [1, 2, 3, 4, 0] rfl) (hD.sub [1, 2, 3, 4, 0] (by decide) rfl) hS hl
        exact lp_43 _ 0 b (upd ne1 i (nI 0)) rfl (by omega) (by rw [bitsOf, cz_16, hbb]; rfl) pk_us (fun f hf => (pk_un (by omega)).trans (hne f hf)) _ _ ls (hP.sub [3, 4, 0, 1, 2] rfl) (hD.sub [3, 4, 0, 1, 2] (by decide) rfl) hS (lv_sub hl [0, 2, 1, 3, 4] rfl)
      refine lv_iconst (v := (nI 1)) hx hb dX11_fieldOf_24 (by decide) ?_
      refine lv_iload_n hx hb dX11_fieldOf_25 rfl (lv_at hl 0 rfl) ?_
      refine lv_ishl hx hb dX11_fieldOf_26 ?_
      refine ck_top (y := (nI (2 ^ i))) (ck_shl1 (by omega)) ?_
      refine lv_goto (tgt := 31) hx hb dX11_fieldOf_27 (by decide) ?_
      refine lv_ior hx hb dX11_fieldOf_31 ?_
      refine ck_top (y := (nI (b ||| (2 ^ i)))) (ck_or _ _) ?_
      refine lv_istore_n (lv' := [(2, .int (nI (b ||| (2 ^ i)))), (3, .int (nI i)), (0, .ref mm), (1, .int (nI mi))]) hx hb dX11_fieldOf_32 rfl hl (by decide) rfl (fun ls hl => ?_)
      refine lv_aload_n hx hb dX11_fieldOf_33 rfl (lv_at hl 2 rfl) ?_
      refine va_get (ci := 11) (v := .ref ar) (C := RX11) (T := TX11) (N := 17) hx hb hg inX11 hown hE.1 hP 3 rfl rfl 10 (by decide) (hg _ k4_20) (fun _ h9 => h9) rfl dX11_fieldOf_34 ?_
      refine lv_iload_n hx hb dX11_fieldOf_37 rfl (lv_at hl 1 rfl) ?_
      refine lv_iconst (v := (nI 0)) hx hb dX11_fieldOf_38 (by decide) ?_
      refine ck_iast hx hb hE hP hD hS 2 rfl (by omega) (by decide) dX11_fieldOf_39 (ws1 := [(ae, .inl (N.2 0, 8, .inl ea)), (ao, .inl (N.2 0, 8, .inl no)), (ar, .inl (N.2 0, 8, .inl (upd ne1 i (nI 0)))), (mm, .inr (11, [.ref an, .ref ak, .int (nI ke), .int (nI kn), .int fd, .ref ab, .ref az, .ref as_, .ref ae, .ref ao, .ref ar, .ref aw, .ref al, .ref am, .int (nI mn), .ref af, .ref ac])), (an, .inl (N.2 0, 572, .inl nw))]) rfl (fun H locs hP hD hS => ?_)
      refine lv_iconst (v := (nI 0)) hx hb dX11_fieldOf_40 (by decide) ?_
      refine lv_istore (lv' := [(4, .int (nI 0)), (2, .int (nI (b ||| (2 ^ i)))), (3, .int (nI i)), (0, .ref mm), (1, .int (nI mi))]) hx hb dX11_fieldOf_41 hl (by decide) rfl (fun ls hl => ?_)
      have lp_43 : ∀ (dz : Nat) (j : Nat) (b2 : Nat) (ne2 : Nat → Int32) (hdz : cf - j = dz) (hj : j ≤ cf) (hb2 : b2 = bitsOf (fun f => fFly tr fo kd ht f mi) (i + 1)) (hni : ne2 i = nI (bitsOf (fun g => decide (g ≠ i) && fNear tr fo kd ht dr i g mi) j)) (hne2 : ∀ f, f < i → ne2 f = nI ((fun f => bitsOf (fun g => decide (g ≠ f) && fNear tr fo kd ht dr f g mi) cf) f)) (H : Heap) (locs : List Loc) (ls : Array Slot), va_P N.1 vwCl [(mm, .inr (11, [.ref an, .ref ak, .int (nI ke), .int (nI kn), .int fd, .ref ab, .ref az, .ref as_, .ref ae, .ref ao, .ref ar, .ref aw, .ref al, .ref am, .int (nI mn), .ref af, .ref ac])), (an, .inl (N.2 0, 572, .inl nw)), (ae, .inl (N.2 0, 8, .inl ea)), (ao, .inl (N.2 0, 8, .inl no)), (ar, .inl (N.2 0, 8, .inl ne2))] H → va_D Ag [(mm, .inr (11, [.ref an, .ref ak, .int (nI ke), .int (nI kn), .int fd, .ref ab, .ref az, .ref as_, .ref ae, .ref ao, .ref ar, .ref aw, .ref al, .ref am, .int (nI mn), .ref af, .ref ac])), (an, .inl (N.2 0, 572, .inl nw)), (ae, .inl (N.2 0, 8, .inl ea)), (ao, .inl (N.2 0, 8, .inl no)), (ar, .inl (N.2 0, 8, .inl ne2))] → va_S Ag sg.heap H locs → lv_has ls 7 [(4, .int (nI j)), (3, .int (nI i)), (2, .int (nI b2)), (0, .ref mm), (1, .int (nI mi))] → W pg l eg { frames := 6, cells := 0, slots := 0, locals := 152 } sg mg ([.ref mm, .int (nI mi)]).toArray blw mth cg H locs 0 0 (ckQi N Ag blw sg ([.ref mm, .int (nI mi)]).toArray { frames := 6, cells := 0, slots := 0, locals := 152 } (fun (r : Int32) (u : (Nat → Int32)) => r = (nI (ckField (fun f => fFly tr fo kd ht f mi) (fun f g => fNear tr fo kd ht dr f g mi) cf))) (fun (u : (Nat → Int32)) => [(mm, .inr (11, [.ref an, .ref ak, .int (nI ke), .int (nI kn), .int fd, .ref ab, .ref az, .ref as_, .ref ae, .ref ao, .ref ar, .ref aw, .ref al, .ref am, .int (nI mn), .ref af, .ref ac])), (an, .inl (N.2 0, 572, .inl nw)), (ae, .inl (N.2 0, 8, .inl ea)), (ao, .inl (N.2 0, 8, .inl no)), (ar, .inl (N.2 0, 8, .inl u))])) (F0 mg 43 ls []) := by
        intro dz
        induction dz using Nat.strongRecOn with
        | _ dz ih_43 =>
          intro j b2 ne2 hdz hj hb2 hni hne2 H locs ls hP hD hS hl
          subst hdz
          refine lv_iload hx hb dX11_fieldOf_43 (lv_at hl 0 rfl) ?_
          refine lv_aload_n hx hb dX11_fieldOf_45 rfl (lv_at hl 3 rfl) ?_
          refine va_get (ci := 11) (v := .ref an) (C := RX11) (T := TX11) (N := 17) hx hb hg inX11 hown hE.1 hP 0 rfl rfl 0 (by decide) (hg _ k4_10) (fun _ h9 => h9) rfl dX11_fieldOf_46 ?_
          refine lv_iconst (v := (nI 0)) hx hb dX11_fieldOf_49 (by decide) ?_
          refine ck_iald hx hb hE hP 1 rfl (by omega) (by decide) dX11_fieldOf_50 ?_
          refine ck_top (y := (nI cf)) hV.1 ?_
          refine ck_ic_ge (tgt := 94) hx hb dX11_fieldOf_51 (by decide) (by omega) (by omega) (fun cz_22 => ?_) (fun cz_22 => ?_)
          · refine lv_iinc (v := (nI (i + 1))) (lv' := [(3, .int (nI (i + 1))), (4, .int (nI j)), (2, .int (nI b2)), (0, .ref mm), (1, .int (nI mi))]) hx hb dX11_fieldOf_94 hl (k := 1) rfl (nI_1 _) (by decide) rfl (fun ls hl => ?_)
            refine lv_goto (tgt := 4) hx hb dX11_fieldOf_97 (by decide) ?_
            exact ih_4 _ (by omega) (i + 1) b2 ne2 rfl (by omega) hb2 (lt_s hne2 (by rw [hni, (show j = cf by omega)])) _ _ ls hP hD hS (lv_sub hl [0, 2, 3, 4] rfl)
          refine lv_aload_n hx hb dX11_fieldOf_54 rfl (lv_at hl 3 rfl) ?_
          refine va_get (ci := 11) (v := .ref ar) (C := RX11) (T := TX11) (N := 17) hx hb hg inX11 hown hE.1 hP 0 rfl rfl 10 (by decide) (hg _ k4_20) (fun _ h9 => h9) rfl dX11_fieldOf_55 ?_
          refine lv_iload_n hx hb dX11_fieldOf_58 rfl (lv_at hl 1 rfl) ?_
          refine lv_dup2_11 hx hb dX11_fieldOf_59 rfl rfl ?_
          refine ck_iald hx hb hE hP 4 rfl (by omega) (by decide) dX11_fieldOf_60 ?_
          refine ck_top (y := (nI (bitsOf (fun g => decide (g ≠ i) && fNear tr fo kd ht dr i g mi) j))) hni ?_
          refine lv_iload hx hb dX11_fieldOf_61 (lv_at hl 0 rfl) ?_
          refine lv_iload_n hx hb dX11_fieldOf_63 rfl (lv_at hl 1 rfl) ?_
          refine ck_ic_eq (tgt := 85) hx hb dX11_fieldOf_64 (by decide) (by omega) (by omega) (fun cz_23 => ?_) (fun cz_23 => ?_)
          · refine lv_iconst (v := (nI 0)) hx hb dX11_fieldOf_85 (by decide) ?_
            refine lv_ior hx hb dX11_fieldOf_86 ?_
            refine ck_top (y := (nI (bitsOf (fun g => decide (g ≠ i) && fNear tr fo kd ht dr i g mi) j))) (ck_or0 _) ?_
            refine ck_iast hx hb hE hP hD hS 4 rfl (by omega) (by decide) dX11_fieldOf_87 (ws1 := [(mm, .inr (11, [.ref an, .ref ak, .int (nI ke), .int (nI kn), .int fd, .ref ab, .ref az, .ref as_, .ref ae, .ref ao, .ref ar, .ref aw, .ref al, .ref am, .int (nI mn), .ref af, .ref ac])), (an, .inl (N.2 0, 572, .inl nw)), (ae, .inl (N.2 0, 8, .inl ea)), (ao, .inl (N.2 0, 8, .inl no)), (ar, .inl (N.2 0, 8, .inl (upd ne2 i (nI (bitsOf (fun g => decide (g ≠ i) && fNear tr fo kd ht dr i g mi) j)))))]) rfl (fun H locs hP hD hS => ?_)
            refine lv_iinc (v := (nI (j + 1))) (lv' := [(4, .int (nI (j + 1))), (3, .int (nI i)), (2, .int (nI b2)), (0, .ref mm), (1, .int (nI mi))]) hx hb dX11_fieldOf_88 hl (k := 0) rfl (nI_1 _) (by decide) rfl (fun ls hl => ?_)
            refine lv_goto (tgt := 43) hx hb dX11_fieldOf_91 (by decide) ?_
            exact ih_43 _ (by omega) (j + 1) b2 (upd ne2 i (nI (bitsOf (fun g => decide (g ≠ i) && fNear tr fo kd ht dr i g mi) j))) rfl (by omega) hb2 (pk_us.trans (by rw [bitsOf, (show (decide (j ≠ i) && fNear tr fo kd ht dr i j mi) = false from by rw [decide_eq_false (fun q => q cz_23)]; rfl)]; rfl)) (fun f hf => (pk_un (by omega)).trans (hne2 f hf)) _ _ ls hP hD hS hl
          refine lv_aload_n hx hb dX11_fieldOf_67 rfl (lv_at hl 3 rfl) ?_
          refine lv_iload_n hx hb dX11_fieldOf_68 rfl (lv_at hl 1 rfl) ?_
          refine lv_iload hx hb dX11_fieldOf_69 (lv_at hl 0 rfl) ?_
          refine lv_iload_n hx hb dX11_fieldOf_71 rfl (lv_at hl 4 rfl) ?_
          refine ck_Vi (As := [.int (nI i), .int (nI j), .int (nI mi)]) (rest := [.int (nI (bitsOf (fun g => decide (g ≠ i) && fNear tr fo kd ht dr i g mi) j)), .int (nI i), .ref ar]) (wr := [(ar, .inl (N.2 0, 8, .inl ne2))]) C0 hP hD hS (c_X11_doMeet l N mm an ak ab az as_ ae ao ar aw al am af ac ke kn fd mn nw ea no cf n wk tr di fo w sdf wof shf twf kd ht dr i j mi hV hAir hTr hFo hea hno (by omega) (by omega) (by omega)) myX11_doMeet k4_151 ⟨Nat.le_of_ble_eq_true rfl, Nat.le_of_ble_eq_true rfl⟩ [0, 1, 2, 3] [4] ⟨⟨rfl, rfl⟩, by decide, by decide, by decide⟩ 0 rfl rfl rfl rfl hl.1 rfl (Nat.le_of_ble_eq_true rfl) dX11_fieldOf_72 ⟨Nat.le_of_ble_eq_true rfl, Nat.le_of_ble_eq_true rfl⟩ (fun r_24 u0 H locs hw0 hP hD hS => ?_)
          have hw_25 : r_24 = (b2i (fNear tr fo kd ht dr i j mi)) := hw0
          subst hw_25
          have hP : va_P N.1 vwCl [(ar, .inl (N.2 0, 8, .inl ne2)), (mm, .inr (11, [.ref an, .ref ak, .int (nI ke), .int (nI kn), .int fd, .ref ab, .ref az, .ref as_, .ref ae, .ref ao, .ref ar, .ref aw, .ref al, .ref am, .int (nI mn), .ref af, .ref ac])), (an, .inl (N.2 0, 572, .inl nw)), (ae, .inl (N.2 0, 8, .inl ea)), (ao, .inl (N.2 0, 8, .inl no))] H := hP
          have hD : va_D Ag [(ar, .inl (N.2 0, 8, .inl ne2)), (mm, .inr (11, [.ref an, .ref ak, .int (nI ke), .int (nI kn), .int fd, .ref ab, .ref az, .ref as_, .ref ae, .ref ao, .ref ar, .ref aw, .ref al, .ref am, .int (nI mn), .ref af, .ref ac])), (an, .inl (N.2 0, 572, .inl nw)), (ae, .inl (N.2 0, 8, .inl ea)), (ao, .inl (N.2 0, 8, .inl no))] := hD
          refine ck_ifeq (b := fNear tr fo kd ht dr i j mi) (tgt := 85) hx hb dX11_fieldOf_75 (by decide) (fun cz_26 => ?_) (fun cz_26 => ?_)
          · refine lv_iconst (v := (nI 0)) hx hb dX11_fieldOf_85 (by decide) ?_
            refine lv_ior hx hb dX11_fieldOf_86 ?_
            refine ck_top (y := (nI (bitsOf (fun g => decide (g ≠ i) && fNear tr fo kd ht dr i g mi) j))) (ck_or0 _) ?_
            refine ck_iast hx hb hE hP hD hS 0 rfl (by omega) (by decide) dX11_fieldOf_87 (ws1 := [(ar, .inl (N.2 0, 8, .inl (upd ne2 i (nI (bitsOf (fun g => decide (g ≠ i) && fNear tr fo kd ht dr i g mi) j))))), (mm, .inr (11, [.ref an, .ref ak, .int (nI ke), .int (nI kn), .int fd, .ref ab, .ref az, .ref as_, .ref ae, .ref ao, .ref ar, .ref aw, .ref al, .ref am, .int (nI mn), .ref af, .ref ac])), (an, .inl (N.2 0, 572, .inl nw)), (ae, .inl (N.2 0, 8, .inl ea)), (ao, .inl (N.2 0, 8, .inl no))]) rfl (fun H locs hP hD hS => ?_)
            refine lv_iinc (v := (nI (j + 1))) (lv' := [(4, .int (nI (j + 1))), (3, .int (nI i)), (2, .int (nI b2)), (0, .ref mm), (1, .int (nI mi))]) hx hb dX11_fieldOf_88 hl (k := 0) rfl (nI_1 _) (by decide) rfl (fun ls hl => ?_)
            refine lv_goto (tgt := 43) hx hb dX11_fieldOf_91 (by decide) ?_
            exact ih_43 _ (by omega) (j + 1) b2 (upd ne2 i (nI (bitsOf (fun g => decide (g ≠ i) && fNear tr fo kd ht dr i g mi) j))) rfl (by omega) hb2 (pk_us.trans (by rw [bitsOf, (show (decide (j ≠ i) && fNear tr fo kd ht dr i j mi) = false from by rw [decide_eq_true cz_23, cz_26]; rfl)]; rfl)) (fun f hf => (pk_un (by omega)).trans (hne2 f hf)) _ _ ls (hP.sub [1, 2, 3, 4, 0] rfl) (hD.sub [1, 2, 3, 4, 0] (by decide) rfl) hS hl
          refine lv_iconst (v := (nI 1)) hx hb dX11_fieldOf_78 (by decide) ?_
          refine lv_iload hx hb dX11_fieldOf_79 (lv_at hl 0 rfl) ?_
          refine lv_ishl hx hb dX11_fieldOf_81 ?_
          refine ck_top (y := (nI (2 ^ j))) (ck_shl1 (by omega)) ?_
          refine lv_goto (tgt := 86) hx hb dX11_fieldOf_82 (by decide) ?_
          refine lv_ior hx hb dX11_fieldOf_86 ?_
          refine ck_top (y := (nI ((bitsOf (fun g => decide (g ≠ i) && fNear tr fo kd ht dr i g mi) j) ||| (2 ^ j)))) (ck_or _ _) ?_
          refine ck_iast hx hb hE hP hD hS 0 rfl (by omega) (by decide) dX11_fieldOf_87 (ws1 := [(ar, .inl (N.2 0, 8, .inl (upd ne2 i (nI ((bitsOf (fun g => decide (g ≠ i) && fNear tr fo kd ht dr i g mi) j) ||| (2 ^ j)))))), (mm, .inr (11, [.ref an, .ref ak, .int (nI ke), .int (nI kn), .int fd, .ref ab, .ref az, .ref as_, .ref ae, .ref ao, .ref ar, .ref aw, .ref al, .ref am, .int (nI mn), .ref af, .ref ac])), (an, .inl (N.2 0, 572, .inl nw)), (ae, .inl (N.2 0, 8, .inl ea)), (ao, .inl (N.2 0, 8, .inl no))]) rfl (fun H locs hP hD hS => ?_)
          refine lv_iinc (v := (nI (j + 1))) (lv' := [(4, .int (nI (j + 1))), (3, .int (nI i)), (2, .int (nI b2)), (0, .ref mm), (1, .int (nI mi))]) hx hb dX11_fieldOf_88 hl (k := 0) rfl (nI_1 _) (by decide) rfl (fun ls hl => ?_)
          refine lv_goto (tgt := 43) hx hb dX11_fieldOf_91 (by decide) ?_
          exact ih_43 _ (by omega) (j + 1) b2 (upd ne2 i (nI ((bitsOf (fun g => decide (g ≠ i) && fNear tr fo kd ht dr i g mi) j) ||| (2 ^ j)))) rfl (by omega) hb2 (pk_us.trans (by rw [bitsOf, (show (decide (j ≠ i) && fNear tr fo kd ht dr i j mi) = true from by rw [decide_eq_true cz_23, cz_26]; rfl)]; rfl)) (fun f hf => (pk_un (by omega)).trans (hne2 f hf)) _ _ ls (hP.sub [1, 2, 3, 4, 0] rfl) (hD.sub [1, 2, 3, 4, 0] (by decide) rfl) hS hl
      exact lp_43 _ 0 (b ||| (2 ^ i)) (upd ne1 i (nI 0)) rfl (by omega) (by rw [bitsOf, cz_16, hbb]; rfl) pk_us (fun f hf => (pk_un (by omega)).trans (hne f hf)) _ _ ls (hP.sub [3, 4, 0, 1, 2] rfl) (hD.sub [3, 4, 0, 1, 2] (by decide) rfl) hS (lv_sub hl [0, 2, 1, 3, 4] rfl)
  exact lp_4 _ 0 0 ne rfl (by omega) rfl (fun f hf => absurd hf (Nat.not_lt_zero f)) _ _ ls hP hD hS hl
set_option maxHeartbeats 4000000 in
set_option maxRecDepth 100000 in
/-- X11_as -/
theorem c_X11_as (l : Launch) (N : ckN) (mm : Nat) (an : Nat) (ak : Nat) (ab : Nat) (az : Nat) (as_ : Nat) (ae : Nat) (ao : Nat) (ar : Nat) (aw : Nat) (al : Nat) (am : Nat) (af : Nat) (ac : Nat) (ke : Nat) (kn : Nat) (fd : Int32) (mn : Nat) (nw : Nat → Int32) (cf : Nat) (n : Nat) (wk : Int32) (tr : Nat → Int32) (di : Nat → Int32) (fo : Nat → Int32) (w : Nat → List Nat) (sdf : Nat → Int32) (wof : Nat → Int32) (shf : Nat → Int32) (twf : Nat → Int32) (kd : Nat → Nat) (ht : Nat → Nat) (dr : Nat → Nat) (x : Int32) (y : Int32) (hV : mV nw cf n wk tr di fo w sdf wof shf twf) (hAir : ckAir tr di cf kd ht dr) : ckI l yX11_as cX11_as 4 (some FieldType.int) { frames := 4, cells := 0, slots := 0, locals := 103 } N [.ref mm, .int x, .int y] [(mm, .inr (11, [.ref an, .ref ak, .int (nI ke), .int (nI kn), .int fd, .ref ab, .ref az, .ref as_, .ref ae, .ref ao, .ref ar, .ref aw, .ref al, .ref am, .int (nI mn), .ref af, .ref ac])), (an, .inl (N.2 0, 572, .inl nw))] (fun (r : Int32) (u : Int32) => ckRd (asF cf kd x y) (x) fd r u) (fun (u : Int32) => [(mm, .inr (11, [.ref an, .ref ak, .int (nI ke), .int (nI kn), .int u, .ref ab, .ref az, .ref as_, .ref ae, .ref ao, .ref ar, .ref aw, .ref al, .ref am, .int (nI mn), .ref af, .ref ac])), (an, .inl (N.2 0, 572, .inl nw))]) := by
  refine ckI.of (by decide) (Nat.le_of_ble_eq_true rfl) ?_
  intro pg eg sg mg blw mth cg Ag ls hx hb hrt hml hown hlk hin hg hE hA hP hD hS hl
  have hown : sg.vm.findClass RX11 = some mg.cls := hown
  have hl : lv_has ls 4 [(0, .ref mm), (1, .int x), (2, .int y)] := hl
  have C0 : ckC pg sg mg ([.ref mm, .int x, .int y]).toArray cg cX11_as 4 RX11 N Ag := ⟨⟨hx, hb, hml, hown, hg⟩, hE, hA⟩
  generalize hHe : sg.heap = H at hP
  have hS : va_S Ag sg.heap H [] := hHe ▸ hS
  have hn8 := hAir.1
  refine lv_aload_n hx hb dX11_as_0 rfl (lv_at hl 0 rfl) ?_
  refine lv_iload_n hx hb dX11_as_1 rfl (lv_at hl 1 rfl) ?_
  refine ck_Vi (As := [.int x]) (rest := []) (wr := []) C0 hP hD hS (c_X11_isFlyer l N mm an ak ab az as_ ae ao ar aw al am af ac ke kn fd mn nw cf n wk tr di fo w sdf wof shf twf x hV (by omega)) myX11_isFlyer k4_92 ⟨Nat.le_of_ble_eq_true rfl, Nat.le_of_ble_eq_true rfl⟩ [0, 1] [] ⟨⟨rfl, rfl⟩, by decide, by decide, by decide⟩ 0 rfl rfl rfl rfl hl.1 rfl (Nat.le_of_ble_eq_true rfl) dX11_as_2 ⟨Nat.le_of_ble_eq_true rfl, Nat.le_of_ble_eq_true rfl⟩ (fun r_1 u0 H locs hw0 hP hD hS => ?_)
  have hw_2 : r_1 = (b2i (ckLt x cf)) := hw0
  subst hw_2
  have hP : va_P N.1 vwCl [(mm, .inr (11, [.ref an, .ref ak, .int (nI ke), .int (nI kn), .int fd, .ref ab, .ref az, .ref as_, .ref ae, .ref ao, .ref ar, .ref aw, .ref al, .ref am, .int (nI mn), .ref af, .ref ac])), (an, .inl (N.2 0, 572, .inl nw))] H := hP
  have hD : va_D Ag [(mm, .inr (11, [.ref an, .ref ak, .int (nI ke), .int (nI kn), .int fd, .ref ab, .ref az, .ref as_, .ref ae, .ref ao, .ref ar, .ref aw, .ref al, .ref am, .int (nI mn), .ref af, .ref ac])), (an, .inl (N.2 0, 572, .inl nw))] := hD
  refine ck_ifeq (b := ckLt x cf) (tgt := 17) hx hb dX11_as_5 (by decide) (fun cz_3 => ?_) (fun cz_3 => ?_)
  · refine lv_aload_n hx hb dX11_as_17 rfl (lv_at hl 0 rfl) ?_
    refine lv_ldc (own := RX11) (v := (-100001)) hx hb hown (hg _ k4_81) dX11_as_18 ?_
    refine ck_Vi (As := [.int (-100001)]) (rest := []) (wr := [(an, .inl (N.2 0, 572, .inl nw))]) C0 hP hD hS (c_X11_finds l N mm an ak ab az as_ ae ao ar aw al am af ac ke kn fd mn (-100001) ) myX11_finds k4_67 ⟨Nat.le_of_ble_eq_true rfl, Nat.le_of_ble_eq_true rfl⟩ [0] [1] ⟨⟨rfl, rfl⟩, by decide, by decide, by decide⟩ 0 rfl rfl rfl rfl hl.1 rfl (Nat.le_of_ble_eq_true rfl) dX11_as_20 ⟨Nat.le_of_ble_eq_true rfl, Nat.le_of_ble_eq_true rfl⟩ (fun r_4 u0 H locs hw0 hP hD hS => ?_)
    have hw_5 : r_4 = (-100001) := hw0
    subst hw_5
    have hP : va_P N.1 vwCl [(an, .inl (N.2 0, 572, .inl nw)), (mm, .inr (11, [.ref an, .ref ak, .int (nI ke), .int (nI kn), .int (fd + nI 1), .ref ab, .ref az, .ref as_, .ref ae, .ref ao, .ref ar, .ref aw, .ref al, .ref am, .int (nI mn), .ref af, .ref ac]))] H := hP
    have hD : va_D Ag [(an, .inl (N.2 0, 572, .inl nw)), (mm, .inr (11, [.ref an, .ref ak, .int (nI ke), .int (nI kn), .int (fd + nI 1), .ref ab, .ref az, .ref as_, .ref ae, .ref ao, .ref ar, .ref aw, .ref al, .ref am, .int (nI mn), .ref af, .ref ac]))] := hD
    exact ck_iret hx hb hrt hlk ((fd + nI 1)) (ckRd_f (by simp [asF, cz_3]) (by decide)) (hP.sub [1, 0] rfl) (hD.sub [1, 0] (by decide) rfl) hS ⟨Nat.le_of_ble_eq_true rfl, Nat.le_of_ble_eq_true rfl⟩ dX11_as_23
  refine lv_iload_n hx hb dX11_as_8 rfl (lv_at hl 2 rfl) ?_
  refine lv_iconst (v := (nI 0)) hx hb dX11_as_9 (by decide) ?_
  refine lv_iconst (v := (nI 3)) hx hb dX11_as_10 (by decide) ?_
  refine ck_Si (As := [.int y, .int (nI 0), .int (nI 3)]) (rest := []) (wr := [(mm, .inr (11, [.ref an, .ref ak, .int (nI ke), .int (nI kn), .int fd, .ref ab, .ref az, .ref as_, .ref ae, .ref ao, .ref ar, .ref aw, .ref al, .ref am, .int (nI mn), .ref af, .ref ac])), (an, .inl (N.2 0, 572, .inl nw))]) C0 hP hD hS (c_X11_in l N y (nI 0) (nI 3) ) myX11_in k4_75 ⟨Nat.le_of_ble_eq_true rfl, Nat.le_of_ble_eq_true rfl⟩ [] [0, 1] ⟨⟨rfl, rfl⟩, by decide, by decide, by decide⟩ rfl hl.1 rfl (Nat.le_of_ble_eq_true rfl) dX11_as_11 ⟨Nat.le_of_ble_eq_true rfl, Nat.le_of_ble_eq_true rfl⟩ (fun r_6 u0 H locs hw0 hP hD hS => ?_)
  have hw_7 : r_6 = (b2i (ckIn y (nI 0) (nI 3))) := hw0
  subst hw_7
  have hP : va_P N.1 vwCl [(mm, .inr (11, [.ref an, .ref ak, .int (nI ke), .int (nI kn), .int fd, .ref ab, .ref az, .ref as_, .ref ae, .ref ao, .ref ar, .ref aw, .ref al, .ref am, .int (nI mn), .ref af, .ref ac])), (an, .inl (N.2 0, 572, .inl nw))] H := hP
  have hD : va_D Ag [(mm, .inr (11, [.ref an, .ref ak, .int (nI ke), .int (nI kn), .int fd, .ref ab, .ref az, .ref as_, .ref ae, .ref ao, .ref ar, .ref aw, .ref al, .ref am, .int (nI mn), .ref af, .ref ac])), (an, .inl (N.2 0, 572, .inl nw))] := hD
  refine ck_ifne (b := ckIn y (nI 0) (nI 3)) (tgt := 24) hx hb dX11_as_14 (by decide) (fun cz_8 => ?_) (fun cz_8 => ?_)
  · have hF1 := cz_3
    have hF2 := cz_8
    obtain ⟨i, hi, rfl⟩ := (ckLt_t (by omega)).mp hF1
    have exi : ix (nI i) = i := ix_nI (by omega)
    obtain ⟨k, -, hk, rfl⟩ := (ckIn_n (by decide) (by decide)).mp hF2
    have exk : ix (nI k) = k := ix_nI (by omega)
    obtain ⟨hki, hk4, -, -⟩ := hAir.2.1 i hi
    refine lv_aload_n hx hb dX11_as_24 rfl (lv_at hl 0 rfl) ?_
    refine lv_iload_n hx hb dX11_as_25 rfl (lv_at hl 1 rfl) ?_
    refine lv_iconst (v := (nI 0)) hx hb dX11_as_26 (by decide) ?_
    refine ck_Vi (As := [.int (nI i), .int (nI 0)]) (rest := []) (wr := []) C0 hP hD hS (c_X11_ofFlyer l N mm an ak ab az as_ ae ao ar aw al am af ac ke kn fd mn nw cf n wk tr di fo w sdf wof shf twf i 0 hV (by omega)) myX11_ofFlyer k4_96 ⟨Nat.le_of_ble_eq_true rfl, Nat.le_of_ble_eq_true rfl⟩ [0, 1] [] ⟨⟨rfl, rfl⟩, by decide, by decide, by decide⟩ 0 rfl rfl rfl rfl hl.1 rfl (Nat.le_of_ble_eq_true rfl) dX11_as_27 ⟨Nat.le_of_ble_eq_true rfl, Nat.le_of_ble_eq_true rfl⟩ (fun r_9 u0 H locs hw0 hP hD hS => ?_)
    have hw_10 : r_9 = (tr (i * 8 + 0)) := hw0
    subst hw_10
    have hP : va_P N.1 vwCl [(mm, .inr (11, [.ref an, .ref ak, .int (nI ke), .int (nI kn), .int fd, .ref ab, .ref az, .ref as_, .ref ae, .ref ao, .ref ar, .ref aw, .ref al, .ref am, .int (nI mn), .ref af, .ref ac])), (an, .inl (N.2 0, 572, .inl nw))] H := hP
    have hD : va_D Ag [(mm, .inr (11, [.ref an, .ref ak, .int (nI ke), .int (nI kn), .int fd, .ref ab, .ref az, .ref as_, .ref ae, .ref ao, .ref ar, .ref aw, .ref al, .ref am, .int (nI mn), .ref af, .ref ac])), (an, .inl (N.2 0, 572, .inl nw))] := hD
    refine ck_top (y := (nI (kd i))) hki ?_
    refine lv_istore_n (lv' := [(3, .int (nI (kd i))), (0, .ref mm), (1, .int (nI i)), (2, .int (nI k))]) hx hb dX11_as_30 rfl hl (by decide) rfl (fun ls hl => ?_)
    refine lv_iload_n hx hb dX11_as_31 rfl (lv_at hl 3 rfl) ?_
    refine ck_if0_eq (tgt := 50) hx hb dX11_as_32 (by decide) (by omega) (fun cz_11 => ?_) (fun cz_11 => ?_)
    · refine lv_iload_n hx hb dX11_as_50 rfl (lv_at hl 2 rfl) ?_
      refine lv_goto (tgt := 60) hx hb dX11_as_51 (by decide) ?_
      exact ck_iret hx hb hrt hlk (fd) (ckRd_ok (by have hu : ckUnder (kd i) k = true := decide_eq_true (by omega); simp [asF, hF1, hF2, exi, exk, hu]) rfl) hP hD hS ⟨Nat.le_of_ble_eq_true rfl, Nat.le_of_ble_eq_true rfl⟩ dX11_as_60
    refine lv_iload_n hx hb dX11_as_35 rfl (lv_at hl 0 rfl) ?_
    refine lv_iload_n hx hb dX11_as_36 rfl (lv_at hl 3 rfl) ?_
    refine ck_ic_eq (tgt := 50) hx hb dX11_as_37 (by decide) (by omega) (by omega) (fun cz_12 => ?_) (fun cz_12 => ?_)
    · refine lv_iload_n hx hb dX11_as_50 rfl (lv_at hl 2 rfl) ?_
      refine lv_goto (tgt := 60) hx hb dX11_as_51 (by decide) ?_
      exact ck_iret hx hb hrt hlk (fd) (ckRd_ok (by have hu : ckUnder (kd i) k = true := decide_eq_true (by omega); simp [asF, hF1, hF2, exi, exk, hu]) rfl) hP hD hS ⟨Nat.le_of_ble_eq_true rfl, Nat.le_of_ble_eq_true rfl⟩ dX11_as_60
    refine lv_iload_n hx hb dX11_as_40 rfl (lv_at hl 3 rfl) ?_
    refine lv_iconst (v := (nI 1)) hx hb dX11_as_41 (by decide) ?_
    refine ck_ic_ne (tgt := 54) hx hb dX11_as_42 (by decide) (by omega) (by omega) (fun cz_13 => ?_) (fun cz_13 => ?_)
    · refine lv_aload_n hx hb dX11_as_54 rfl (lv_at hl 1 rfl) ?_
      refine lv_ldc (own := RX11) (v := (-100004)) hx hb hown (hg _ k4_100) dX11_as_55 ?_
      refine ck_Vi (As := [.int (-100004)]) (rest := []) (wr := [(an, .inl (N.2 0, 572, .inl nw))]) C0 hP hD hS (c_X11_finds l N mm an ak ab az as_ ae ao ar aw al am af ac ke kn fd mn (-100004) ) myX11_finds k4_67 ⟨Nat.le_of_ble_eq_true rfl, Nat.le_of_ble_eq_true rfl⟩ [0] [1] ⟨⟨rfl, rfl⟩, by decide, by decide, by decide⟩ 0 rfl rfl rfl rfl hl.1 rfl (Nat.le_of_ble_eq_true rfl) dX11_as_57 ⟨Nat.le_of_ble_eq_true rfl, Nat.le_of_ble_eq_true rfl⟩ (fun r_14 u0 H locs hw0 hP hD hS => ?_)
      have hw_15 : r_14 = (-100004) := hw0
      subst hw_15
      have hP : va_P N.1 vwCl [(an, .inl (N.2 0, 572, .inl nw)), (mm, .inr (11, [.ref an, .ref ak, .int (nI ke), .int (nI kn), .int (fd + nI 1), .ref ab, .ref az, .ref as_, .ref ae, .ref ao, .ref ar, .ref aw, .ref al, .ref am, .int (nI mn), .ref af, .ref ac]))] H := hP
      have hD : va_D Ag [(an, .inl (N.2 0, 572, .inl nw)), (mm, .inr (11, [.ref an, .ref ak, .int (nI ke), .int (nI kn), .int (fd + nI 1), .ref ab, .ref az, .ref as_, .ref ae, .ref ao, .ref ar, .ref aw, .ref al, .ref am, .int (nI mn), .ref af, .ref ac]))] := hD
      exact ck_iret hx hb hrt hlk ((fd + nI 1)) (ckRd_f (by have hu : ckUnder (kd i) k = false := decide_eq_false (by omega); simp [asF, hF1, hF2, exi, exk, hu]) (by decide)) (hP.sub [1, 0] rfl) (hD.sub [1, 0] (by decide) rfl) hS ⟨Nat.le_of_ble_eq_true rfl, Nat.le_of_ble_eq_true rfl⟩ dX11_as_60
    refine lv_iload_n hx hb dX11_as_45 rfl (lv_at hl 0 rfl) ?_
    refine lv_iconst (v := (nI 3)) hx hb dX11_as_46 (by decide) ?_
    refine ck_ic_ne (tgt := 54) hx hb dX11_as_47 (by decide) (by omega) (by omega) (fun cz_16 => ?_) (fun cz_16 => ?_)
    · refine lv_aload_n hx hb dX11_as_54 rfl (lv_at hl 1 rfl) ?_
      refine lv_ldc (own := RX11) (v := (-100004)) hx hb hown (hg _ k4_100) dX11_as_55 ?_
      refine ck_Vi (As := [.int (-100004)]) (rest := []) (wr := [(an, .inl (N.2 0, 572, .inl nw))]) C0 hP hD hS (c_X11_finds l N mm an ak ab az as_ ae ao ar aw al am af ac ke kn fd mn (-100004) ) myX11_finds k4_67 ⟨Nat.le_of_ble_eq_true rfl, Nat.le_of_ble_eq_true rfl⟩ [0] [1] ⟨⟨rfl, rfl⟩, by decide, by decide, by decide⟩ 0 rfl rfl rfl rfl hl.1 rfl (Nat.le_of_ble_eq_true rfl) dX11_as_57 ⟨Nat.le_of_ble_eq_true rfl, Nat.le_of_ble_eq_true rfl⟩ (fun r_17 u0 H locs hw0 hP hD hS => ?_)
      have hw_18 : r_17 = (-100004) := hw0
      subst hw_18
      have hP : va_P N.1 vwCl [(an, .inl (N.2 0, 572, .inl nw)), (mm, .inr (11, [.ref an, .ref ak, .int (nI ke), .int (nI kn), .int (fd + nI 1), .ref ab, .ref az, .ref as_, .ref ae, .ref ao, .ref ar, .ref aw, .ref al, .ref am, .int (nI mn), .ref af, .ref ac]))] H := hP
      have hD : va_D Ag [(an, .inl (N.2 0, 572, .inl nw)), (mm, .inr (11, [.ref an, .ref ak, .int (nI ke), .int (nI kn), .int (fd + nI 1), .ref ab, .ref az, .ref as_, .ref ae, .ref ao, .ref ar, .ref aw, .ref al, .ref am, .int (nI mn), .ref af, .ref ac]))] := hD
      exact ck_iret hx hb hrt hlk ((fd + nI 1)) (ckRd_f (by have hu : ckUnder (kd i) k = false := decide_eq_false (by omega); simp [asF, hF1, hF2, exi, exk, hu]) (by decide)) (hP.sub [1, 0] rfl) (hD.sub [1, 0] (by decide) rfl) hS ⟨Nat.le_of_ble_eq_true rfl, Nat.le_of_ble_eq_true rfl⟩ dX11_as_60
    refine lv_iload_n hx hb dX11_as_50 rfl (lv_at hl 2 rfl) ?_
    refine lv_goto (tgt := 60) hx hb dX11_as_51 (by decide) ?_
    exact ck_iret hx hb hrt hlk (fd) (ckRd_ok (by have hu : ckUnder (kd i) k = true := decide_eq_true (by omega); simp [asF, hF1, hF2, exi, exk, hu]) rfl) hP hD hS ⟨Nat.le_of_ble_eq_true rfl, Nat.le_of_ble_eq_true rfl⟩ dX11_as_60
  refine lv_aload_n hx hb dX11_as_17 rfl (lv_at hl 0 rfl) ?_
  refine lv_ldc (own := RX11) (v := (-100001)) hx hb hown (hg _ k4_81) dX11_as_18 ?_
  refine ck_Vi (As := [.int (-100001)]) (rest := []) (wr := [(an, .inl (N.2 0, 572, .inl nw))]) C0 hP hD hS (c_X11_finds l N mm an ak ab az as_ ae ao ar aw al am af ac ke kn fd mn (-100001) ) myX11_finds k4_67 ⟨Nat.le_of_ble_eq_true rfl, Nat.le_of_ble_eq_true rfl⟩ [0] [1] ⟨⟨rfl, rfl⟩, by decide, by decide, by decide⟩ 0 rfl rfl rfl rfl hl.1 rfl (Nat.le_of_ble_eq_true rfl) dX11_as_20 ⟨Nat.le_of_ble_eq_true rfl, Nat.le_of_ble_eq_true rfl⟩ (fun r_19 u0 H locs hw0 hP hD hS => ?_)
  have hw_20 : r_19 = (-100001) := hw0
  subst hw_20
  have hP : va_P N.1 vwCl [(an, .inl (N.2 0, 572, .inl nw)), (mm, .inr (11, [.ref an, .ref ak, .int (nI ke), .int (nI kn), .int (fd + nI 1), .ref ab, .ref az, .ref as_, .ref ae, .ref ao, .ref ar, .ref aw, .ref al, .ref am, .int (nI mn), .ref af, .ref ac]))] H := hP
  have hD : va_D Ag [(an, .inl (N.2 0, 572, .inl nw)), (mm, .inr (11, [.ref an, .ref ak, .int (nI ke), .int (nI kn), .int (fd + nI 1), .ref ab, .ref az, .ref as_, .ref ae, .ref ao, .ref ar, .ref aw, .ref al, .ref am, .int (nI mn), .ref af, .ref ac]))] := hD
  exact ck_iret hx hb hrt hlk ((fd + nI 1)) (ckRd_f (by simp [asF, cz_3, cz_8]) (by decide)) (hP.sub [1, 0] rfl) (hD.sub [1, 0] (by decide) rfl) hS ⟨Nat.le_of_ble_eq_true rfl, Nat.le_of_ble_eq_true rfl⟩ dX11_as_23
set_option maxHeartbeats 4000000 in
set_option maxRecDepth 100000 in
/-- X11_of -/
theorem c_X11_of (l : Launch) (N : ckN) (mm : Nat) (an : Nat) (ak : Nat) (ab : Nat) (az : Nat) (as_ : Nat) (ae : Nat) (ao : Nat) (ar : Nat) (aw : Nat) (al : Nat) (am : Nat) (af : Nat) (ac : Nat) (ke : Nat) (kn : Nat) (fd : Int32) (mn : Nat) (nw : Nat → Int32) (cf : Nat) (n : Nat) (wk : Int32) (tr : Nat → Int32) (di : Nat → Int32) (fo : Nat → Int32) (w : Nat → List Nat) (sdf : Nat → Int32) (wof : Nat → Int32) (shf : Nat → Int32) (twf : Nat → Int32) (x : Int32) (y : Int32) (hV : mV nw cf n wk tr di fo w sdf wof shf twf) (hcf : cf ≤ 8) : ckI l yX11_of cX11_of 3 (some FieldType.int) { frames := 4, cells := 0, slots := 0, locals := 103 } N [.ref mm, .int x, .int y] [(mm, .inr (11, [.ref an, .ref ak, .int (nI ke), .int (nI kn), .int fd, .ref ab, .ref az, .ref as_, .ref ae, .ref ao, .ref ar, .ref aw, .ref al, .ref am, .int (nI mn), .ref af, .ref ac])), (an, .inl (N.2 0, 572, .inl nw))] (fun (r : Int32) (u : Int32) => ckRd (ofF cf x y) (tr (ix x * 8 + ix y)) fd r u) (fun (u : Int32) => [(mm, .inr (11, [.ref an, .ref ak, .int (nI ke), .int (nI kn), .int u, .ref ab, .ref az, .ref as_, .ref ae, .ref ao, .ref ar, .ref aw, .ref al, .ref am, .int (nI mn), .ref af, .ref ac])), (an, .inl (N.2 0, 572, .inl nw))]) := by
  refine ckI.of (by decide) (Nat.le_of_ble_eq_true rfl) ?_
  intro pg eg sg mg blw mth cg Ag ls hx hb hrt hml hown hlk hin hg hE hA hP hD hS hl
  have hown : sg.vm.findClass RX11 = some mg.cls := hown
  have hl : lv_has ls 3 [(0, .ref mm), (1, .int x), (2, .int y)] := hl
  have C0 : ckC pg sg mg ([.ref mm, .int x, .int y]).toArray cg cX11_of 3 RX11 N Ag := ⟨⟨hx, hb, hml, hown, hg⟩, hE, hA⟩
  generalize hHe : sg.heap = H at hP
  have hS : va_S Ag sg.heap H [] := hHe ▸ hS
  refine lv_aload_n hx hb dX11_of_0 rfl (lv_at hl 0 rfl) ?_
  refine lv_iload_n hx hb dX11_of_1 rfl (lv_at hl 1 rfl) ?_
  refine ck_Vi (As := [.int x]) (rest := []) (wr := []) C0 hP hD hS (c_X11_isFlyer l N mm an ak ab az as_ ae ao ar aw al am af ac ke kn fd mn nw cf n wk tr di fo w sdf wof shf twf x hV (by omega)) myX11_isFlyer k4_92 ⟨Nat.le_of_ble_eq_true rfl, Nat.le_of_ble_eq_true rfl⟩ [0, 1] [] ⟨⟨rfl, rfl⟩, by decide, by decide, by decide⟩ 0 rfl rfl rfl rfl hl.1 rfl (Nat.le_of_ble_eq_true rfl) dX11_of_2 ⟨Nat.le_of_ble_eq_true rfl, Nat.le_of_ble_eq_true rfl⟩ (fun r_1 u0 H locs hw0 hP hD hS => ?_)
  have hw_2 : r_1 = (b2i (ckLt x cf)) := hw0
  subst hw_2
  have hP : va_P N.1 vwCl [(mm, .inr (11, [.ref an, .ref ak, .int (nI ke), .int (nI kn), .int fd, .ref ab, .ref az, .ref as_, .ref ae, .ref ao, .ref ar, .ref aw, .ref al, .ref am, .int (nI mn), .ref af, .ref ac])), (an, .inl (N.2 0, 572, .inl nw))] H := hP
  have hD : va_D Ag [(mm, .inr (11, [.ref an, .ref ak, .int (nI ke), .int (nI kn), .int fd, .ref ab, .ref az, .ref as_, .ref ae, .ref ao, .ref ar, .ref aw, .ref al, .ref am, .int (nI mn), .ref af, .ref ac])), (an, .inl (N.2 0, 572, .inl nw))] := hD
  refine ck_ifeq (b := ckLt x cf) (tgt := 27) hx hb dX11_of_5 (by decide) (fun cz_3 => ?_) (fun cz_3 => ?_)
  · refine lv_aload_n hx hb dX11_of_27 rfl (lv_at hl 0 rfl) ?_
    refine lv_ldc (own := RX11) (v := (-100001)) hx hb hown (hg _ k4_81) dX11_of_28 ?_
    refine ck_Vi (As := [.int (-100001)]) (rest := []) (wr := [(an, .inl (N.2 0, 572, .inl nw))]) C0 hP hD hS (c_X11_finds l N mm an ak ab az as_ ae ao ar aw al am af ac ke kn fd mn (-100001) ) myX11_finds k4_67 ⟨Nat.le_of_ble_eq_true rfl, Nat.le_of_ble_eq_true rfl⟩ [0] [1] ⟨⟨rfl, rfl⟩, by decide, by decide, by decide⟩ 0 rfl rfl rfl rfl hl.1 rfl (Nat.le_of_ble_eq_true rfl) dX11_of_30 ⟨Nat.le_of_ble_eq_true rfl, Nat.le_of_ble_eq_true rfl⟩ (fun r_4 u0 H locs hw0 hP hD hS => ?_)
    have hw_5 : r_4 = (-100001) := hw0
    subst hw_5
    have hP : va_P N.1 vwCl [(an, .inl (N.2 0, 572, .inl nw)), (mm, .inr (11, [.ref an, .ref ak, .int (nI ke), .int (nI kn), .int (fd + nI 1), .ref ab, .ref az, .ref as_, .ref ae, .ref ao, .ref ar, .ref aw, .ref al, .ref am, .int (nI mn), .ref af, .ref ac]))] H := hP
    have hD : va_D Ag [(an, .inl (N.2 0, 572, .inl nw)), (mm, .inr (11, [.ref an, .ref ak, .int (nI ke), .int (nI kn), .int (fd + nI 1), .ref ab, .ref az, .ref as_, .ref ae, .ref ao, .ref ar, .ref aw, .ref al, .ref am, .int (nI mn), .ref af, .ref ac]))] := hD
    exact ck_iret hx hb hrt hlk ((fd + nI 1)) (ckRd_f (by simp [ofF, cz_3]) (by decide)) (hP.sub [1, 0] rfl) (hD.sub [1, 0] (by decide) rfl) hS ⟨Nat.le_of_ble_eq_true rfl, Nat.le_of_ble_eq_true rfl⟩ dX11_of_33
  refine lv_iload_n hx hb dX11_of_8 rfl (lv_at hl 2 rfl) ?_
  refine lv_iconst (v := (nI 0)) hx hb dX11_of_9 (by decide) ?_
  refine lv_bipush (v := (nI 7)) hx hb dX11_of_10 (by decide) ?_
  refine ck_Si (As := [.int y, .int (nI 0), .int (nI 7)]) (rest := []) (wr := [(mm, .inr (11, [.ref an, .ref ak, .int (nI ke), .int (nI kn), .int fd, .ref ab, .ref az, .ref as_, .ref ae, .ref ao, .ref ar, .ref aw, .ref al, .ref am, .int (nI mn), .ref af, .ref ac])), (an, .inl (N.2 0, 572, .inl nw))]) C0 hP hD hS (c_X11_in l N y (nI 0) (nI 7) ) myX11_in k4_75 ⟨Nat.le_of_ble_eq_true rfl, Nat.le_of_ble_eq_true rfl⟩ [] [0, 1] ⟨⟨rfl, rfl⟩, by decide, by decide, by decide⟩ rfl hl.1 rfl (Nat.le_of_ble_eq_true rfl) dX11_of_12 ⟨Nat.le_of_ble_eq_true rfl, Nat.le_of_ble_eq_true rfl⟩ (fun r_6 u0 H locs hw0 hP hD hS => ?_)
  have hw_7 : r_6 = (b2i (ckIn y (nI 0) (nI 7))) := hw0
  subst hw_7
  have hP : va_P N.1 vwCl [(mm, .inr (11, [.ref an, .ref ak, .int (nI ke), .int (nI kn), .int fd, .ref ab, .ref az, .ref as_, .ref ae, .ref ao, .ref ar, .ref aw, .ref al, .ref am, .int (nI mn), .ref af, .ref ac])), (an, .inl (N.2 0, 572, .inl nw))] H := hP
  have hD : va_D Ag [(mm, .inr (11, [.ref an, .ref ak, .int (nI ke), .int (nI kn), .int fd, .ref ab, .ref az, .ref as_, .ref ae, .ref ao, .ref ar, .ref aw, .ref al, .ref am, .int (nI mn), .ref af, .ref ac])), (an, .inl (N.2 0, 572, .inl nw))] := hD
  refine ck_ifeq (b := ckIn y (nI 0) (nI 7)) (tgt := 27) hx hb dX11_of_15 (by decide) (fun cz_8 => ?_) (fun cz_8 => ?_)
  · refine lv_aload_n hx hb dX11_of_27 rfl (lv_at hl 0 rfl) ?_
    refine lv_ldc (own := RX11) (v := (-100001)) hx hb hown (hg _ k4_81) dX11_of_28 ?_
    refine ck_Vi (As := [.int (-100001)]) (rest := []) (wr := [(an, .inl (N.2 0, 572, .inl nw))]) C0 hP hD hS (c_X11_finds l N mm an ak ab az as_ ae ao ar aw al am af ac ke kn fd mn (-100001) ) myX11_finds k4_67 ⟨Nat.le_of_ble_eq_true rfl, Nat.le_of_ble_eq_true rfl⟩ [0] [1] ⟨⟨rfl, rfl⟩, by decide, by decide, by decide⟩ 0 rfl rfl rfl rfl hl.1 rfl (Nat.le_of_ble_eq_true rfl) dX11_of_30 ⟨Nat.le_of_ble_eq_true rfl, Nat.le_of_ble_eq_true rfl⟩ (fun r_9 u0 H locs hw0 hP hD hS => ?_)
    have hw_10 : r_9 = (-100001) := hw0
    subst hw_10
    have hP : va_P N.1 vwCl [(an, .inl (N.2 0, 572, .inl nw)), (mm, .inr (11, [.ref an, .ref ak, .int (nI ke), .int (nI kn), .int (fd + nI 1), .ref ab, .ref az, .ref as_, .ref ae, .ref ao, .ref ar, .ref aw, .ref al, .ref am, .int (nI mn), .ref af, .ref ac]))] H := hP
    have hD : va_D Ag [(an, .inl (N.2 0, 572, .inl nw)), (mm, .inr (11, [.ref an, .ref ak, .int (nI ke), .int (nI kn), .int (fd + nI 1), .ref ab, .ref az, .ref as_, .ref ae, .ref ao, .ref ar, .ref aw, .ref al, .ref am, .int (nI mn), .ref af, .ref ac]))] := hD
    exact ck_iret hx hb hrt hlk ((fd + nI 1)) (ckRd_f (by simp [ofF, cz_3, cz_8]) (by decide)) (hP.sub [1, 0] rfl) (hD.sub [1, 0] (by decide) rfl) hS ⟨Nat.le_of_ble_eq_true rfl, Nat.le_of_ble_eq_true rfl⟩ dX11_of_33
  obtain ⟨i, hi, rfl⟩ := (ckLt_t (by omega)).mp cz_3
  have exi : ix (nI i) = i := ix_nI (by omega)
  obtain ⟨k, -, hk, rfl⟩ := (ckIn_n (by decide) (by decide)).mp cz_8
  have exk : ix (nI k) = k := ix_nI (by omega)
  refine lv_aload_n hx hb dX11_of_18 rfl (lv_at hl 0 rfl) ?_
  refine lv_iload_n hx hb dX11_of_19 rfl (lv_at hl 1 rfl) ?_
  refine lv_iload_n hx hb dX11_of_20 rfl (lv_at hl 2 rfl) ?_
  refine ck_Vi (As := [.int (nI i), .int (nI k)]) (rest := []) (wr := []) C0 hP hD hS (c_X11_ofFlyer l N mm an ak ab az as_ ae ao ar aw al am af ac ke kn fd mn nw cf n wk tr di fo w sdf wof shf twf i k hV (by omega)) myX11_ofFlyer k4_96 ⟨Nat.le_of_ble_eq_true rfl, Nat.le_of_ble_eq_true rfl⟩ [0, 1] [] ⟨⟨rfl, rfl⟩, by decide, by decide, by decide⟩ 0 rfl rfl rfl rfl hl.1 rfl (Nat.le_of_ble_eq_true rfl) dX11_of_21 ⟨Nat.le_of_ble_eq_true rfl, Nat.le_of_ble_eq_true rfl⟩ (fun r_11 u0 H locs hw0 hP hD hS => ?_)
  have hw_12 : r_11 = (tr (i * 8 + k)) := hw0
  subst hw_12
  have hP : va_P N.1 vwCl [(mm, .inr (11, [.ref an, .ref ak, .int (nI ke), .int (nI kn), .int fd, .ref ab, .ref az, .ref as_, .ref ae, .ref ao, .ref ar, .ref aw, .ref al, .ref am, .int (nI mn), .ref af, .ref ac])), (an, .inl (N.2 0, 572, .inl nw))] H := hP
  have hD : va_D Ag [(mm, .inr (11, [.ref an, .ref ak, .int (nI ke), .int (nI kn), .int fd, .ref ab, .ref az, .ref as_, .ref ae, .ref ao, .ref ar, .ref aw, .ref al, .ref am, .int (nI mn), .ref af, .ref ac])), (an, .inl (N.2 0, 572, .inl nw))] := hD
  refine lv_goto (tgt := 33) hx hb dX11_of_24 (by decide) ?_
  exact ck_iret hx hb hrt hlk (fd) (ckRd_ok (by simp [ofF, cz_3, cz_8, exi, exk]) (by rw [exi, exk])) hP hD hS ⟨Nat.le_of_ble_eq_true rfl, Nat.le_of_ble_eq_true rfl⟩ dX11_of_33
set_option maxHeartbeats 4000000 in
set_option maxRecDepth 100000 in
/-- X11_windAt -/
theorem c_X11_windAt (l : Launch) (N : ckN) (mm : Nat) (an : Nat) (ak : Nat) (ab : Nat) (az : Nat) (as_ : Nat) (ae : Nat) (ao : Nat) (ar : Nat) (aw : Nat) (al : Nat) (am : Nat) (af : Nat) (ac : Nat) (ke : Nat) (kn : Nat) (fd : Int32) (mn : Nat) (nw : Nat → Int32) (cf : Nat) (n : Nat) (wk : Int32) (tr : Nat → Int32) (di : Nat → Int32) (fo : Nat → Int32) (w : Nat → List Nat) (sdf : Nat → Int32) (wof : Nat → Int32) (shf : Nat → Int32) (twf : Nat → Int32) (x : Int32) (y : Int32) (bb : Bool) (hV : mV nw cf n wk tr di fo w sdf wof shf twf) : ckI l yX11_windAt cX11_windAt 4 (some FieldType.int) { frames := 4, cells := 0, slots := 0, locals := 102 } N [.ref mm, .int x, .int y, .int (b2i bb)] [(mm, .inr (11, [.ref an, .ref ak, .int (nI ke), .int (nI kn), .int fd, .ref ab, .ref az, .ref as_, .ref ae, .ref ao, .ref ar, .ref aw, .ref al, .ref am, .int (nI mn), .ref af, .ref ac])), (an, .inl (N.2 0, 572, .inl nw))] (fun (r : Int32) (u : Int32) => ckRd (waF x y) (if bb = true then di (ix x * 20 + ix y) else fo (ix x * 20 + ix y)) fd r u) (fun (u : Int32) => [(mm, .inr (11, [.ref an, .ref ak, .int (nI ke), .int (nI kn), .int u, .ref ab, .ref az, .ref as_, .ref ae, .ref ao, .ref ar, .ref aw, .ref al, .ref am, .int (nI mn), .ref af, .ref ac])), (an, .inl (N.2 0, 572, .inl nw))]) := by
  refine ckI.of (by decide) (Nat.le_of_ble_eq_true rfl) ?_
  intro pg eg sg mg blw mth cg Ag ls hx hb hrt hml hown hlk hin hg hE hA hP hD hS hl
  have hown : sg.vm.findClass RX11 = some mg.cls := hown
  have hl : lv_has ls 4 [(0, .ref mm), (1, .int x), (2, .int y), (3, .int (b2i bb))] := hl
  have C0 : ckC pg sg mg ([.ref mm, .int x, .int y, .int (b2i bb)]).toArray cg cX11_windAt 4 RX11 N Ag := ⟨⟨hx, hb, hml, hown, hg⟩, hE, hA⟩
  generalize hHe : sg.heap = H at hP
  have hS : va_S Ag sg.heap H [] := hHe ▸ hS
  refine lv_iload_n hx hb dX11_windAt_0 rfl (lv_at hl 1 rfl) ?_
  refine ck_Si (As := [.int x]) (rest := []) (wr := [(mm, .inr (11, [.ref an, .ref ak, .int (nI ke), .int (nI kn), .int fd, .ref ab, .ref az, .ref as_, .ref ae, .ref ao, .ref ar, .ref aw, .ref al, .ref am, .int (nI mn), .ref af, .ref ac])), (an, .inl (N.2 0, 572, .inl nw))]) C0 hP hD hS (c_X11_isHeight l N x ) myX11_isHeight k4_78 ⟨Nat.le_of_ble_eq_true rfl, Nat.le_of_ble_eq_true rfl⟩ [] [0, 1] ⟨⟨rfl, rfl⟩, by decide, by decide, by decide⟩ rfl hl.1 rfl (Nat.le_of_ble_eq_true rfl) dX11_windAt_1 ⟨Nat.le_of_ble_eq_true rfl, Nat.le_of_ble_eq_true rfl⟩ (fun r_1 u0 H locs hw0 hP hD hS => ?_)
  have hw_2 : r_1 = (b2i (ckIn x (nI 0) (nI 3))) := hw0
  subst hw_2
  have hP : va_P N.1 vwCl [(mm, .inr (11, [.ref an, .ref ak, .int (nI ke), .int (nI kn), .int fd, .ref ab, .ref az, .ref as_, .ref ae, .ref ao, .ref ar, .ref aw, .ref al, .ref am, .int (nI mn), .ref af, .ref ac])), (an, .inl (N.2 0, 572, .inl nw))] H := hP
  have hD : va_D Ag [(mm, .inr (11, [.ref an, .ref ak, .int (nI ke), .int (nI kn), .int fd, .ref ab, .ref az, .ref as_, .ref ae, .ref ao, .ref ar, .ref aw, .ref al, .ref am, .int (nI mn), .ref af, .ref ac])), (an, .inl (N.2 0, 572, .inl nw))] := hD
  refine ck_ifeq (b := ckIn x (nI 0) (nI 3)) (tgt := 14) hx hb dX11_windAt_4 (by decide) (fun cz_3 => ?_) (fun cz_3 => ?_)
  · refine lv_aload_n hx hb dX11_windAt_14 rfl (lv_at hl 0 rfl) ?_
    refine lv_ldc (own := RX11) (v := (-100001)) hx hb hown (hg _ k4_81) dX11_windAt_15 ?_
    refine ck_Vi (As := [.int (-100001)]) (rest := []) (wr := [(an, .inl (N.2 0, 572, .inl nw))]) C0 hP hD hS (c_X11_finds l N mm an ak ab az as_ ae ao ar aw al am af ac ke kn fd mn (-100001) ) myX11_finds k4_67 ⟨Nat.le_of_ble_eq_true rfl, Nat.le_of_ble_eq_true rfl⟩ [0] [1] ⟨⟨rfl, rfl⟩, by decide, by decide, by decide⟩ 0 rfl rfl rfl rfl hl.1 rfl (Nat.le_of_ble_eq_true rfl) dX11_windAt_17 ⟨Nat.le_of_ble_eq_true rfl, Nat.le_of_ble_eq_true rfl⟩ (fun r_4 u0 H locs hw0 hP hD hS => ?_)
    have hw_5 : r_4 = (-100001) := hw0
    subst hw_5
    have hP : va_P N.1 vwCl [(an, .inl (N.2 0, 572, .inl nw)), (mm, .inr (11, [.ref an, .ref ak, .int (nI ke), .int (nI kn), .int (fd + nI 1), .ref ab, .ref az, .ref as_, .ref ae, .ref ao, .ref ar, .ref aw, .ref al, .ref am, .int (nI mn), .ref af, .ref ac]))] H := hP
    have hD : va_D Ag [(an, .inl (N.2 0, 572, .inl nw)), (mm, .inr (11, [.ref an, .ref ak, .int (nI ke), .int (nI kn), .int (fd + nI 1), .ref ab, .ref az, .ref as_, .ref ae, .ref ao, .ref ar, .ref aw, .ref al, .ref am, .int (nI mn), .ref af, .ref ac]))] := hD
    exact ck_iret hx hb hrt hlk ((fd + nI 1)) (ckRd_f (by simp [waF, cz_3]) (by decide)) (hP.sub [1, 0] rfl) (hD.sub [1, 0] (by decide) rfl) hS ⟨Nat.le_of_ble_eq_true rfl, Nat.le_of_ble_eq_true rfl⟩ dX11_windAt_20
  refine lv_iload_n hx hb dX11_windAt_7 rfl (lv_at hl 2 rfl) ?_
  refine ck_Si (As := [.int y]) (rest := []) (wr := [(mm, .inr (11, [.ref an, .ref ak, .int (nI ke), .int (nI kn), .int fd, .ref ab, .ref az, .ref as_, .ref ae, .ref ao, .ref ar, .ref aw, .ref al, .ref am, .int (nI mn), .ref af, .ref ac])), (an, .inl (N.2 0, 572, .inl nw))]) C0 hP hD hS (c_X11_isMinute l N y ) myX11_isMinute k4_117 ⟨Nat.le_of_ble_eq_true rfl, Nat.le_of_ble_eq_true rfl⟩ [] [0, 1] ⟨⟨rfl, rfl⟩, by decide, by decide, by decide⟩ rfl hl.1 rfl (Nat.le_of_ble_eq_true rfl) dX11_windAt_8 ⟨Nat.le_of_ble_eq_true rfl, Nat.le_of_ble_eq_true rfl⟩ (fun r_6 u0 H locs hw0 hP hD hS => ?_)
  have hw_7 : r_6 = (b2i (ckIn y (nI 0) (nI 19))) := hw0
  subst hw_7
  have hP : va_P N.1 vwCl [(mm, .inr (11, [.ref an, .ref ak, .int (nI ke), .int (nI kn), .int fd, .ref ab, .ref az, .ref as_, .ref ae, .ref ao, .ref ar, .ref aw, .ref al, .ref am, .int (nI mn), .ref af, .ref ac])), (an, .inl (N.2 0, 572, .inl nw))] H := hP
  have hD : va_D Ag [(mm, .inr (11, [.ref an, .ref ak, .int (nI ke), .int (nI kn), .int fd, .ref ab, .ref az, .ref as_, .ref ae, .ref ao, .ref ar, .ref aw, .ref al, .ref am, .int (nI mn), .ref af, .ref ac])), (an, .inl (N.2 0, 572, .inl nw))] := hD
  refine ck_ifne (b := ckIn y (nI 0) (nI 19)) (tgt := 21) hx hb dX11_windAt_11 (by decide) (fun cz_8 => ?_) (fun cz_8 => ?_)
  · obtain ⟨i, -, hi, rfl⟩ := (ckIn_n (by decide) (by decide)).mp cz_3
    have exi : ix (nI i) = i := ix_nI (by omega)
    obtain ⟨k, -, hk, rfl⟩ := (ckIn_n (by decide) (by decide)).mp cz_8
    have exk : ix (nI k) = k := ix_nI (by omega)
    refine lv_aload_n hx hb dX11_windAt_21 rfl (lv_at hl 0 rfl) ?_
    refine va_get (ci := 11) (v := .ref an) (C := RX11) (T := TX11) (N := 17) hx hb hg inX11 hown hE.1 hP 0 rfl rfl 0 (by decide) (hg _ k4_10) (fun _ h9 => h9) rfl dX11_windAt_22 ?_
    refine lv_iload_n hx hb dX11_windAt_25 rfl (lv_at hl 1 rfl) ?_
    refine lv_iload_n hx hb dX11_windAt_26 rfl (lv_at hl 2 rfl) ?_
    refine ck_Si (As := [.int (nI i), .int (nI k)]) (rest := [.ref an]) (wr := [(mm, .inr (11, [.ref an, .ref ak, .int (nI ke), .int (nI kn), .int fd, .ref ab, .ref az, .ref as_, .ref ae, .ref ao, .ref ar, .ref aw, .ref al, .ref am, .int (nI mn), .ref af, .ref ac])), (an, .inl (N.2 0, 572, .inl nw))]) C0 hP hD hS (c_X11_windOf l N i k ) myX11_windOf k4_120 ⟨Nat.le_of_ble_eq_true rfl, Nat.le_of_ble_eq_true rfl⟩ [] [0, 1] ⟨⟨rfl, rfl⟩, by decide, by decide, by decide⟩ rfl hl.1 rfl (Nat.le_of_ble_eq_true rfl) dX11_windAt_27 ⟨Nat.le_of_ble_eq_true rfl, Nat.le_of_ble_eq_true rfl⟩ (fun r_9 u0 H locs hw0 hP hD hS => ?_)
    have hw_10 : r_9 = (nI (67 + 2 * (20 * i + k))) := hw0
    subst hw_10
    have hP : va_P N.1 vwCl [(mm, .inr (11, [.ref an, .ref ak, .int (nI ke), .int (nI kn), .int fd, .ref ab, .ref az, .ref as_, .ref ae, .ref ao, .ref ar, .ref aw, .ref al, .ref am, .int (nI mn), .ref af, .ref ac])), (an, .inl (N.2 0, 572, .inl nw))] H := hP
    have hD : va_D Ag [(mm, .inr (11, [.ref an, .ref ak, .int (nI ke), .int (nI kn), .int fd, .ref ab, .ref az, .ref as_, .ref ae, .ref ao, .ref ar, .ref aw, .ref al, .ref am, .int (nI mn), .ref af, .ref ac])), (an, .inl (N.2 0, 572, .inl nw))] := hD
    refine lv_iload_n hx hb dX11_windAt_30 rfl (lv_at hl 3 rfl) ?_
    refine ck_ifeq (b := bb) (tgt := 38) hx hb dX11_windAt_31 (by decide) (fun cz_11 => ?_) (fun cz_11 => ?_)
    · refine lv_iconst (v := (nI 1)) hx hb dX11_windAt_38 (by decide) ?_
      refine lv_iadd hx hb dX11_windAt_39 ?_
      refine ck_top (y := (nI (67 + 2 * (20 * i + k) + 1))) (nI_add _ _) ?_
      refine ck_iald hx hb hE hP 1 rfl (by omega) (by decide) dX11_windAt_40 ?_
      exact ck_iret hx hb hrt hlk (fd) (ckRd_ok (by simp [waF, cz_3, cz_8, exi, exk, cz_11]) (by rw [exi, exk, if_neg (by rw [cz_11]; decide)]; exact (congrArg nw (by omega)).trans (hV.2.2.2.2.2.1 (i * 20 + k) (by omega)))) hP hD hS ⟨Nat.le_of_ble_eq_true rfl, Nat.le_of_ble_eq_true rfl⟩ dX11_windAt_41
    refine lv_iconst (v := (nI 0)) hx hb dX11_windAt_34 (by decide) ?_
    refine lv_goto (tgt := 39) hx hb dX11_windAt_35 (by decide) ?_
    refine lv_iadd hx hb dX11_windAt_39 ?_
    refine ck_top (y := (nI (67 + 2 * (20 * i + k) + 0))) (nI_add _ _) ?_
    refine ck_iald hx hb hE hP 1 rfl (by omega) (by decide) dX11_windAt_40 ?_
    exact ck_iret hx hb hrt hlk (fd) (ckRd_ok (by simp [waF, cz_3, cz_8, exi, exk, cz_11]) (by rw [exi, exk, if_pos cz_11]; exact (congrArg nw (by omega)).trans (hV.2.2.2.2.1 (i * 20 + k) (by omega)))) hP hD hS ⟨Nat.le_of_ble_eq_true rfl, Nat.le_of_ble_eq_true rfl⟩ dX11_windAt_41
  refine lv_aload_n hx hb dX11_windAt_14 rfl (lv_at hl 0 rfl) ?_
  refine lv_ldc (own := RX11) (v := (-100001)) hx hb hown (hg _ k4_81) dX11_windAt_15 ?_
  refine ck_Vi (As := [.int (-100001)]) (rest := []) (wr := [(an, .inl (N.2 0, 572, .inl nw))]) C0 hP hD hS (c_X11_finds l N mm an ak ab az as_ ae ao ar aw al am af ac ke kn fd mn (-100001) ) myX11_finds k4_67 ⟨Nat.le_of_ble_eq_true rfl, Nat.le_of_ble_eq_true rfl⟩ [0] [1] ⟨⟨rfl, rfl⟩, by decide, by decide, by decide⟩ 0 rfl rfl rfl rfl hl.1 rfl (Nat.le_of_ble_eq_true rfl) dX11_windAt_17 ⟨Nat.le_of_ble_eq_true rfl, Nat.le_of_ble_eq_true rfl⟩ (fun r_12 u0 H locs hw0 hP hD hS => ?_)
  have hw_13 : r_12 = (-100001) := hw0
  subst hw_13
  have hP : va_P N.1 vwCl [(an, .inl (N.2 0, 572, .inl nw)), (mm, .inr (11, [.ref an, .ref ak, .int (nI ke), .int (nI kn), .int (fd + nI 1), .ref ab, .ref az, .ref as_, .ref ae, .ref ao, .ref ar, .ref aw, .ref al, .ref am, .int (nI mn), .ref af, .ref ac]))] H := hP
  have hD : va_D Ag [(an, .inl (N.2 0, 572, .inl nw)), (mm, .inr (11, [.ref an, .ref ak, .int (nI ke), .int (nI kn), .int (fd + nI 1), .ref ab, .ref az, .ref as_, .ref ae, .ref ao, .ref ar, .ref aw, .ref al, .ref am, .int (nI mn), .ref af, .ref ac]))] := hD
  exact ck_iret hx hb hrt hlk ((fd + nI 1)) (ckRd_f (by simp [waF, cz_3, cz_8]) (by decide)) (hP.sub [1, 0] rfl) (hD.sub [1, 0] (by decide) rfl) hS ⟨Nat.le_of_ble_eq_true rfl, Nat.le_of_ble_eq_true rfl⟩ dX11_windAt_20
set_option maxHeartbeats 4000000 in
set_option maxRecDepth 100000 in
/-- X11_flies -/
theorem c_X11_flies (l : Launch) (N : ckN) (mm : Nat) (an : Nat) (ak : Nat) (ab : Nat) (az : Nat) (as_ : Nat) (ae : Nat) (ao : Nat) (ar : Nat) (aw : Nat) (al : Nat) (am : Nat) (af : Nat) (ac : Nat) (ke : Nat) (kn : Nat) (fd : Int32) (mn : Nat) (nw : Nat → Int32) (cf : Nat) (n : Nat) (wk : Int32) (tr : Nat → Int32) (di : Nat → Int32) (fo : Nat → Int32) (w : Nat → List Nat) (sdf : Nat → Int32) (wof : Nat → Int32) (shf : Nat → Int32) (twf : Nat → Int32) (kd : Nat → Nat) (ht : Nat → Nat) (dr : Nat → Nat) (x : Int32) (y : Int32) (hV : mV nw cf n wk tr di fo w sdf wof shf twf) (hAir : ckAir tr di cf kd ht dr) (hFo : ckFo fo) : ckI l yX11_flies cX11_flies 3 (some FieldType.int) { frames := 5, cells := 0, slots := 0, locals := 128 } N [.ref mm, .int x, .int y] [(mm, .inr (11, [.ref an, .ref ak, .int (nI ke), .int (nI kn), .int fd, .ref ab, .ref az, .ref as_, .ref ae, .ref ao, .ref ar, .ref aw, .ref al, .ref am, .int (nI mn), .ref af, .ref ac])), (an, .inl (N.2 0, 572, .inl nw))] (fun (r : Int32) (u : Int32) => ckRd (flF cf x y) (b2i (fFly tr fo kd ht (ix x) (ix y))) fd r u) (fun (u : Int32) => [(mm, .inr (11, [.ref an, .ref ak, .int (nI ke), .int (nI kn), .int u, .ref ab, .ref az, .ref as_, .ref ae, .ref ao, .ref ar, .ref aw, .ref al, .ref am, .int (nI mn), .ref af, .ref ac])), (an, .inl (N.2 0, 572, .inl nw))]) := by
  refine ckI.of (by decide) (Nat.le_of_ble_eq_true rfl) ?_
  intro pg eg sg mg blw mth cg Ag ls hx hb hrt hml hown hlk hin hg hE hA hP hD hS hl
  have hown : sg.vm.findClass RX11 = some mg.cls := hown
  have hl : lv_has ls 3 [(0, .ref mm), (1, .int x), (2, .int y)] := hl
  have C0 : ckC pg sg mg ([.ref mm, .int x, .int y]).toArray cg cX11_flies 3 RX11 N Ag := ⟨⟨hx, hb, hml, hown, hg⟩, hE, hA⟩
  generalize hHe : sg.heap = H at hP
  have hS : va_S Ag sg.heap H [] := hHe ▸ hS
  have hn8 := hAir.1
  refine lv_aload_n hx hb dX11_flies_0 rfl (lv_at hl 0 rfl) ?_
  refine lv_iload_n hx hb dX11_flies_1 rfl (lv_at hl 1 rfl) ?_
  refine ck_Vi (As := [.int x]) (rest := []) (wr := []) C0 hP hD hS (c_X11_isFlyer l N mm an ak ab az as_ ae ao ar aw al am af ac ke kn fd mn nw cf n wk tr di fo w sdf wof shf twf x hV (by omega)) myX11_isFlyer k4_92 ⟨Nat.le_of_ble_eq_true rfl, Nat.le_of_ble_eq_true rfl⟩ [0, 1] [] ⟨⟨rfl, rfl⟩, by decide, by decide, by decide⟩ 0 rfl rfl rfl rfl hl.1 rfl (Nat.le_of_ble_eq_true rfl) dX11_flies_2 ⟨Nat.le_of_ble_eq_true rfl, Nat.le_of_ble_eq_true rfl⟩ (fun r_1 u0 H locs hw0 hP hD hS => ?_)
  have hw_2 : r_1 = (b2i (ckLt x cf)) := hw0
  subst hw_2
  have hP : va_P N.1 vwCl [(mm, .inr (11, [.ref an, .ref ak, .int (nI ke), .int (nI kn), .int fd, .ref ab, .ref az, .ref as_, .ref ae, .ref ao, .ref ar, .ref aw, .ref al, .ref am, .int (nI mn), .ref af, .ref ac])), (an, .inl (N.2 0, 572, .inl nw))] H := hP
  have hD : va_D Ag [(mm, .inr (11, [.ref an, .ref ak, .int (nI ke), .int (nI kn), .int fd, .ref ab, .ref az, .ref as_, .ref ae, .ref ao, .ref ar, .ref aw, .ref al, .ref am, .int (nI mn), .ref af, .ref ac])), (an, .inl (N.2 0, 572, .inl nw))] := hD
  refine ck_ifeq (b := ckLt x cf) (tgt := 15) hx hb dX11_flies_5 (by decide) (fun cz_3 => ?_) (fun cz_3 => ?_)
  · refine lv_aload_n hx hb dX11_flies_15 rfl (lv_at hl 0 rfl) ?_
    refine lv_ldc (own := RX11) (v := (-100001)) hx hb hown (hg _ k4_81) dX11_flies_16 ?_
    refine ck_Vi (As := [.int (-100001)]) (rest := []) (wr := [(an, .inl (N.2 0, 572, .inl nw))]) C0 hP hD hS (c_X11_finds l N mm an ak ab az as_ ae ao ar aw al am af ac ke kn fd mn (-100001) ) myX11_finds k4_67 ⟨Nat.le_of_ble_eq_true rfl, Nat.le_of_ble_eq_true rfl⟩ [0] [1] ⟨⟨rfl, rfl⟩, by decide, by decide, by decide⟩ 0 rfl rfl rfl rfl hl.1 rfl (Nat.le_of_ble_eq_true rfl) dX11_flies_18 ⟨Nat.le_of_ble_eq_true rfl, Nat.le_of_ble_eq_true rfl⟩ (fun r_4 u0 H locs hw0 hP hD hS => ?_)
    have hw_5 : r_4 = (-100001) := hw0
    subst hw_5
    have hP : va_P N.1 vwCl [(an, .inl (N.2 0, 572, .inl nw)), (mm, .inr (11, [.ref an, .ref ak, .int (nI ke), .int (nI kn), .int (fd + nI 1), .ref ab, .ref az, .ref as_, .ref ae, .ref ao, .ref ar, .ref aw, .ref al, .ref am, .int (nI mn), .ref af, .ref ac]))] H := hP
    have hD : va_D Ag [(an, .inl (N.2 0, 572, .inl nw)), (mm, .inr (11, [.ref an, .ref ak, .int (nI ke), .int (nI kn), .int (fd + nI 1), .ref ab, .ref az, .ref as_, .ref ae, .ref ao, .ref ar, .ref aw, .ref al, .ref am, .int (nI mn), .ref af, .ref ac]))] := hD
    exact ck_iret hx hb hrt hlk ((fd + nI 1)) (ckRd_f (by simp [flF, cz_3]) (by decide)) (hP.sub [1, 0] rfl) (hD.sub [1, 0] (by decide) rfl) hS ⟨Nat.le_of_ble_eq_true rfl, Nat.le_of_ble_eq_true rfl⟩ dX11_flies_21
  refine lv_iload_n hx hb dX11_flies_8 rfl (lv_at hl 2 rfl) ?_
  refine ck_Si (As := [.int y]) (rest := []) (wr := [(mm, .inr (11, [.ref an, .ref ak, .int (nI ke), .int (nI kn), .int fd, .ref ab, .ref az, .ref as_, .ref ae, .ref ao, .ref ar, .ref aw, .ref al, .ref am, .int (nI mn), .ref af, .ref ac])), (an, .inl (N.2 0, 572, .inl nw))]) C0 hP hD hS (c_X11_isMinute l N y ) myX11_isMinute k4_117 ⟨Nat.le_of_ble_eq_true rfl, Nat.le_of_ble_eq_true rfl⟩ [] [0, 1] ⟨⟨rfl, rfl⟩, by decide, by decide, by decide⟩ rfl hl.1 rfl (Nat.le_of_ble_eq_true rfl) dX11_flies_9 ⟨Nat.le_of_ble_eq_true rfl, Nat.le_of_ble_eq_true rfl⟩ (fun r_6 u0 H locs hw0 hP hD hS => ?_)
  have hw_7 : r_6 = (b2i (ckIn y (nI 0) (nI 19))) := hw0
  subst hw_7
  have hP : va_P N.1 vwCl [(mm, .inr (11, [.ref an, .ref ak, .int (nI ke), .int (nI kn), .int fd, .ref ab, .ref az, .ref as_, .ref ae, .ref ao, .ref ar, .ref aw, .ref al, .ref am, .int (nI mn), .ref af, .ref ac])), (an, .inl (N.2 0, 572, .inl nw))] H := hP
  have hD : va_D Ag [(mm, .inr (11, [.ref an, .ref ak, .int (nI ke), .int (nI kn), .int fd, .ref ab, .ref az, .ref as_, .ref ae, .ref ao, .ref ar, .ref aw, .ref al, .ref am, .int (nI mn), .ref af, .ref ac])), (an, .inl (N.2 0, 572, .inl nw))] := hD
  refine ck_ifne (b := ckIn y (nI 0) (nI 19)) (tgt := 22) hx hb dX11_flies_12 (by decide) (fun cz_8 => ?_) (fun cz_8 => ?_)
  · obtain ⟨i, hi, rfl⟩ := (ckLt_t (by omega)).mp cz_3
    have exi : ix (nI i) = i := ix_nI (by omega)
    obtain ⟨k, -, hk, rfl⟩ := (ckIn_n (by decide) (by decide)).mp cz_8
    have exk : ix (nI k) = k := ix_nI (by omega)
    refine lv_aload_n hx hb dX11_flies_22 rfl (lv_at hl 0 rfl) ?_
    refine lv_iload_n hx hb dX11_flies_23 rfl (lv_at hl 1 rfl) ?_
    refine lv_iload_n hx hb dX11_flies_24 rfl (lv_at hl 2 rfl) ?_
    refine ck_Vi (As := [.int (nI i), .int (nI k)]) (rest := []) (wr := []) C0 hP hD hS (c_X11_doesFly l N mm an ak ab az as_ ae ao ar aw al am af ac ke kn fd mn nw cf n wk tr di fo w sdf wof shf twf kd ht dr i k hV hAir hFo (by omega) (by omega)) myX11_doesFly k4_131 ⟨Nat.le_of_ble_eq_true rfl, Nat.le_of_ble_eq_true rfl⟩ [0, 1] [] ⟨⟨rfl, rfl⟩, by decide, by decide, by decide⟩ 0 rfl rfl rfl rfl hl.1 rfl (Nat.le_of_ble_eq_true rfl) dX11_flies_25 ⟨Nat.le_of_ble_eq_true rfl, Nat.le_of_ble_eq_true rfl⟩ (fun r_9 u0 H locs hw0 hP hD hS => ?_)
    have hw_10 : r_9 = (b2i (fFly tr fo kd ht i k)) := hw0
    subst hw_10
    have hP : va_P N.1 vwCl [(mm, .inr (11, [.ref an, .ref ak, .int (nI ke), .int (nI kn), .int fd, .ref ab, .ref az, .ref as_, .ref ae, .ref ao, .ref ar, .ref aw, .ref al, .ref am, .int (nI mn), .ref af, .ref ac])), (an, .inl (N.2 0, 572, .inl nw))] H := hP
    have hD : va_D Ag [(mm, .inr (11, [.ref an, .ref ak, .int (nI ke), .int (nI kn), .int fd, .ref ab, .ref az, .ref as_, .ref ae, .ref ao, .ref ar, .ref aw, .ref al, .ref am, .int (nI mn), .ref af, .ref ac])), (an, .inl (N.2 0, 572, .inl nw))] := hD
    refine ck_ifeq (b := fFly tr fo kd ht i k) (tgt := 35) hx hb dX11_flies_28 (by decide) (fun cz_11 => ?_) (fun cz_11 => ?_)
    · refine lv_iconst (v := (nI 0)) hx hb dX11_flies_35 (by decide) ?_
      exact ck_iret hx hb hrt hlk (fd) (ckRd_ok (by simp [flF, cz_3, cz_8, exi, exk, cz_11]) (by rw [exi, exk, cz_11]; rfl)) hP hD hS ⟨Nat.le_of_ble_eq_true rfl, Nat.le_of_ble_eq_true rfl⟩ dX11_flies_36
    refine lv_iconst (v := (nI 1)) hx hb dX11_flies_31 (by decide) ?_
    refine lv_goto (tgt := 36) hx hb dX11_flies_32 (by decide) ?_
    exact ck_iret hx hb hrt hlk (fd) (ckRd_ok (by simp [flF, cz_3, cz_8, exi, exk, cz_11]) (by rw [exi, exk, cz_11]; rfl)) hP hD hS ⟨Nat.le_of_ble_eq_true rfl, Nat.le_of_ble_eq_true rfl⟩ dX11_flies_36
  refine lv_aload_n hx hb dX11_flies_15 rfl (lv_at hl 0 rfl) ?_
  refine lv_ldc (own := RX11) (v := (-100001)) hx hb hown (hg _ k4_81) dX11_flies_16 ?_
  refine ck_Vi (As := [.int (-100001)]) (rest := []) (wr := [(an, .inl (N.2 0, 572, .inl nw))]) C0 hP hD hS (c_X11_finds l N mm an ak ab az as_ ae ao ar aw al am af ac ke kn fd mn (-100001) ) myX11_finds k4_67 ⟨Nat.le_of_ble_eq_true rfl, Nat.le_of_ble_eq_true rfl⟩ [0] [1] ⟨⟨rfl, rfl⟩, by decide, by decide, by decide⟩ 0 rfl rfl rfl rfl hl.1 rfl (Nat.le_of_ble_eq_true rfl) dX11_flies_18 ⟨Nat.le_of_ble_eq_true rfl, Nat.le_of_ble_eq_true rfl⟩ (fun r_12 u0 H locs hw0 hP hD hS => ?_)
  have hw_13 : r_12 = (-100001) := hw0
  subst hw_13
  have hP : va_P N.1 vwCl [(an, .inl (N.2 0, 572, .inl nw)), (mm, .inr (11, [.ref an, .ref ak, .int (nI ke), .int (nI kn), .int (fd + nI 1), .ref ab, .ref az, .ref as_, .ref ae, .ref ao, .ref ar, .ref aw, .ref al, .ref am, .int (nI mn), .ref af, .ref ac]))] H := hP
  have hD : va_D Ag [(an, .inl (N.2 0, 572, .inl nw)), (mm, .inr (11, [.ref an, .ref ak, .int (nI ke), .int (nI kn), .int (fd + nI 1), .ref ab, .ref az, .ref as_, .ref ae, .ref ao, .ref ar, .ref aw, .ref al, .ref am, .int (nI mn), .ref af, .ref ac]))] := hD
  exact ck_iret hx hb hrt hlk ((fd + nI 1)) (ckRd_f (by simp [flF, cz_3, cz_8]) (by decide)) (hP.sub [1, 0] rfl) (hD.sub [1, 0] (by decide) rfl) hS ⟨Nat.le_of_ble_eq_true rfl, Nat.le_of_ble_eq_true rfl⟩ dX11_flies_21
set_option maxHeartbeats 4000000 in
set_option maxRecDepth 100000 in
/-- X11_kite -/
theorem c_X11_kite (l : Launch) (N : ckN) (mm : Nat) (an : Nat) (ak : Nat) (ab : Nat) (az : Nat) (as_ : Nat) (ae : Nat) (ao : Nat) (ar : Nat) (aw : Nat) (al : Nat) (am : Nat) (af : Nat) (ac : Nat) (ke : Nat) (kn : Nat) (fd : Int32) (mn : Nat) (nw : Nat → Int32) (ea : Nat → Int32) (no : Nat → Int32) (cf : Nat) (n : Nat) (wk : Int32) (tr : Nat → Int32) (di : Nat → Int32) (fo : Nat → Int32) (w : Nat → List Nat) (sdf : Nat → Int32) (wof : Nat → Int32) (shf : Nat → Int32) (twf : Nat → Int32) (kd : Nat → Nat) (ht : Nat → Nat) (dr : Nat → Nat) (x : Int32) (y : Int32) (bb : Bool) (hV : mV nw cf n wk tr di fo w sdf wof shf twf) (hAir : ckAir tr di cf kd ht dr) (hFo : ckFo fo) (hea : ∀ j, j < 8 → ea j = ckSX j) (hno : ∀ j, j < 8 → no j = ckSY j) : ckI l yX11_kite cX11_kite 4 (some FieldType.int) { frames := 5, cells := 0, slots := 0, locals := 128 } N [.ref mm, .int x, .int y, .int (b2i bb)] [(mm, .inr (11, [.ref an, .ref ak, .int (nI ke), .int (nI kn), .int fd, .ref ab, .ref az, .ref as_, .ref ae, .ref ao, .ref ar, .ref aw, .ref al, .ref am, .int (nI mn), .ref af, .ref ac])), (an, .inl (N.2 0, 572, .inl nw)), (ae, .inl (N.2 0, 8, .inl ea)), (ao, .inl (N.2 0, 8, .inl no))] (fun (r : Int32) (u : Int32) => ckRd (kiF cf (fun i m => fFly tr fo kd ht i m) x y) (if bb = true then fY tr ht dr (ix x) (ix y) else fX tr ht dr (ix x) (ix y)) fd r u) (fun (u : Int32) => [(mm, .inr (11, [.ref an, .ref ak, .int (nI ke), .int (nI kn), .int u, .ref ab, .ref az, .ref as_, .ref ae, .ref ao, .ref ar, .ref aw, .ref al, .ref am, .int (nI mn), .ref af, .ref ac])), (an, .inl (N.2 0, 572, .inl nw)), (ae, .inl (N.2 0, 8, .inl ea)), (ao, .inl (N.2 0, 8, .inl no))]) := by
  refine ckI.of (by decide) (Nat.le_of_ble_eq_true rfl) ?_
  intro pg eg sg mg blw mth cg Ag ls hx hb hrt hml hown hlk hin hg hE hA hP hD hS hl
  have hown : sg.vm.findClass RX11 = some mg.cls := hown
  have hl : lv_has ls 4 [(0, .ref mm), (1, .int x), (2, .int y), (3, .int (b2i bb))] := hl
  have C0 : ckC pg sg mg ([.ref mm, .int x, .int y, .int (b2i bb)]).toArray cg cX11_kite 4 RX11 N Ag := ⟨⟨hx, hb, hml, hown, hg⟩, hE, hA⟩
  generalize hHe : sg.heap = H at hP
  have hS : va_S Ag sg.heap H [] := hHe ▸ hS
  have hn8 := hAir.1
  refine lv_aload_n hx hb dX11_kite_0 rfl (lv_at hl 0 rfl) ?_
  refine lv_iload_n hx hb dX11_kite_1 rfl (lv_at hl 1 rfl) ?_
  refine ck_Vi (As := [.int x]) (rest := []) (wr := [(ae, .inl (N.2 0, 8, .inl ea)), (ao, .inl (N.2 0, 8, .inl no))]) C0 hP hD hS (c_X11_isFlyer l N mm an ak ab az as_ ae ao ar aw al am af ac ke kn fd mn nw cf n wk tr di fo w sdf wof shf twf x hV (by omega)) myX11_isFlyer k4_92 ⟨Nat.le_of_ble_eq_true rfl, Nat.le_of_ble_eq_true rfl⟩ [0, 1] [2, 3] ⟨⟨rfl, rfl⟩, by decide, by decide, by decide⟩ 0 rfl rfl rfl rfl hl.1 rfl (Nat.le_of_ble_eq_true rfl) dX11_kite_2 ⟨Nat.le_of_ble_eq_true rfl, Nat.le_of_ble_eq_true rfl⟩ (fun r_1 u0 H locs hw0 hP hD hS => ?_)
  have hw_2 : r_1 = (b2i (ckLt x cf)) := hw0
  subst hw_2
  have hP : va_P N.1 vwCl [(ae, .inl (N.2 0, 8, .inl ea)), (ao, .inl (N.2 0, 8, .inl no)), (mm, .inr (11, [.ref an, .ref ak, .int (nI ke), .int (nI kn), .int fd, .ref ab, .ref az, .ref as_, .ref ae, .ref ao, .ref ar, .ref aw, .ref al, .ref am, .int (nI mn), .ref af, .ref ac])), (an, .inl (N.2 0, 572, .inl nw))] H := hP
  have hD : va_D Ag [(ae, .inl (N.2 0, 8, .inl ea)), (ao, .inl (N.2 0, 8, .inl no)), (mm, .inr (11, [.ref an, .ref ak, .int (nI ke), .int (nI kn), .int fd, .ref ab, .ref az, .ref as_, .ref ae, .ref ao, .ref ar, .ref aw, .ref al, .ref am, .int (nI mn), .ref af, .ref ac])), (an, .inl (N.2 0, 572, .inl nw))] := hD
  refine ck_ifeq (b := ckLt x cf) (tgt := 15) hx hb dX11_kite_5 (by decide) (fun cz_3 => ?_) (fun cz_3 => ?_)
  · refine lv_aload_n hx hb dX11_kite_15 rfl (lv_at hl 0 rfl) ?_
    refine lv_ldc (own := RX11) (v := (-100001)) hx hb hown (hg _ k4_81) dX11_kite_16 ?_
    refine ck_Vi (As := [.int (-100001)]) (rest := []) (wr := [(ae, .inl (N.2 0, 8, .inl ea)), (ao, .inl (N.2 0, 8, .inl no)), (an, .inl (N.2 0, 572, .inl nw))]) C0 hP hD hS (c_X11_finds l N mm an ak ab az as_ ae ao ar aw al am af ac ke kn fd mn (-100001) ) myX11_finds k4_67 ⟨Nat.le_of_ble_eq_true rfl, Nat.le_of_ble_eq_true rfl⟩ [2] [0, 1, 3] ⟨⟨rfl, rfl⟩, by decide, by decide, by decide⟩ 2 rfl rfl rfl rfl hl.1 rfl (Nat.le_of_ble_eq_true rfl) dX11_kite_18 ⟨Nat.le_of_ble_eq_true rfl, Nat.le_of_ble_eq_true rfl⟩ (fun r_4 u0 H locs hw0 hP hD hS => ?_)
    have hw_5 : r_4 = (-100001) := hw0
    subst hw_5
    have hP : va_P N.1 vwCl [(ae, .inl (N.2 0, 8, .inl ea)), (ao, .inl (N.2 0, 8, .inl no)), (an, .inl (N.2 0, 572, .inl nw)), (mm, .inr (11, [.ref an, .ref ak, .int (nI ke), .int (nI kn), .int (fd + nI 1), .ref ab, .ref az, .ref as_, .ref ae, .ref ao, .ref ar, .ref aw, .ref al, .ref am, .int (nI mn), .ref af, .ref ac]))] H := hP
    have hD : va_D Ag [(ae, .inl (N.2 0, 8, .inl ea)), (ao, .inl (N.2 0, 8, .inl no)), (an, .inl (N.2 0, 572, .inl nw)), (mm, .inr (11, [.ref an, .ref ak, .int (nI ke), .int (nI kn), .int (fd + nI 1), .ref ab, .ref az, .ref as_, .ref ae, .ref ao, .ref ar, .ref aw, .ref al, .ref am, .int (nI mn), .ref af, .ref ac]))] := hD
    exact ck_iret hx hb hrt hlk ((fd + nI 1)) (ckRd_f (by simp [kiF, cz_3]) (by decide)) (hP.sub [3, 2, 0, 1] rfl) (hD.sub [3, 2, 0, 1] (by decide) rfl) hS ⟨Nat.le_of_ble_eq_true rfl, Nat.le_of_ble_eq_true rfl⟩ dX11_kite_21
  refine lv_iload_n hx hb dX11_kite_8 rfl (lv_at hl 2 rfl) ?_
  refine ck_Si (As := [.int y]) (rest := []) (wr := [(ae, .inl (N.2 0, 8, .inl ea)), (ao, .inl (N.2 0, 8, .inl no)), (mm, .inr (11, [.ref an, .ref ak, .int (nI ke), .int (nI kn), .int fd, .ref ab, .ref az, .ref as_, .ref ae, .ref ao, .ref ar, .ref aw, .ref al, .ref am, .int (nI mn), .ref af, .ref ac])), (an, .inl (N.2 0, 572, .inl nw))]) C0 hP hD hS (c_X11_isMinute l N y ) myX11_isMinute k4_117 ⟨Nat.le_of_ble_eq_true rfl, Nat.le_of_ble_eq_true rfl⟩ [] [0, 1, 2, 3] ⟨⟨rfl, rfl⟩, by decide, by decide, by decide⟩ rfl hl.1 rfl (Nat.le_of_ble_eq_true rfl) dX11_kite_9 ⟨Nat.le_of_ble_eq_true rfl, Nat.le_of_ble_eq_true rfl⟩ (fun r_6 u0 H locs hw0 hP hD hS => ?_)
  have hw_7 : r_6 = (b2i (ckIn y (nI 0) (nI 19))) := hw0
  subst hw_7
  have hP : va_P N.1 vwCl [(ae, .inl (N.2 0, 8, .inl ea)), (ao, .inl (N.2 0, 8, .inl no)), (mm, .inr (11, [.ref an, .ref ak, .int (nI ke), .int (nI kn), .int fd, .ref ab, .ref az, .ref as_, .ref ae, .ref ao, .ref ar, .ref aw, .ref al, .ref am, .int (nI mn), .ref af, .ref ac])), (an, .inl (N.2 0, 572, .inl nw))] H := hP
  have hD : va_D Ag [(ae, .inl (N.2 0, 8, .inl ea)), (ao, .inl (N.2 0, 8, .inl no)), (mm, .inr (11, [.ref an, .ref ak, .int (nI ke), .int (nI kn), .int fd, .ref ab, .ref az, .ref as_, .ref ae, .ref ao, .ref ar, .ref aw, .ref al, .ref am, .int (nI mn), .ref af, .ref ac])), (an, .inl (N.2 0, 572, .inl nw))] := hD
  refine ck_ifne (b := ckIn y (nI 0) (nI 19)) (tgt := 22) hx hb dX11_kite_12 (by decide) (fun cz_8 => ?_) (fun cz_8 => ?_)
  · obtain ⟨i, hi, rfl⟩ := (ckLt_t (by omega)).mp cz_3
    have exi : ix (nI i) = i := ix_nI (by omega)
    obtain ⟨k, -, hk, rfl⟩ := (ckIn_n (by decide) (by decide)).mp cz_8
    have exk : ix (nI k) = k := ix_nI (by omega)
    refine lv_aload_n hx hb dX11_kite_22 rfl (lv_at hl 0 rfl) ?_
    refine lv_iload_n hx hb dX11_kite_23 rfl (lv_at hl 1 rfl) ?_
    refine lv_iload_n hx hb dX11_kite_24 rfl (lv_at hl 2 rfl) ?_
    refine ck_Vi (As := [.int (nI i), .int (nI k)]) (rest := []) (wr := [(ae, .inl (N.2 0, 8, .inl ea)), (ao, .inl (N.2 0, 8, .inl no))]) C0 hP hD hS (c_X11_doesFly l N mm an ak ab az as_ ae ao ar aw al am af ac ke kn fd mn nw cf n wk tr di fo w sdf wof shf twf kd ht dr i k hV hAir hFo (by omega) (by omega)) myX11_doesFly k4_131 ⟨Nat.le_of_ble_eq_true rfl, Nat.le_of_ble_eq_true rfl⟩ [2, 3] [0, 1] ⟨⟨rfl, rfl⟩, by decide, by decide, by decide⟩ 2 rfl rfl rfl rfl hl.1 rfl (Nat.le_of_ble_eq_true rfl) dX11_kite_25 ⟨Nat.le_of_ble_eq_true rfl, Nat.le_of_ble_eq_true rfl⟩ (fun r_9 u0 H locs hw0 hP hD hS => ?_)
    have hw_10 : r_9 = (b2i (fFly tr fo kd ht i k)) := hw0
    subst hw_10
    have hP : va_P N.1 vwCl [(ae, .inl (N.2 0, 8, .inl ea)), (ao, .inl (N.2 0, 8, .inl no)), (mm, .inr (11, [.ref an, .ref ak, .int (nI ke), .int (nI kn), .int fd, .ref ab, .ref az, .ref as_, .ref ae, .ref ao, .ref ar, .ref aw, .ref al, .ref am, .int (nI mn), .ref af, .ref ac])), (an, .inl (N.2 0, 572, .inl nw))] H := hP
    have hD : va_D Ag [(ae, .inl (N.2 0, 8, .inl ea)), (ao, .inl (N.2 0, 8, .inl no)), (mm, .inr (11, [.ref an, .ref ak, .int (nI ke), .int (nI kn), .int fd, .ref ab, .ref az, .ref as_, .ref ae, .ref ao, .ref ar, .ref aw, .ref al, .ref am, .int (nI mn), .ref af, .ref ac])), (an, .inl (N.2 0, 572, .inl nw))] := hD
    refine ck_ifeq (b := fFly tr fo kd ht i k) (tgt := 41) hx hb dX11_kite_28 (by decide) (fun cz_11 => ?_) (fun cz_11 => ?_)
    · refine lv_aload_n hx hb dX11_kite_41 rfl (lv_at hl 0 rfl) ?_
      refine lv_ldc (own := RX11) (v := (-100006)) hx hb hown (hg _ k4_66) dX11_kite_42 ?_
      refine ck_Vi (As := [.int (-100006)]) (rest := []) (wr := [(ae, .inl (N.2 0, 8, .inl ea)), (ao, .inl (N.2 0, 8, .inl no)), (an, .inl (N.2 0, 572, .inl nw))]) C0 hP hD hS (c_X11_finds l N mm an ak ab az as_ ae ao ar aw al am af ac ke kn fd mn (-100006) ) myX11_finds k4_67 ⟨Nat.le_of_ble_eq_true rfl, Nat.le_of_ble_eq_true rfl⟩ [2] [0, 1, 3] ⟨⟨rfl, rfl⟩, by decide, by decide, by decide⟩ 2 rfl rfl rfl rfl hl.1 rfl (Nat.le_of_ble_eq_true rfl) dX11_kite_44 ⟨Nat.le_of_ble_eq_true rfl, Nat.le_of_ble_eq_true rfl⟩ (fun r_12 u0 H locs hw0 hP hD hS => ?_)
      have hw_13 : r_12 = (-100006) := hw0
      subst hw_13
      have hP : va_P N.1 vwCl [(ae, .inl (N.2 0, 8, .inl ea)), (ao, .inl (N.2 0, 8, .inl no)), (an, .inl (N.2 0, 572, .inl nw)), (mm, .inr (11, [.ref an, .ref ak, .int (nI ke), .int (nI kn), .int (fd + nI 1), .ref ab, .ref az, .ref as_, .ref ae, .ref ao, .ref ar, .ref aw, .ref al, .ref am, .int (nI mn), .ref af, .ref ac]))] H := hP
      have hD : va_D Ag [(ae, .inl (N.2 0, 8, .inl ea)), (ao, .inl (N.2 0, 8, .inl no)), (an, .inl (N.2 0, 572, .inl nw)), (mm, .inr (11, [.ref an, .ref ak, .int (nI ke), .int (nI kn), .int (fd + nI 1), .ref ab, .ref az, .ref as_, .ref ae, .ref ao, .ref ar, .ref aw, .ref al, .ref am, .int (nI mn), .ref af, .ref ac]))] := hD
      exact ck_iret hx hb hrt hlk ((fd + nI 1)) (ckRd_f (by simp [kiF, cz_3, cz_8, exi, exk, cz_11]) (by decide)) (hP.sub [3, 2, 0, 1] rfl) (hD.sub [3, 2, 0, 1] (by decide) rfl) hS ⟨Nat.le_of_ble_eq_true rfl, Nat.le_of_ble_eq_true rfl⟩ dX11_kite_47
    refine lv_aload_n hx hb dX11_kite_31 rfl (lv_at hl 0 rfl) ?_
    refine lv_iload_n hx hb dX11_kite_32 rfl (lv_at hl 1 rfl) ?_
    refine lv_iload_n hx hb dX11_kite_33 rfl (lv_at hl 2 rfl) ?_
    refine lv_iload_n hx hb dX11_kite_34 rfl (lv_at hl 3 rfl) ?_
    refine ck_Vi (As := [.int (nI i), .int (nI k), .int (b2i bb)]) (rest := []) (wr := []) C0 hP hD hS (c_X11_whereIs l N mm an ak ab az as_ ae ao ar aw al am af ac ke kn fd mn nw ea no cf n wk tr di fo w sdf wof shf twf kd ht dr i k bb hV hAir hea hno (by omega) (by omega)) myX11_whereIs k4_143 ⟨Nat.le_of_ble_eq_true rfl, Nat.le_of_ble_eq_true rfl⟩ [2, 3, 0, 1] [] ⟨⟨rfl, rfl⟩, by decide, by decide, by decide⟩ 2 rfl rfl rfl rfl hl.1 rfl (Nat.le_of_ble_eq_true rfl) dX11_kite_35 ⟨Nat.le_of_ble_eq_true rfl, Nat.le_of_ble_eq_true rfl⟩ (fun r_14 u0 H locs hw0 hP hD hS => ?_)
    have hw_15 : r_14 = (if bb = true then fY tr ht dr i k else fX tr ht dr i k) := hw0
    subst hw_15
    have hP : va_P N.1 vwCl [(mm, .inr (11, [.ref an, .ref ak, .int (nI ke), .int (nI kn), .int fd, .ref ab, .ref az, .ref as_, .ref ae, .ref ao, .ref ar, .ref aw, .ref al, .ref am, .int (nI mn), .ref af, .ref ac])), (an, .inl (N.2 0, 572, .inl nw)), (ae, .inl (N.2 0, 8, .inl ea)), (ao, .inl (N.2 0, 8, .inl no))] H := hP
    have hD : va_D Ag [(mm, .inr (11, [.ref an, .ref ak, .int (nI ke), .int (nI kn), .int fd, .ref ab, .ref az, .ref as_, .ref ae, .ref ao, .ref ar, .ref aw, .ref al, .ref am, .int (nI mn), .ref af, .ref ac])), (an, .inl (N.2 0, 572, .inl nw)), (ae, .inl (N.2 0, 8, .inl ea)), (ao, .inl (N.2 0, 8, .inl no))] := hD
    refine lv_goto (tgt := 47) hx hb dX11_kite_38 (by decide) ?_
    exact ck_iret hx hb hrt hlk (fd) (ckRd_ok (by simp [kiF, cz_3, cz_8, exi, exk, cz_11]) (by rw [exi, exk])) hP hD hS ⟨Nat.le_of_ble_eq_true rfl, Nat.le_of_ble_eq_true rfl⟩ dX11_kite_47
  refine lv_aload_n hx hb dX11_kite_15 rfl (lv_at hl 0 rfl) ?_
  refine lv_ldc (own := RX11) (v := (-100001)) hx hb hown (hg _ k4_81) dX11_kite_16 ?_
  refine ck_Vi (As := [.int (-100001)]) (rest := []) (wr := [(ae, .inl (N.2 0, 8, .inl ea)), (ao, .inl (N.2 0, 8, .inl no)), (an, .inl (N.2 0, 572, .inl nw))]) C0 hP hD hS (c_X11_finds l N mm an ak ab az as_ ae ao ar aw al am af ac ke kn fd mn (-100001) ) myX11_finds k4_67 ⟨Nat.le_of_ble_eq_true rfl, Nat.le_of_ble_eq_true rfl⟩ [2] [0, 1, 3] ⟨⟨rfl, rfl⟩, by decide, by decide, by decide⟩ 2 rfl rfl rfl rfl hl.1 rfl (Nat.le_of_ble_eq_true rfl) dX11_kite_18 ⟨Nat.le_of_ble_eq_true rfl, Nat.le_of_ble_eq_true rfl⟩ (fun r_16 u0 H locs hw0 hP hD hS => ?_)
  have hw_17 : r_16 = (-100001) := hw0
  subst hw_17
  have hP : va_P N.1 vwCl [(ae, .inl (N.2 0, 8, .inl ea)), (ao, .inl (N.2 0, 8, .inl no)), (an, .inl (N.2 0, 572, .inl nw)), (mm, .inr (11, [.ref an, .ref ak, .int (nI ke), .int (nI kn), .int (fd + nI 1), .ref ab, .ref az, .ref as_, .ref ae, .ref ao, .ref ar, .ref aw, .ref al, .ref am, .int (nI mn), .ref af, .ref ac]))] H := hP
  have hD : va_D Ag [(ae, .inl (N.2 0, 8, .inl ea)), (ao, .inl (N.2 0, 8, .inl no)), (an, .inl (N.2 0, 572, .inl nw)), (mm, .inr (11, [.ref an, .ref ak, .int (nI ke), .int (nI kn), .int (fd + nI 1), .ref ab, .ref az, .ref as_, .ref ae, .ref ao, .ref ar, .ref aw, .ref al, .ref am, .int (nI mn), .ref af, .ref ac]))] := hD
  exact ck_iret hx hb hrt hlk ((fd + nI 1)) (ckRd_f (by simp [kiF, cz_3, cz_8]) (by decide)) (hP.sub [3, 2, 0, 1] rfl) (hD.sub [3, 2, 0, 1] (by decide) rfl) hS ⟨Nat.le_of_ble_eq_true rfl, Nat.le_of_ble_eq_true rfl⟩ dX11_kite_21
set_option maxHeartbeats 4000000 in
set_option maxRecDepth 100000 in
/-- X11_meet -/
theorem c_X11_meet (l : Launch) (N : ckN) (mm : Nat) (an : Nat) (ak : Nat) (ab : Nat) (az : Nat) (as_ : Nat) (ae : Nat) (ao : Nat) (ar : Nat) (aw : Nat) (al : Nat) (am : Nat) (af : Nat) (ac : Nat) (ke : Nat) (kn : Nat) (fd : Int32) (mn : Nat) (nw : Nat → Int32) (ea : Nat → Int32) (no : Nat → Int32) (cf : Nat) (n : Nat) (wk : Int32) (tr : Nat → Int32) (di : Nat → Int32) (fo : Nat → Int32) (w : Nat → List Nat) (sdf : Nat → Int32) (wof : Nat → Int32) (shf : Nat → Int32) (twf : Nat → Int32) (kd : Nat → Nat) (ht : Nat → Nat) (dr : Nat → Nat) (x : Int32) (y : Int32) (z : Int32) (hV : mV nw cf n wk tr di fo w sdf wof shf twf) (hAir : ckAir tr di cf kd ht dr) (hTr : ckTr tr cf) (hFo : ckFo fo) (hea : ∀ j, j < 8 → ea j = ckSX j) (hno : ∀ j, j < 8 → no j = ckSY j) : ckI l yX11_meet cX11_meet 5 (some FieldType.int) { frames := 6, cells := 0, slots := 0, locals := 152 } N [.ref mm, .int x, .int y, .int z] [(mm, .inr (11, [.ref an, .ref ak, .int (nI ke), .int (nI kn), .int fd, .ref ab, .ref az, .ref as_, .ref ae, .ref ao, .ref ar, .ref aw, .ref al, .ref am, .int (nI mn), .ref af, .ref ac])), (an, .inl (N.2 0, 572, .inl nw)), (ae, .inl (N.2 0, 8, .inl ea)), (ao, .inl (N.2 0, 8, .inl no))] (fun (r : Int32) (u : Int32) => ckRd (meF cf (fun i j m => fNear tr fo kd ht dr i j m) x y z) (meR (fun i j m => fNear tr fo kd ht dr i j m) x y z) fd r u) (fun (u : Int32) => [(mm, .inr (11, [.ref an, .ref ak, .int (nI ke), .int (nI kn), .int u, .ref ab, .ref az, .ref as_, .ref ae, .ref ao, .ref ar, .ref aw, .ref al, .ref am, .int (nI mn), .ref af, .ref ac])), (an, .inl (N.2 0, 572, .inl nw)), (ae, .inl (N.2 0, 8, .inl ea)), (ao, .inl (N.2 0, 8, .inl no))]) := by
  refine ckI.of (by decide) (Nat.le_of_ble_eq_true rfl) ?_
  intro pg eg sg mg blw mth cg Ag ls hx hb hrt hml hown hlk hin hg hE hA hP hD hS hl
  have hown : sg.vm.findClass RX11 = some mg.cls := hown
  have hl : lv_has ls 5 [(0, .ref mm), (1, .int x), (2, .int y), (3, .int z)] := hl
  have C0 : ckC pg sg mg ([.ref mm, .int x, .int y, .int z]).toArray cg cX11_meet 5 RX11 N Ag := ⟨⟨hx, hb, hml, hown, hg⟩, hE, hA⟩
  generalize hHe : sg.heap = H at hP
  have hS : va_S Ag sg.heap H [] := hHe ▸ hS
  have hn8 := hAir.1
  refine lv_aload_n hx hb dX11_meet_0 rfl (lv_at hl 0 rfl) ?_
  refine lv_iload_n hx hb dX11_meet_1 rfl (lv_at hl 1 rfl) ?_
  refine ck_Vi (As := [.int x]) (rest := []) (wr := [(ae, .inl (N.2 0, 8, .inl ea)), (ao, .inl (N.2 0, 8, .inl no))]) C0 hP hD hS (c_X11_isFlyer l N mm an ak ab az as_ ae ao ar aw al am af ac ke kn fd mn nw cf n wk tr di fo w sdf wof shf twf x hV (by omega)) myX11_isFlyer k4_92 ⟨Nat.le_of_ble_eq_true rfl, Nat.le_of_ble_eq_true rfl⟩ [0, 1] [2, 3] ⟨⟨rfl, rfl⟩, by decide, by decide, by decide⟩ 0 rfl rfl rfl rfl hl.1 rfl (Nat.le_of_ble_eq_true rfl) dX11_meet_2 ⟨Nat.le_of_ble_eq_true rfl, Nat.le_of_ble_eq_true rfl⟩ (fun r_1 u0 H locs hw0 hP hD hS => ?_)
  have hw_2 : r_1 = (b2i (ckLt x cf)) := hw0
  subst hw_2
  have hP : va_P N.1 vwCl [(ae, .inl (N.2 0, 8, .inl ea)), (ao, .inl (N.2 0, 8, .inl no)), (mm, .inr (11, [.ref an, .ref ak, .int (nI ke), .int (nI kn), .int fd, .ref ab, .ref az, .ref as_, .ref ae, .ref ao, .ref ar, .ref aw, .ref al, .ref am, .int (nI mn), .ref af, .ref ac])), (an, .inl (N.2 0, 572, .inl nw))] H := hP
  have hD : va_D Ag [(ae, .inl (N.2 0, 8, .inl ea)), (ao, .inl (N.2 0, 8, .inl no)), (mm, .inr (11, [.ref an, .ref ak, .int (nI ke), .int (nI kn), .int fd, .ref ab, .ref az, .ref as_, .ref ae, .ref ao, .ref ar, .ref aw, .ref al, .ref am, .int (nI mn), .ref af, .ref ac])), (an, .inl (N.2 0, 572, .inl nw))] := hD
  refine ck_ifeq (b := ckLt x cf) (tgt := 23) hx hb dX11_meet_5 (by decide) (fun cz_3 => ?_) (fun cz_3 => ?_)
  · refine lv_aload_n hx hb dX11_meet_23 rfl (lv_at hl 0 rfl) ?_
    refine lv_ldc (own := RX11) (v := (-100001)) hx hb hown (hg _ k4_81) dX11_meet_24 ?_
    refine ck_Vi (As := [.int (-100001)]) (rest := []) (wr := [(ae, .inl (N.2 0, 8, .inl ea)), (ao, .inl (N.2 0, 8, .inl no)), (an, .inl (N.2 0, 572, .inl nw))]) C0 hP hD hS (c_X11_finds l N mm an ak ab az as_ ae ao ar aw al am af ac ke kn fd mn (-100001) ) myX11_finds k4_67 ⟨Nat.le_of_ble_eq_true rfl, Nat.le_of_ble_eq_true rfl⟩ [2] [0, 1, 3] ⟨⟨rfl, rfl⟩, by decide, by decide, by decide⟩ 2 rfl rfl rfl rfl hl.1 rfl (Nat.le_of_ble_eq_true rfl) dX11_meet_26 ⟨Nat.le_of_ble_eq_true rfl, Nat.le_of_ble_eq_true rfl⟩ (fun r_4 u0 H locs hw0 hP hD hS => ?_)
    have hw_5 : r_4 = (-100001) := hw0
    subst hw_5
    have hP : va_P N.1 vwCl [(ae, .inl (N.2 0, 8, .inl ea)), (ao, .inl (N.2 0, 8, .inl no)), (an, .inl (N.2 0, 572, .inl nw)), (mm, .inr (11, [.ref an, .ref ak, .int (nI ke), .int (nI kn), .int (fd + nI 1), .ref ab, .ref az, .ref as_, .ref ae, .ref ao, .ref ar, .ref aw, .ref al, .ref am, .int (nI mn), .ref af, .ref ac]))] H := hP
    have hD : va_D Ag [(ae, .inl (N.2 0, 8, .inl ea)), (ao, .inl (N.2 0, 8, .inl no)), (an, .inl (N.2 0, 572, .inl nw)), (mm, .inr (11, [.ref an, .ref ak, .int (nI ke), .int (nI kn), .int (fd + nI 1), .ref ab, .ref az, .ref as_, .ref ae, .ref ao, .ref ar, .ref aw, .ref al, .ref am, .int (nI mn), .ref af, .ref ac]))] := hD
    exact ck_iret hx hb hrt hlk ((fd + nI 1)) (ckRd_f (by simp [meF, cz_3]) (by decide)) (hP.sub [3, 2, 0, 1] rfl) (hD.sub [3, 2, 0, 1] (by decide) rfl) hS ⟨Nat.le_of_ble_eq_true rfl, Nat.le_of_ble_eq_true rfl⟩ dX11_meet_29
  refine lv_aload_n hx hb dX11_meet_8 rfl (lv_at hl 0 rfl) ?_
  refine lv_iload_n hx hb dX11_meet_9 rfl (lv_at hl 2 rfl) ?_
  refine ck_Vi (As := [.int y]) (rest := []) (wr := [(ae, .inl (N.2 0, 8, .inl ea)), (ao, .inl (N.2 0, 8, .inl no))]) C0 hP hD hS (c_X11_isFlyer l N mm an ak ab az as_ ae ao ar aw al am af ac ke kn fd mn nw cf n wk tr di fo w sdf wof shf twf y hV (by omega)) myX11_isFlyer k4_92 ⟨Nat.le_of_ble_eq_true rfl, Nat.le_of_ble_eq_true rfl⟩ [2, 3] [0, 1] ⟨⟨rfl, rfl⟩, by decide, by decide, by decide⟩ 2 rfl rfl rfl rfl hl.1 rfl (Nat.le_of_ble_eq_true rfl) dX11_meet_10 ⟨Nat.le_of_ble_eq_true rfl, Nat.le_of_ble_eq_true rfl⟩ (fun r_6 u0 H locs hw0 hP hD hS => ?_)
  have hw_7 : r_6 = (b2i (ckLt y cf)) := hw0
  subst hw_7
  have hP : va_P N.1 vwCl [(ae, .inl (N.2 0, 8, .inl ea)), (ao, .inl (N.2 0, 8, .inl no)), (mm, .inr (11, [.ref an, .ref ak, .int (nI ke), .int (nI kn), .int fd, .ref ab, .ref az, .ref as_, .ref ae, .ref ao, .ref ar, .ref aw, .ref al, .ref am, .int (nI mn), .ref af, .ref ac])), (an, .inl (N.2 0, 572, .inl nw))] H := hP
  have hD : va_D Ag [(ae, .inl (N.2 0, 8, .inl ea)), (ao, .inl (N.2 0, 8, .inl no)), (mm, .inr (11, [.ref an, .ref ak, .int (nI ke), .int (nI kn), .int fd, .ref ab, .ref az, .ref as_, .ref ae, .ref ao, .ref ar, .ref aw, .ref al, .ref am, .int (nI mn), .ref af, .ref ac])), (an, .inl (N.2 0, 572, .inl nw))] := hD
  refine ck_ifeq (b := ckLt y cf) (tgt := 23) hx hb dX11_meet_13 (by decide) (fun cz_8 => ?_) (fun cz_8 => ?_)
  · refine lv_aload_n hx hb dX11_meet_23 rfl (lv_at hl 0 rfl) ?_
    refine lv_ldc (own := RX11) (v := (-100001)) hx hb hown (hg _ k4_81) dX11_meet_24 ?_
    refine ck_Vi (As := [.int (-100001)]) (rest := []) (wr := [(ae, .inl (N.2 0, 8, .inl ea)), (ao, .inl (N.2 0, 8, .inl no)), (an, .inl (N.2 0, 572, .inl nw))]) C0 hP hD hS (c_X11_finds l N mm an ak ab az as_ ae ao ar aw al am af ac ke kn fd mn (-100001) ) myX11_finds k4_67 ⟨Nat.le_of_ble_eq_true rfl, Nat.le_of_ble_eq_true rfl⟩ [2] [0, 1, 3] ⟨⟨rfl, rfl⟩, by decide, by decide, by decide⟩ 2 rfl rfl rfl rfl hl.1 rfl (Nat.le_of_ble_eq_true rfl) dX11_meet_26 ⟨Nat.le_of_ble_eq_true rfl, Nat.le_of_ble_eq_true rfl⟩ (fun r_9 u0 H locs hw0 hP hD hS => ?_)
    have hw_10 : r_9 = (-100001) := hw0
    subst hw_10
    have hP : va_P N.1 vwCl [(ae, .inl (N.2 0, 8, .inl ea)), (ao, .inl (N.2 0, 8, .inl no)), (an, .inl (N.2 0, 572, .inl nw)), (mm, .inr (11, [.ref an, .ref ak, .int (nI ke), .int (nI kn), .int (fd + nI 1), .ref ab, .ref az, .ref as_, .ref ae, .ref ao, .ref ar, .ref aw, .ref al, .ref am, .int (nI mn), .ref af, .ref ac]))] H := hP
    have hD : va_D Ag [(ae, .inl (N.2 0, 8, .inl ea)), (ao, .inl (N.2 0, 8, .inl no)), (an, .inl (N.2 0, 572, .inl nw)), (mm, .inr (11, [.ref an, .ref ak, .int (nI ke), .int (nI kn), .int (fd + nI 1), .ref ab, .ref az, .ref as_, .ref ae, .ref ao, .ref ar, .ref aw, .ref al, .ref am, .int (nI mn), .ref af, .ref ac]))] := hD
    exact ck_iret hx hb hrt hlk ((fd + nI 1)) (ckRd_f (by simp [meF, cz_3, cz_8]) (by decide)) (hP.sub [3, 2, 0, 1] rfl) (hD.sub [3, 2, 0, 1] (by decide) rfl) hS ⟨Nat.le_of_ble_eq_true rfl, Nat.le_of_ble_eq_true rfl⟩ dX11_meet_29
  refine lv_iload_n hx hb dX11_meet_16 rfl (lv_at hl 3 rfl) ?_
  refine ck_Si (As := [.int z]) (rest := []) (wr := [(ae, .inl (N.2 0, 8, .inl ea)), (ao, .inl (N.2 0, 8, .inl no)), (mm, .inr (11, [.ref an, .ref ak, .int (nI ke), .int (nI kn), .int fd, .ref ab, .ref az, .ref as_, .ref ae, .ref ao, .ref ar, .ref aw, .ref al, .ref am, .int (nI mn), .ref af, .ref ac])), (an, .inl (N.2 0, 572, .inl nw))]) C0 hP hD hS (c_X11_isMinute l N z ) myX11_isMinute k4_117 ⟨Nat.le_of_ble_eq_true rfl, Nat.le_of_ble_eq_true rfl⟩ [] [0, 1, 2, 3] ⟨⟨rfl, rfl⟩, by decide, by decide, by decide⟩ rfl hl.1 rfl (Nat.le_of_ble_eq_true rfl) dX11_meet_17 ⟨Nat.le_of_ble_eq_true rfl, Nat.le_of_ble_eq_true rfl⟩ (fun r_11 u0 H locs hw0 hP hD hS => ?_)
  have hw_12 : r_11 = (b2i (ckIn z (nI 0) (nI 19))) := hw0
  subst hw_12
  have hP : va_P N.1 vwCl [(ae, .inl (N.2 0, 8, .inl ea)), (ao, .inl (N.2 0, 8, .inl no)), (mm, .inr (11, [.ref an, .ref ak, .int (nI ke), .int (nI kn), .int fd, .ref ab, .ref az, .ref as_, .ref ae, .ref ao, .ref ar, .ref aw, .ref al, .ref am, .int (nI mn), .ref af, .ref ac])), (an, .inl (N.2 0, 572, .inl nw))] H := hP
  have hD : va_D Ag [(ae, .inl (N.2 0, 8, .inl ea)), (ao, .inl (N.2 0, 8, .inl no)), (mm, .inr (11, [.ref an, .ref ak, .int (nI ke), .int (nI kn), .int fd, .ref ab, .ref az, .ref as_, .ref ae, .ref ao, .ref ar, .ref aw, .ref al, .ref am, .int (nI mn), .ref af, .ref ac])), (an, .inl (N.2 0, 572, .inl nw))] := hD
  refine ck_ifne (b := ckIn z (nI 0) (nI 19)) (tgt := 30) hx hb dX11_meet_20 (by decide) (fun cz_13 => ?_) (fun cz_13 => ?_)
  · refine lv_iload_n hx hb dX11_meet_30 rfl (lv_at hl 1 rfl) ?_
    refine lv_iload_n hx hb dX11_meet_31 rfl (lv_at hl 2 rfl) ?_
    refine lv_icmp_ne (tgt := 42) hx hb dX11_meet_32 (by decide) (fun cz_14 => ?_) (fun cz_14 => ?_)
    · have hf1 := cz_3
      have hf2 := cz_8
      have hf3 := cz_13
      have hxy := cz_14
      obtain ⟨i, hi, rfl⟩ := (ckLt_t (by omega)).mp hf1
      have exi : ix (nI i) = i := ix_nI (by omega)
      obtain ⟨j, hj, rfl⟩ := (ckLt_t (by omega)).mp hf2
      have exj : ix (nI j) = j := ix_nI (by omega)
      obtain ⟨z0, -, hz0, rfl⟩ := (ckIn_n (by decide) (by decide)).mp hf3
      have exz0 : ix (nI z0) = z0 := ix_nI (by omega)
      have exz := exz0
      refine lv_iload_n hx hb dX11_meet_42 rfl (lv_at hl 3 rfl) ?_
      refine lv_istore (lv' := [(4, .int (nI z0)), (0, .ref mm), (1, .int (nI i)), (2, .int (nI j)), (3, .int (nI z0))]) hx hb dX11_meet_43 hl (by decide) rfl (fun ls hl => ?_)
      have lp_45 : ∀ (dz : Nat) (m1 : Nat) (hdz : 20 - m1 = dz) (hm1 : z0 ≤ m1 ∧ m1 ≤ 20) (hs1 : fstM (fNear tr fo kd ht dr i j) z0 (20 - z0) = fstM (fNear tr fo kd ht dr i j) m1 (20 - m1)) (H : Heap) (locs : List Loc) (ls : Array Slot), va_P N.1 vwCl [(mm, .inr (11, [.ref an, .ref ak, .int (nI ke), .int (nI kn), .int fd, .ref ab, .ref az, .ref as_, .ref ae, .ref ao, .ref ar, .ref aw, .ref al, .ref am, .int (nI mn), .ref af, .ref ac])), (an, .inl (N.2 0, 572, .inl nw)), (ae, .inl (N.2 0, 8, .inl ea)), (ao, .inl (N.2 0, 8, .inl no))] H → va_D Ag [(mm, .inr (11, [.ref an, .ref ak, .int (nI ke), .int (nI kn), .int fd, .ref ab, .ref az, .ref as_, .ref ae, .ref ao, .ref ar, .ref aw, .ref al, .ref am, .int (nI mn), .ref af, .ref ac])), (an, .inl (N.2 0, 572, .inl nw)), (ae, .inl (N.2 0, 8, .inl ea)), (ao, .inl (N.2 0, 8, .inl no))] → va_S Ag sg.heap H locs → lv_has ls 5 [(4, .int (nI m1)), (0, .ref mm), (1, .int (nI i)), (2, .int (nI j)), (3, .int (nI z0))] → W pg l eg { frames := 6, cells := 0, slots := 0, locals := 152 } sg mg ([.ref mm, .int (nI i), .int (nI j), .int (nI z0)]).toArray blw mth cg H locs 0 0 (ckQi N Ag blw sg ([.ref mm, .int (nI i), .int (nI j), .int (nI z0)]).toArray { frames := 6, cells := 0, slots := 0, locals := 152 } (fun (r : Int32) (u : Int32) => ckRd (meF cf (fun i j m => fNear tr fo kd ht dr i j m) (nI i) (nI j) (nI z0)) (meR (fun i j m => fNear tr fo kd ht dr i j m) (nI i) (nI j) (nI z0)) fd r u) (fun (u : Int32) => [(mm, .inr (11, [.ref an, .ref ak, .int (nI ke), .int (nI kn), .int u, .ref ab, .ref az, .ref as_, .ref ae, .ref ao, .ref ar, .ref aw, .ref al, .ref am, .int (nI mn), .ref af, .ref ac])), (an, .inl (N.2 0, 572, .inl nw)), (ae, .inl (N.2 0, 8, .inl ea)), (ao, .inl (N.2 0, 8, .inl no))])) (F0 mg 45 ls []) := by
        intro dz
        induction dz using Nat.strongRecOn with
        | _ dz ih_45 =>
          intro m1 hdz hm1 hs1 H locs ls hP hD hS hl
          subst hdz
          refine lv_iload hx hb dX11_meet_45 (lv_at hl 0 rfl) ?_
          refine lv_bipush (v := (nI 20)) hx hb dX11_meet_47 (by decide) ?_
          refine ck_ic_ge (tgt := 72) hx hb dX11_meet_49 (by decide) (by omega) (by omega) (fun cz_15 => ?_) (fun cz_15 => ?_)
          · refine lv_aload_n hx hb dX11_meet_72 rfl (lv_at hl 1 rfl) ?_
            refine lv_ldc (own := RX11) (v := (-100006)) hx hb hown (hg _ k4_66) dX11_meet_73 ?_
            refine ck_Vi (As := [.int (-100006)]) (rest := []) (wr := [(an, .inl (N.2 0, 572, .inl nw)), (ae, .inl (N.2 0, 8, .inl ea)), (ao, .inl (N.2 0, 8, .inl no))]) C0 hP hD hS (c_X11_finds l N mm an ak ab az as_ ae ao ar aw al am af ac ke kn fd mn (-100006) ) myX11_finds k4_67 ⟨Nat.le_of_ble_eq_true rfl, Nat.le_of_ble_eq_true rfl⟩ [0] [1, 2, 3] ⟨⟨rfl, rfl⟩, by decide, by decide, by decide⟩ 0 rfl rfl rfl rfl hl.1 rfl (Nat.le_of_ble_eq_true rfl) dX11_meet_75 ⟨Nat.le_of_ble_eq_true rfl, Nat.le_of_ble_eq_true rfl⟩ (fun r_16 u0 H locs hw0 hP hD hS => ?_)
            have hw_17 : r_16 = (-100006) := hw0
            subst hw_17
            have hP : va_P N.1 vwCl [(an, .inl (N.2 0, 572, .inl nw)), (ae, .inl (N.2 0, 8, .inl ea)), (ao, .inl (N.2 0, 8, .inl no)), (mm, .inr (11, [.ref an, .ref ak, .int (nI ke), .int (nI kn), .int (fd + nI 1), .ref ab, .ref az, .ref as_, .ref ae, .ref ao, .ref ar, .ref aw, .ref al, .ref am, .int (nI mn), .ref af, .ref ac]))] H := hP
            have hD : va_D Ag [(an, .inl (N.2 0, 572, .inl nw)), (ae, .inl (N.2 0, 8, .inl ea)), (ao, .inl (N.2 0, 8, .inl no)), (mm, .inr (11, [.ref an, .ref ak, .int (nI ke), .int (nI kn), .int (fd + nI 1), .ref ab, .ref az, .ref as_, .ref ae, .ref ao, .ref ar, .ref aw, .ref al, .ref am, .int (nI mn), .ref af, .ref ac]))] := hD
            exact ck_iret hx hb hrt hlk ((fd + nI 1)) (ckRd_f (by simp [meF, hf1, hf2, hf3, hxy, exi, exj, exz, hs1, (show 20 - m1 = 0 by omega), fstM]) (by decide)) (hP.sub [3, 0, 1, 2] rfl) (hD.sub [3, 0, 1, 2] (by decide) rfl) hS ⟨Nat.le_of_ble_eq_true rfl, Nat.le_of_ble_eq_true rfl⟩ dX11_meet_78
          refine lv_aload_n hx hb dX11_meet_52 rfl (lv_at hl 1 rfl) ?_
          refine lv_iload_n hx hb dX11_meet_53 rfl (lv_at hl 2 rfl) ?_
          refine lv_iload_n hx hb dX11_meet_54 rfl (lv_at hl 3 rfl) ?_
          refine lv_iload hx hb dX11_meet_55 (lv_at hl 0 rfl) ?_
          refine ck_Vi (As := [.int (nI i), .int (nI j), .int (nI m1)]) (rest := []) (wr := []) C0 hP hD hS (c_X11_doMeet l N mm an ak ab az as_ ae ao ar aw al am af ac ke kn fd mn nw ea no cf n wk tr di fo w sdf wof shf twf kd ht dr i j m1 hV hAir hTr hFo hea hno (by omega) (by omega) (by omega)) myX11_doMeet k4_151 ⟨Nat.le_of_ble_eq_true rfl, Nat.le_of_ble_eq_true rfl⟩ [0, 1, 2, 3] [] ⟨⟨rfl, rfl⟩, by decide, by decide, by decide⟩ 0 rfl rfl rfl rfl hl.1 rfl (Nat.le_of_ble_eq_true rfl) dX11_meet_57 ⟨Nat.le_of_ble_eq_true rfl, Nat.le_of_ble_eq_true rfl⟩ (fun r_18 u0 H locs hw0 hP hD hS => ?_)
          have hw_19 : r_18 = (b2i (fNear tr fo kd ht dr i j m1)) := hw0
          subst hw_19
          have hP : va_P N.1 vwCl [(mm, .inr (11, [.ref an, .ref ak, .int (nI ke), .int (nI kn), .int fd, .ref ab, .ref az, .ref as_, .ref ae, .ref ao, .ref ar, .ref aw, .ref al, .ref am, .int (nI mn), .ref af, .ref ac])), (an, .inl (N.2 0, 572, .inl nw)), (ae, .inl (N.2 0, 8, .inl ea)), (ao, .inl (N.2 0, 8, .inl no))] H := hP
          have hD : va_D Ag [(mm, .inr (11, [.ref an, .ref ak, .int (nI ke), .int (nI kn), .int fd, .ref ab, .ref az, .ref as_, .ref ae, .ref ao, .ref ar, .ref aw, .ref al, .ref am, .int (nI mn), .ref af, .ref ac])), (an, .inl (N.2 0, 572, .inl nw)), (ae, .inl (N.2 0, 8, .inl ea)), (ao, .inl (N.2 0, 8, .inl no))] := hD
          refine ck_ifeq (b := fNear tr fo kd ht dr i j m1) (tgt := 66) hx hb dX11_meet_60 (by decide) (fun cz_20 => ?_) (fun cz_20 => ?_)
          · refine lv_iinc (v := (nI (m1 + 1))) (lv' := [(4, .int (nI (m1 + 1))), (0, .ref mm), (1, .int (nI i)), (2, .int (nI j)), (3, .int (nI z0))]) hx hb dX11_meet_66 hl (k := 0) rfl (nI_1 _) (by decide) rfl (fun ls hl => ?_)
            refine lv_goto (tgt := 45) hx hb dX11_meet_69 (by decide) ?_
            exact ih_45 _ (by omega) (m1 + 1) rfl (by omega) (hs1.trans (by rw [fstM_n (by omega) cz_20]; congr 1)) _ _ ls hP hD hS hl
          refine lv_iload hx hb dX11_meet_63 (lv_at hl 0 rfl) ?_
          exact ck_iret hx hb hrt hlk (fd) (ckRd_ok (by simp [meF, hf1, hf2, hf3, hxy, exi, exj, exz, hs1, fstM_y (m := m1) (c := 20 - m1) (by omega) cz_20]) (by rw [meR, exi, exj, exz, hs1, fstM_y (by omega) cz_20]; rfl)) hP hD hS ⟨Nat.le_of_ble_eq_true rfl, Nat.le_of_ble_eq_true rfl⟩ dX11_meet_65
      exact lp_45 _ z0 rfl (by omega) rfl _ _ ls (hP.sub [2, 3, 0, 1] rfl) (hD.sub [2, 3, 0, 1] (by decide) rfl) hS hl
    refine lv_aload_n hx hb dX11_meet_35 rfl (lv_at hl 0 rfl) ?_
    refine lv_ldc (own := RX11) (v := (-100003)) hx hb hown (hg _ k4_82) dX11_meet_36 ?_
    refine ck_Vi (As := [.int (-100003)]) (rest := []) (wr := [(ae, .inl (N.2 0, 8, .inl ea)), (ao, .inl (N.2 0, 8, .inl no)), (an, .inl (N.2 0, 572, .inl nw))]) C0 hP hD hS (c_X11_finds l N mm an ak ab az as_ ae ao ar aw al am af ac ke kn fd mn (-100003) ) myX11_finds k4_67 ⟨Nat.le_of_ble_eq_true rfl, Nat.le_of_ble_eq_true rfl⟩ [2] [0, 1, 3] ⟨⟨rfl, rfl⟩, by decide, by decide, by decide⟩ 2 rfl rfl rfl rfl hl.1 rfl (Nat.le_of_ble_eq_true rfl) dX11_meet_38 ⟨Nat.le_of_ble_eq_true rfl, Nat.le_of_ble_eq_true rfl⟩ (fun r_21 u0 H locs hw0 hP hD hS => ?_)
    have hw_22 : r_21 = (-100003) := hw0
    subst hw_22
    have hP : va_P N.1 vwCl [(ae, .inl (N.2 0, 8, .inl ea)), (ao, .inl (N.2 0, 8, .inl no)), (an, .inl (N.2 0, 572, .inl nw)), (mm, .inr (11, [.ref an, .ref ak, .int (nI ke), .int (nI kn), .int (fd + nI 1), .ref ab, .ref az, .ref as_, .ref ae, .ref ao, .ref ar, .ref aw, .ref al, .ref am, .int (nI mn), .ref af, .ref ac]))] H := hP
    have hD : va_D Ag [(ae, .inl (N.2 0, 8, .inl ea)), (ao, .inl (N.2 0, 8, .inl no)), (an, .inl (N.2 0, 572, .inl nw)), (mm, .inr (11, [.ref an, .ref ak, .int (nI ke), .int (nI kn), .int (fd + nI 1), .ref ab, .ref az, .ref as_, .ref ae, .ref ao, .ref ar, .ref aw, .ref al, .ref am, .int (nI mn), .ref af, .ref ac]))] := hD
    exact ck_iret hx hb hrt hlk ((fd + nI 1)) (ckRd_f (by simp [meF, cz_3, cz_8, cz_13, cz_14]) (by decide)) (hP.sub [3, 2, 0, 1] rfl) (hD.sub [3, 2, 0, 1] (by decide) rfl) hS ⟨Nat.le_of_ble_eq_true rfl, Nat.le_of_ble_eq_true rfl⟩ dX11_meet_41
  refine lv_aload_n hx hb dX11_meet_23 rfl (lv_at hl 0 rfl) ?_
  refine lv_ldc (own := RX11) (v := (-100001)) hx hb hown (hg _ k4_81) dX11_meet_24 ?_
  refine ck_Vi (As := [.int (-100001)]) (rest := []) (wr := [(ae, .inl (N.2 0, 8, .inl ea)), (ao, .inl (N.2 0, 8, .inl no)), (an, .inl (N.2 0, 572, .inl nw))]) C0 hP hD hS (c_X11_finds l N mm an ak ab az as_ ae ao ar aw al am af ac ke kn fd mn (-100001) ) myX11_finds k4_67 ⟨Nat.le_of_ble_eq_true rfl, Nat.le_of_ble_eq_true rfl⟩ [2] [0, 1, 3] ⟨⟨rfl, rfl⟩, by decide, by decide, by decide⟩ 2 rfl rfl rfl rfl hl.1 rfl (Nat.le_of_ble_eq_true rfl) dX11_meet_26 ⟨Nat.le_of_ble_eq_true rfl, Nat.le_of_ble_eq_true rfl⟩ (fun r_23 u0 H locs hw0 hP hD hS => ?_)
  have hw_24 : r_23 = (-100001) := hw0
  subst hw_24
  have hP : va_P N.1 vwCl [(ae, .inl (N.2 0, 8, .inl ea)), (ao, .inl (N.2 0, 8, .inl no)), (an, .inl (N.2 0, 572, .inl nw)), (mm, .inr (11, [.ref an, .ref ak, .int (nI ke), .int (nI kn), .int (fd + nI 1), .ref ab, .ref az, .ref as_, .ref ae, .ref ao, .ref ar, .ref aw, .ref al, .ref am, .int (nI mn), .ref af, .ref ac]))] H := hP
  have hD : va_D Ag [(ae, .inl (N.2 0, 8, .inl ea)), (ao, .inl (N.2 0, 8, .inl no)), (an, .inl (N.2 0, 572, .inl nw)), (mm, .inr (11, [.ref an, .ref ak, .int (nI ke), .int (nI kn), .int (fd + nI 1), .ref ab, .ref az, .ref as_, .ref ae, .ref ao, .ref ar, .ref aw, .ref al, .ref am, .int (nI mn), .ref af, .ref ac]))] := hD
  exact ck_iret hx hb hrt hlk ((fd + nI 1)) (ckRd_f (by simp [meF, cz_3, cz_8, cz_13]) (by decide)) (hP.sub [3, 2, 0, 1] rfl) (hD.sub [3, 2, 0, 1] (by decide) rfl) hS ⟨Nat.le_of_ble_eq_true rfl, Nat.le_of_ble_eq_true rfl⟩ dX11_meet_29
set_option maxHeartbeats 4000000 in
set_option maxRecDepth 100000 in
/-- X11_meets -/
theorem c_X11_meets (l : Launch) (N : ckN) (mm : Nat) (an : Nat) (ak : Nat) (ab : Nat) (az : Nat) (as_ : Nat) (ae : Nat) (ao : Nat) (ar : Nat) (aw : Nat) (al : Nat) (am : Nat) (af : Nat) (ac : Nat) (ke : Nat) (kn : Nat) (fd : Int32) (mn : Nat) (nw : Nat → Int32) (ea : Nat → Int32) (no : Nat → Int32) (cf : Nat) (n : Nat) (wk : Int32) (tr : Nat → Int32) (di : Nat → Int32) (fo : Nat → Int32) (w : Nat → List Nat) (sdf : Nat → Int32) (wof : Nat → Int32) (shf : Nat → Int32) (twf : Nat → Int32) (kd : Nat → Nat) (ht : Nat → Nat) (dr : Nat → Nat) (x : Int32) (hV : mV nw cf n wk tr di fo w sdf wof shf twf) (hAir : ckAir tr di cf kd ht dr) (hTr : ckTr tr cf) (hFo : ckFo fo) (hea : ∀ j, j < 8 → ea j = ckSX j) (hno : ∀ j, j < 8 → no j = ckSY j) : ckI l yX11_meets cX11_meets 5 (some FieldType.int) { frames := 6, cells := 0, slots := 0, locals := 152 } N [.ref mm, .int x] [(mm, .inr (11, [.ref an, .ref ak, .int (nI ke), .int (nI kn), .int fd, .ref ab, .ref az, .ref as_, .ref ae, .ref ao, .ref ar, .ref aw, .ref al, .ref am, .int (nI mn), .ref af, .ref ac])), (an, .inl (N.2 0, 572, .inl nw)), (ae, .inl (N.2 0, 8, .inl ea)), (ao, .inl (N.2 0, 8, .inl no))] (fun (r : Int32) (u : Int32) => ckRd (miF x) (nI (ckPairs (fun f g => fNear tr fo kd ht dr f g (ix x)) cf)) fd r u) (fun (u : Int32) => [(mm, .inr (11, [.ref an, .ref ak, .int (nI ke), .int (nI kn), .int u, .ref ab, .ref az, .ref as_, .ref ae, .ref ao, .ref ar, .ref aw, .ref al, .ref am, .int (nI mn), .ref af, .ref ac])), (an, .inl (N.2 0, 572, .inl nw)), (ae, .inl (N.2 0, 8, .inl ea)), (ao, .inl (N.2 0, 8, .inl no))]) := by
  refine ckI.of (by decide) (Nat.le_of_ble_eq_true rfl) ?_
  intro pg eg sg mg blw mth cg Ag ls hx hb hrt hml hown hlk hin hg hE hA hP hD hS hl
  have hown : sg.vm.findClass RX11 = some mg.cls := hown
  have hl : lv_has ls 5 [(0, .ref mm), (1, .int x)] := hl
  have C0 : ckC pg sg mg ([.ref mm, .int x]).toArray cg cX11_meets 5 RX11 N Ag := ⟨⟨hx, hb, hml, hown, hg⟩, hE, hA⟩
  generalize hHe : sg.heap = H at hP
  have hS : va_S Ag sg.heap H [] := hHe ▸ hS
  have hn8 := hAir.1
  refine lv_iload_n hx hb dX11_meets_0 rfl (lv_at hl 1 rfl) ?_
  refine ck_Si (As := [.int x]) (rest := []) (wr := [(mm, .inr (11, [.ref an, .ref ak, .int (nI ke), .int (nI kn), .int fd, .ref ab, .ref az, .ref as_, .ref ae, .ref ao, .ref ar, .ref aw, .ref al, .ref am, .int (nI mn), .ref af, .ref ac])), (an, .inl (N.2 0, 572, .inl nw)), (ae, .inl (N.2 0, 8, .inl ea)), (ao, .inl (N.2 0, 8, .inl no))]) C0 hP hD hS (c_X11_isMinute l N x ) myX11_isMinute k4_117 ⟨Nat.le_of_ble_eq_true rfl, Nat.le_of_ble_eq_true rfl⟩ [] [0, 1, 2, 3] ⟨⟨rfl, rfl⟩, by decide, by decide, by decide⟩ rfl hl.1 rfl (Nat.le_of_ble_eq_true rfl) dX11_meets_1 ⟨Nat.le_of_ble_eq_true rfl, Nat.le_of_ble_eq_true rfl⟩ (fun r_1 u0 H locs hw0 hP hD hS => ?_)
  have hw_2 : r_1 = (b2i (ckIn x (nI 0) (nI 19))) := hw0
  subst hw_2
  have hP : va_P N.1 vwCl [(mm, .inr (11, [.ref an, .ref ak, .int (nI ke), .int (nI kn), .int fd, .ref ab, .ref az, .ref as_, .ref ae, .ref ao, .ref ar, .ref aw, .ref al, .ref am, .int (nI mn), .ref af, .ref ac])), (an, .inl (N.2 0, 572, .inl nw)), (ae, .inl (N.2 0, 8, .inl ea)), (ao, .inl (N.2 0, 8, .inl no))] H := hP
  have hD : va_D Ag [(mm, .inr (11, [.ref an, .ref ak, .int (nI ke), .int (nI kn), .int fd, .ref ab, .ref az, .ref as_, .ref ae, .ref ao, .ref ar, .ref aw, .ref al, .ref am, .int (nI mn), .ref af, .ref ac])), (an, .inl (N.2 0, 572, .inl nw)), (ae, .inl (N.2 0, 8, .inl ea)), (ao, .inl (N.2 0, 8, .inl no))] := hD
  refine ck_ifne (b := ckIn x (nI 0) (nI 19)) (tgt := 14) hx hb dX11_meets_4 (by decide) (fun cz_3 => ?_) (fun cz_3 => ?_)
  · have hF1 := cz_3
    obtain ⟨x0, -, hx0, rfl⟩ := (ckIn_n (by decide) (by decide)).mp hF1
    have exx0 : ix (nI x0) = x0 := ix_nI (by omega)
    refine lv_iconst (v := (nI 0)) hx hb dX11_meets_14 (by decide) ?_
    refine lv_istore_n (lv' := [(2, .int (nI 0)), (0, .ref mm), (1, .int (nI x0))]) hx hb dX11_meets_15 rfl hl (by decide) rfl (fun ls hl => ?_)
    refine lv_iconst (v := (nI 0)) hx hb dX11_meets_16 (by decide) ?_
    refine lv_istore_n (lv' := [(3, .int (nI 0)), (2, .int (nI 0)), (0, .ref mm), (1, .int (nI x0))]) hx hb dX11_meets_17 rfl hl (by decide) rfl (fun ls hl => ?_)
    have lp_18 : ∀ (dz : Nat) (f1 : Nat) (acc : Nat) (hdz : cf - f1 = dz) (hf : f1 ≤ cf) (ha : acc = psum (fun f => psum (fun g => b2n (fNear tr fo kd ht dr f g x0)) f) f1) (H : Heap) (locs : List Loc) (ls : Array Slot), va_P N.1 vwCl [(mm, .inr (11, [.ref an, .ref ak, .int (nI ke), .int (nI kn), .int fd, .ref ab, .ref az, .ref as_, .ref ae, .ref ao, .ref ar, .ref aw, .ref al, .ref am, .int (nI mn), .ref af, .ref ac])), (an, .inl (N.2 0, 572, .inl nw)), (ae, .inl (N.2 0, 8, .inl ea)), (ao, .inl (N.2 0, 8, .inl no))] H → va_D Ag [(mm, .inr (11, [.ref an, .ref ak, .int (nI ke), .int (nI kn), .int fd, .ref ab, .ref az, .ref as_, .ref ae, .ref ao, .ref ar, .ref aw, .ref al, .ref am, .int (nI mn), .ref af, .ref ac])), (an, .inl (N.2 0, 572, .inl nw)), (ae, .inl (N.2 0, 8, .inl ea)), (ao, .inl (N.2 0, 8, .inl no))] → va_S Ag sg.heap H locs → lv_has ls 5 [(3, .int (nI f1)), (2, .int (nI acc)), (0, .ref mm), (1, .int (nI x0))] → W pg l eg { frames := 6, cells := 0, slots := 0, locals := 152 } sg mg ([.ref mm, .int (nI x0)]).toArray blw mth cg H locs 0 0 (ckQi N Ag blw sg ([.ref mm, .int (nI x0)]).toArray { frames := 6, cells := 0, slots := 0, locals := 152 } (fun (r : Int32) (u : Int32) => ckRd (miF (nI x0)) (nI (ckPairs (fun f g => fNear tr fo kd ht dr f g (ix (nI x0))) cf)) fd r u) (fun (u : Int32) => [(mm, .inr (11, [.ref an, .ref ak, .int (nI ke), .int (nI kn), .int u, .ref ab, .ref az, .ref as_, .ref ae, .ref ao, .ref ar, .ref aw, .ref al, .ref am, .int (nI mn), .ref af, .ref ac])), (an, .inl (N.2 0, 572, .inl nw)), (ae, .inl (N.2 0, 8, .inl ea)), (ao, .inl (N.2 0, 8, .inl no))])) (F0 mg 18 ls []) := by
      intro dz
      induction dz using Nat.strongRecOn with
      | _ dz ih_18 =>
        intro f1 acc hdz hf ha H locs ls hP hD hS hl
        subst hdz
        refine lv_iload_n hx hb dX11_meets_18 rfl (lv_at hl 0 rfl) ?_
        refine lv_aload_n hx hb dX11_meets_19 rfl (lv_at hl 2 rfl) ?_
        refine va_get (ci := 11) (v := .ref an) (C := RX11) (T := TX11) (N := 17) hx hb hg inX11 hown hE.1 hP 0 rfl rfl 0 (by decide) (hg _ k4_10) (fun _ h9 => h9) rfl dX11_meets_20 ?_
        refine lv_iconst (v := (nI 0)) hx hb dX11_meets_23 (by decide) ?_
        refine ck_iald hx hb hE hP 1 rfl (by omega) (by decide) dX11_meets_24 ?_
        refine ck_top (y := (nI cf)) hV.1 ?_
        refine ck_ic_ge (tgt := 68) hx hb dX11_meets_25 (by decide) (by omega) (by omega) (fun cz_4 => ?_) (fun cz_4 => ?_)
        · refine lv_iload_n hx hb dX11_meets_68 rfl (lv_at hl 1 rfl) ?_
          exact ck_iret hx hb hrt hlk (fd) (ckRd_ok (by simp [miF, hF1]) (by rw [exx0, ckPairs_m (fun f g hf hg => fNear_sym hTr hf hg), ha, (show f1 = cf by omega)]; rfl)) hP hD hS ⟨Nat.le_of_ble_eq_true rfl, Nat.le_of_ble_eq_true rfl⟩ dX11_meets_69
        refine lv_iconst (v := (nI 0)) hx hb dX11_meets_28 (by decide) ?_
        refine lv_istore (lv' := [(4, .int (nI 0)), (3, .int (nI f1)), (2, .int (nI acc)), (0, .ref mm), (1, .int (nI x0))]) hx hb dX11_meets_29 hl (by decide) rfl (fun ls hl => ?_)
        have lp_31 : ∀ (dz : Nat) (g1 : Nat) (acc2 : Nat) (hdz : f1 - g1 = dz) (hg1 : g1 ≤ f1) (ha2 : acc2 = psum (fun f => psum (fun g => b2n (fNear tr fo kd ht dr f g x0)) f) f1 + psum (fun g => b2n (fNear tr fo kd ht dr f1 g x0)) g1) (H : Heap) (locs : List Loc) (ls : Array Slot), va_P N.1 vwCl [(mm, .inr (11, [.ref an, .ref ak, .int (nI ke), .int (nI kn), .int fd, .ref ab, .ref az, .ref as_, .ref ae, .ref ao, .ref ar, .ref aw, .ref al, .ref am, .int (nI mn), .ref af, .ref ac])), (an, .inl (N.2 0, 572, .inl nw)), (ae, .inl (N.2 0, 8, .inl ea)), (ao, .inl (N.2 0, 8, .inl no))] H → va_D Ag [(mm, .inr (11, [.ref an, .ref ak, .int (nI ke), .int (nI kn), .int fd, .ref ab, .ref az, .ref as_, .ref ae, .ref ao, .ref ar, .ref aw, .ref al, .ref am, .int (nI mn), .ref af, .ref ac])), (an, .inl (N.2 0, 572, .inl nw)), (ae, .inl (N.2 0, 8, .inl ea)), (ao, .inl (N.2 0, 8, .inl no))] → va_S Ag sg.heap H locs → lv_has ls 5 [(4, .int (nI g1)), (3, .int (nI f1)), (2, .int (nI acc2)), (0, .ref mm), (1, .int (nI x0))] → W pg l eg { frames := 6, cells := 0, slots := 0, locals := 152 } sg mg ([.ref mm, .int (nI x0)]).toArray blw mth cg H locs 0 0 (ckQi N Ag blw sg ([.ref mm, .int (nI x0)]).toArray { frames := 6, cells := 0, slots := 0, locals := 152 } (fun (r : Int32) (u : Int32) => ckRd (miF (nI x0)) (nI (ckPairs (fun f g => fNear tr fo kd ht dr f g (ix (nI x0))) cf)) fd r u) (fun (u : Int32) => [(mm, .inr (11, [.ref an, .ref ak, .int (nI ke), .int (nI kn), .int u, .ref ab, .ref az, .ref as_, .ref ae, .ref ao, .ref ar, .ref aw, .ref al, .ref am, .int (nI mn), .ref af, .ref ac])), (an, .inl (N.2 0, 572, .inl nw)), (ae, .inl (N.2 0, 8, .inl ea)), (ao, .inl (N.2 0, 8, .inl no))])) (F0 mg 31 ls []) := by
          intro dz
          induction dz using Nat.strongRecOn with
          | _ dz ih_31 =>
            intro g1 acc2 hdz hg1 ha2 H locs ls hP hD hS hl
            subst hdz
            refine lv_iload hx hb dX11_meets_31 (lv_at hl 0 rfl) ?_
            refine lv_iload_n hx hb dX11_meets_33 rfl (lv_at hl 1 rfl) ?_
            refine ck_ic_ge (tgt := 62) hx hb dX11_meets_34 (by decide) (by omega) (by omega) (fun cz_5 => ?_) (fun cz_5 => ?_)
            · refine lv_iinc (v := (nI (f1 + 1))) (lv' := [(3, .int (nI (f1 + 1))), (4, .int (nI g1)), (2, .int (nI acc2)), (0, .ref mm), (1, .int (nI x0))]) hx hb dX11_meets_62 hl (k := 1) rfl (nI_1 _) (by decide) rfl (fun ls hl => ?_)
              refine lv_goto (tgt := 18) hx hb dX11_meets_65 (by decide) ?_
              exact ih_18 _ (by omega) (f1 + 1) acc2 rfl (by omega) (by rw [ha2, (show g1 = f1 by omega)]; rfl) _ _ ls hP hD hS (lv_sub hl [0, 2, 3, 4] rfl)
            refine lv_iload_n hx hb dX11_meets_37 rfl (lv_at hl 2 rfl) ?_
            refine lv_aload_n hx hb dX11_meets_38 rfl (lv_at hl 3 rfl) ?_
            refine lv_iload_n hx hb dX11_meets_39 rfl (lv_at hl 1 rfl) ?_
            refine lv_iload hx hb dX11_meets_40 (lv_at hl 0 rfl) ?_
            refine lv_iload_n hx hb dX11_meets_42 rfl (lv_at hl 4 rfl) ?_
            refine ck_Vi (As := [.int (nI f1), .int (nI g1), .int (nI x0)]) (rest := [.int (nI acc2)]) (wr := []) C0 hP hD hS (c_X11_doMeet l N mm an ak ab az as_ ae ao ar aw al am af ac ke kn fd mn nw ea no cf n wk tr di fo w sdf wof shf twf kd ht dr f1 g1 x0 hV hAir hTr hFo hea hno (by omega) (by omega) (by omega)) myX11_doMeet k4_151 ⟨Nat.le_of_ble_eq_true rfl, Nat.le_of_ble_eq_true rfl⟩ [0, 1, 2, 3] [] ⟨⟨rfl, rfl⟩, by decide, by decide, by decide⟩ 0 rfl rfl rfl rfl hl.1 rfl (Nat.le_of_ble_eq_true rfl) dX11_meets_43 ⟨Nat.le_of_ble_eq_true rfl, Nat.le_of_ble_eq_true rfl⟩ (fun r_6 u0 H locs hw0 hP hD hS => ?_)
            have hw_7 : r_6 = (b2i (fNear tr fo kd ht dr f1 g1 x0)) := hw0
            subst hw_7
            have hP : va_P N.1 vwCl [(mm, .inr (11, [.ref an, .ref ak, .int (nI ke), .int (nI kn), .int fd, .ref ab, .ref az, .ref as_, .ref ae, .ref ao, .ref ar, .ref aw, .ref al, .ref am, .int (nI mn), .ref af, .ref ac])), (an, .inl (N.2 0, 572, .inl nw)), (ae, .inl (N.2 0, 8, .inl ea)), (ao, .inl (N.2 0, 8, .inl no))] H := hP
            have hD : va_D Ag [(mm, .inr (11, [.ref an, .ref ak, .int (nI ke), .int (nI kn), .int fd, .ref ab, .ref az, .ref as_, .ref ae, .ref ao, .ref ar, .ref aw, .ref al, .ref am, .int (nI mn), .ref af, .ref ac])), (an, .inl (N.2 0, 572, .inl nw)), (ae, .inl (N.2 0, 8, .inl ea)), (ao, .inl (N.2 0, 8, .inl no))] := hD
            refine ck_ifeq (b := fNear tr fo kd ht dr f1 g1 x0) (tgt := 53) hx hb dX11_meets_46 (by decide) (fun cz_8 => ?_) (fun cz_8 => ?_)
            · refine lv_iconst (v := (nI 0)) hx hb dX11_meets_53 (by decide) ?_
              refine lv_iadd hx hb dX11_meets_54 ?_
              refine ck_top (y := (nI (acc2 + 0))) (nI_add _ _) ?_
              refine lv_istore_n (lv' := [(2, .int (nI (acc2 + 0))), (4, .int (nI g1)), (3, .int (nI f1)), (0, .ref mm), (1, .int (nI x0))]) hx hb dX11_meets_55 rfl hl (by decide) rfl (fun ls hl => ?_)
              refine lv_iinc (v := (nI (g1 + 1))) (lv' := [(4, .int (nI (g1 + 1))), (2, .int (nI (acc2 + 0))), (3, .int (nI f1)), (0, .ref mm), (1, .int (nI x0))]) hx hb dX11_meets_56 hl (k := 1) rfl (nI_1 _) (by decide) rfl (fun ls hl => ?_)
              refine lv_goto (tgt := 31) hx hb dX11_meets_59 (by decide) ?_
              exact ih_31 _ (by omega) (g1 + 1) (acc2 + 0) rfl (by omega) (by rw [ha2, psum, cz_8]; rfl) _ _ ls hP hD hS (lv_sub hl [0, 2, 1, 3, 4] rfl)
            refine lv_iconst (v := (nI 1)) hx hb dX11_meets_49 (by decide) ?_
            refine lv_goto (tgt := 54) hx hb dX11_meets_50 (by decide) ?_
            refine lv_iadd hx hb dX11_meets_54 ?_
            refine ck_top (y := (nI (acc2 + 1))) (nI_add _ _) ?_
            refine lv_istore_n (lv' := [(2, .int (nI (acc2 + 1))), (4, .int (nI g1)), (3, .int (nI f1)), (0, .ref mm), (1, .int (nI x0))]) hx hb dX11_meets_55 rfl hl (by decide) rfl (fun ls hl => ?_)
            refine lv_iinc (v := (nI (g1 + 1))) (lv' := [(4, .int (nI (g1 + 1))), (2, .int (nI (acc2 + 1))), (3, .int (nI f1)), (0, .ref mm), (1, .int (nI x0))]) hx hb dX11_meets_56 hl (k := 1) rfl (nI_1 _) (by decide) rfl (fun ls hl => ?_)
            refine lv_goto (tgt := 31) hx hb dX11_meets_59 (by decide) ?_
            exact ih_31 _ (by omega) (g1 + 1) (acc2 + 1) rfl (by omega) (by rw [ha2, psum, cz_8]; rfl) _ _ ls hP hD hS (lv_sub hl [0, 2, 1, 3, 4] rfl)
        exact lp_31 _ 0 acc rfl (by omega) (by rw [ha]; rfl) _ _ ls hP hD hS hl
    exact lp_18 _ 0 0 rfl (by omega) rfl _ _ ls hP hD hS hl
  refine lv_aload_n hx hb dX11_meets_7 rfl (lv_at hl 0 rfl) ?_
  refine lv_ldc (own := RX11) (v := (-100001)) hx hb hown (hg _ k4_81) dX11_meets_8 ?_
  refine ck_Vi (As := [.int (-100001)]) (rest := []) (wr := [(an, .inl (N.2 0, 572, .inl nw)), (ae, .inl (N.2 0, 8, .inl ea)), (ao, .inl (N.2 0, 8, .inl no))]) C0 hP hD hS (c_X11_finds l N mm an ak ab az as_ ae ao ar aw al am af ac ke kn fd mn (-100001) ) myX11_finds k4_67 ⟨Nat.le_of_ble_eq_true rfl, Nat.le_of_ble_eq_true rfl⟩ [0] [1, 2, 3] ⟨⟨rfl, rfl⟩, by decide, by decide, by decide⟩ 0 rfl rfl rfl rfl hl.1 rfl (Nat.le_of_ble_eq_true rfl) dX11_meets_10 ⟨Nat.le_of_ble_eq_true rfl, Nat.le_of_ble_eq_true rfl⟩ (fun r_9 u0 H locs hw0 hP hD hS => ?_)
  have hw_10 : r_9 = (-100001) := hw0
  subst hw_10
  have hP : va_P N.1 vwCl [(an, .inl (N.2 0, 572, .inl nw)), (ae, .inl (N.2 0, 8, .inl ea)), (ao, .inl (N.2 0, 8, .inl no)), (mm, .inr (11, [.ref an, .ref ak, .int (nI ke), .int (nI kn), .int (fd + nI 1), .ref ab, .ref az, .ref as_, .ref ae, .ref ao, .ref ar, .ref aw, .ref al, .ref am, .int (nI mn), .ref af, .ref ac]))] H := hP
  have hD : va_D Ag [(an, .inl (N.2 0, 572, .inl nw)), (ae, .inl (N.2 0, 8, .inl ea)), (ao, .inl (N.2 0, 8, .inl no)), (mm, .inr (11, [.ref an, .ref ak, .int (nI ke), .int (nI kn), .int (fd + nI 1), .ref ab, .ref az, .ref as_, .ref ae, .ref ao, .ref ar, .ref aw, .ref al, .ref am, .int (nI mn), .ref af, .ref ac]))] := hD
  exact ck_iret hx hb hrt hlk ((fd + nI 1)) (ckRd_f (by simp [miF, cz_3]) (by decide)) (hP.sub [3, 0, 1, 2] rfl) (hD.sub [3, 0, 1, 2] (by decide) rfl) hS ⟨Nat.le_of_ble_eq_true rfl, Nat.le_of_ble_eq_true rfl⟩ dX11_meets_13
set_option maxHeartbeats 4000000 in
set_option maxRecDepth 100000 in
/-- X11_field -/
theorem c_X11_field (l : Launch) (N : ckN) (mm : Nat) (an : Nat) (ak : Nat) (ab : Nat) (az : Nat) (as_ : Nat) (ae : Nat) (ao : Nat) (ar : Nat) (aw : Nat) (al : Nat) (am : Nat) (af : Nat) (ac : Nat) (ke : Nat) (kn : Nat) (fd : Int32) (mn : Nat) (nw : Nat → Int32) (ea : Nat → Int32) (no : Nat → Int32) (ne : Nat → Int32) (cf : Nat) (n : Nat) (wk : Int32) (tr : Nat → Int32) (di : Nat → Int32) (fo : Nat → Int32) (w : Nat → List Nat) (sdf : Nat → Int32) (wof : Nat → Int32) (shf : Nat → Int32) (twf : Nat → Int32) (kd : Nat → Nat) (ht : Nat → Nat) (dr : Nat → Nat) (x : Int32) (hV : mV nw cf n wk tr di fo w sdf wof shf twf) (hAir : ckAir tr di cf kd ht dr) (hTr : ckTr tr cf) (hFo : ckFo fo) (hea : ∀ j, j < 8 → ea j = ckSX j) (hno : ∀ j, j < 8 → no j = ckSY j) : ckI l yX11_field cX11_field 2 (some FieldType.int) { frames := 7, cells := 0, slots := 0, locals := 178 } N [.ref mm, .int x] [(mm, .inr (11, [.ref an, .ref ak, .int (nI ke), .int (nI kn), .int fd, .ref ab, .ref az, .ref as_, .ref ae, .ref ao, .ref ar, .ref aw, .ref al, .ref am, .int (nI mn), .ref af, .ref ac])), (an, .inl (N.2 0, 572, .inl nw)), (ae, .inl (N.2 0, 8, .inl ea)), (ao, .inl (N.2 0, 8, .inl no)), (ar, .inl (N.2 0, 8, .inl ne))] (fun (r : Int32) (u : Int32 × (Nat → Int32)) => ckRd (miF x) (nI (ckField (fun f => fFly tr fo kd ht f (ix x)) (fun f g => fNear tr fo kd ht dr f g (ix x)) cf)) fd r u.1) (fun (u : Int32 × (Nat → Int32)) => [(mm, .inr (11, [.ref an, .ref ak, .int (nI ke), .int (nI kn), .int u.1, .ref ab, .ref az, .ref as_, .ref ae, .ref ao, .ref ar, .ref aw, .ref al, .ref am, .int (nI mn), .ref af, .ref ac])), (an, .inl (N.2 0, 572, .inl nw)), (ae, .inl (N.2 0, 8, .inl ea)), (ao, .inl (N.2 0, 8, .inl no)), (ar, .inl (N.2 0, 8, .inl u.2))]) := by
  refine ckI.of (by decide) (Nat.le_of_ble_eq_true rfl) ?_
  intro pg eg sg mg blw mth cg Ag ls hx hb hrt hml hown hlk hin hg hE hA hP hD hS hl
  have hown : sg.vm.findClass RX11 = some mg.cls := hown
  have hl : lv_has ls 2 [(0, .ref mm), (1, .int x)] := hl
  have C0 : ckC pg sg mg ([.ref mm, .int x]).toArray cg cX11_field 2 RX11 N Ag := ⟨⟨hx, hb, hml, hown, hg⟩, hE, hA⟩
  generalize hHe : sg.heap = H at hP
  have hS : va_S Ag sg.heap H [] := hHe ▸ hS
  refine lv_iload_n hx hb dX11_field_0 rfl (lv_at hl 1 rfl) ?_
  refine ck_Si (As := [.int x]) (rest := []) (wr := [(mm, .inr (11, [.ref an, .ref ak, .int (nI ke), .int (nI kn), .int fd, .ref ab, .ref az, .ref as_, .ref ae, .ref ao, .ref ar, .ref aw, .ref al, .ref am, .int (nI mn), .ref af, .ref ac])), (an, .inl (N.2 0, 572, .inl nw)), (ae, .inl (N.2 0, 8, .inl ea)), (ao, .inl (N.2 0, 8, .inl no)), (ar, .inl (N.2 0, 8, .inl ne))]) C0 hP hD hS (c_X11_isMinute l N x ) myX11_isMinute k4_117 ⟨Nat.le_of_ble_eq_true rfl, Nat.le_of_ble_eq_true rfl⟩ [] [0, 1, 2, 3, 4] ⟨⟨rfl, rfl⟩, by decide, by decide, by decide⟩ rfl hl.1 rfl (Nat.le_of_ble_eq_true rfl) dX11_field_1 ⟨Nat.le_of_ble_eq_true rfl, Nat.le_of_ble_eq_true rfl⟩ (fun r_1 u0 H locs hw0 hP hD hS => ?_)
  have hw_2 : r_1 = (b2i (ckIn x (nI 0) (nI 19))) := hw0
  subst hw_2
  have hP : va_P N.1 vwCl [(mm, .inr (11, [.ref an, .ref ak, .int (nI ke), .int (nI kn), .int fd, .ref ab, .ref az, .ref as_, .ref ae, .ref ao, .ref ar, .ref aw, .ref al, .ref am, .int (nI mn), .ref af, .ref ac])), (an, .inl (N.2 0, 572, .inl nw)), (ae, .inl (N.2 0, 8, .inl ea)), (ao, .inl (N.2 0, 8, .inl no)), (ar, .inl (N.2 0, 8, .inl ne))] H := hP
  have hD : va_D Ag [(mm, .inr (11, [.ref an, .ref ak, .int (nI ke), .int (nI kn), .int fd, .ref ab, .ref az, .ref as_, .ref ae, .ref ao, .ref ar, .ref aw, .ref al, .ref am, .int (nI mn), .ref af, .ref ac])), (an, .inl (N.2 0, 572, .inl nw)), (ae, .inl (N.2 0, 8, .inl ea)), (ao, .inl (N.2 0, 8, .inl no)), (ar, .inl (N.2 0, 8, .inl ne))] := hD
  refine ck_ifeq (b := ckIn x (nI 0) (nI 19)) (tgt := 15) hx hb dX11_field_4 (by decide) (fun cz_3 => ?_) (fun cz_3 => ?_)
  · refine lv_aload_n hx hb dX11_field_15 rfl (lv_at hl 0 rfl) ?_
    refine lv_ldc (own := RX11) (v := (-100001)) hx hb hown (hg _ k4_81) dX11_field_16 ?_
    refine ck_Vi (As := [.int (-100001)]) (rest := []) (wr := [(an, .inl (N.2 0, 572, .inl nw)), (ae, .inl (N.2 0, 8, .inl ea)), (ao, .inl (N.2 0, 8, .inl no)), (ar, .inl (N.2 0, 8, .inl ne))]) C0 hP hD hS (c_X11_finds l N mm an ak ab az as_ ae ao ar aw al am af ac ke kn fd mn (-100001) ) myX11_finds k4_67 ⟨Nat.le_of_ble_eq_true rfl, Nat.le_of_ble_eq_true rfl⟩ [0] [1, 2, 3, 4] ⟨⟨rfl, rfl⟩, by decide, by decide, by decide⟩ 0 rfl rfl rfl rfl hl.1 rfl (Nat.le_of_ble_eq_true rfl) dX11_field_18 ⟨Nat.le_of_ble_eq_true rfl, Nat.le_of_ble_eq_true rfl⟩ (fun r_4 u0 H locs hw0 hP hD hS => ?_)
    have hw_5 : r_4 = (-100001) := hw0
    subst hw_5
    have hP : va_P N.1 vwCl [(an, .inl (N.2 0, 572, .inl nw)), (ae, .inl (N.2 0, 8, .inl ea)), (ao, .inl (N.2 0, 8, .inl no)), (ar, .inl (N.2 0, 8, .inl ne)), (mm, .inr (11, [.ref an, .ref ak, .int (nI ke), .int (nI kn), .int (fd + nI 1), .ref ab, .ref az, .ref as_, .ref ae, .ref ao, .ref ar, .ref aw, .ref al, .ref am, .int (nI mn), .ref af, .ref ac]))] H := hP
    have hD : va_D Ag [(an, .inl (N.2 0, 572, .inl nw)), (ae, .inl (N.2 0, 8, .inl ea)), (ao, .inl (N.2 0, 8, .inl no)), (ar, .inl (N.2 0, 8, .inl ne)), (mm, .inr (11, [.ref an, .ref ak, .int (nI ke), .int (nI kn), .int (fd + nI 1), .ref ab, .ref az, .ref as_, .ref ae, .ref ao, .ref ar, .ref aw, .ref al, .ref am, .int (nI mn), .ref af, .ref ac]))] := hD
    exact ck_iret hx hb hrt hlk ⟨(fd + nI 1), ne⟩ (ckRd_f (by simp [miF, cz_3]) (by decide)) (hP.sub [4, 0, 1, 2, 3] rfl) (hD.sub [4, 0, 1, 2, 3] (by decide) rfl) hS ⟨Nat.le_of_ble_eq_true rfl, Nat.le_of_ble_eq_true rfl⟩ dX11_field_21
  obtain ⟨i, -, hi, rfl⟩ := (ckIn_n (by decide) (by decide)).mp cz_3
  have exi : ix (nI i) = i := ix_nI (by omega)
  refine lv_aload_n hx hb dX11_field_7 rfl (lv_at hl 0 rfl) ?_
  refine lv_iload_n hx hb dX11_field_8 rfl (lv_at hl 1 rfl) ?_
  refine ck_Vi (As := [.int (nI i)]) (rest := []) (wr := []) C0 hP hD hS (c_X11_fieldOf l N mm an ak ab az as_ ae ao ar aw al am af ac ke kn fd mn nw ea no ne cf n wk tr di fo w sdf wof shf twf kd ht dr i hV hAir hTr hFo hea hno (by omega)) myX11_fieldOf k4_163 ⟨Nat.le_of_ble_eq_true rfl, Nat.le_of_ble_eq_true rfl⟩ [0, 1, 2, 3, 4] [] ⟨⟨rfl, rfl⟩, by decide, by decide, by decide⟩ 0 rfl rfl rfl rfl hl.1 rfl (Nat.le_of_ble_eq_true rfl) dX11_field_9 ⟨Nat.le_of_ble_eq_true rfl, Nat.le_of_ble_eq_true rfl⟩ (fun r_6 u0 H locs hw0 hP hD hS => ?_)
  obtain ⟨ne4_7, rfl⟩ : ∃ z, z = u0 := ⟨_, rfl⟩
  have hw_8 : r_6 = (nI (ckField (fun f => fFly tr fo kd ht f i) (fun f g => fNear tr fo kd ht dr f g i) cf)) := hw0
  subst hw_8
  have hP : va_P N.1 vwCl [(mm, .inr (11, [.ref an, .ref ak, .int (nI ke), .int (nI kn), .int fd, .ref ab, .ref az, .ref as_, .ref ae, .ref ao, .ref ar, .ref aw, .ref al, .ref am, .int (nI mn), .ref af, .ref ac])), (an, .inl (N.2 0, 572, .inl nw)), (ae, .inl (N.2 0, 8, .inl ea)), (ao, .inl (N.2 0, 8, .inl no)), (ar, .inl (N.2 0, 8, .inl ne4_7))] H := hP
  have hD : va_D Ag [(mm, .inr (11, [.ref an, .ref ak, .int (nI ke), .int (nI kn), .int fd, .ref ab, .ref az, .ref as_, .ref ae, .ref ao, .ref ar, .ref aw, .ref al, .ref am, .int (nI mn), .ref af, .ref ac])), (an, .inl (N.2 0, 572, .inl nw)), (ae, .inl (N.2 0, 8, .inl ea)), (ao, .inl (N.2 0, 8, .inl no)), (ar, .inl (N.2 0, 8, .inl ne4_7))] := hD
  refine lv_goto (tgt := 21) hx hb dX11_field_12 (by decide) ?_
  exact ck_iret hx hb hrt hlk ⟨fd, ne4_7⟩ (ckRd_ok (by simp [miF, cz_3, exi]) (by rw [exi])) hP hD hS ⟨Nat.le_of_ble_eq_true rfl, Nat.le_of_ble_eq_true rfl⟩ dX11_field_21
set_option maxHeartbeats 4000000 in
set_option maxRecDepth 100000 in
/-- X11_best -/
theorem c_X11_best (l : Launch) (N : ckN) (mm : Nat) (an : Nat) (ak : Nat) (ab : Nat) (az : Nat) (as_ : Nat) (ae : Nat) (ao : Nat) (ar : Nat) (aw : Nat) (al : Nat) (am : Nat) (af : Nat) (ac : Nat) (ke : Nat) (kn : Nat) (fd : Int32) (mn : Nat) (nw : Nat → Int32) (ea : Nat → Int32) (no : Nat → Int32) (ne : Nat → Int32) (cf : Nat) (n : Nat) (wk : Int32) (tr : Nat → Int32) (di : Nat → Int32) (fo : Nat → Int32) (w : Nat → List Nat) (sdf : Nat → Int32) (wof : Nat → Int32) (shf : Nat → Int32) (twf : Nat → Int32) (kd : Nat → Nat) (ht : Nat → Nat) (dr : Nat → Nat) (x : Int32) (y : Int32) (hV : mV nw cf n wk tr di fo w sdf wof shf twf) (hAir : ckAir tr di cf kd ht dr) (hTr : ckTr tr cf) (hFo : ckFo fo) (hea : ∀ j, j < 8 → ea j = ckSX j) (hno : ∀ j, j < 8 → no j = ckSY j) : ckI l yX11_best cX11_best 7 (some FieldType.int) { frames := 7, cells := 0, slots := 0, locals := 178 } N [.ref mm, .int x, .int y] [(mm, .inr (11, [.ref an, .ref ak, .int (nI ke), .int (nI kn), .int fd, .ref ab, .ref az, .ref as_, .ref ae, .ref ao, .ref ar, .ref aw, .ref al, .ref am, .int (nI mn), .ref af, .ref ac])), (an, .inl (N.2 0, 572, .inl nw)), (ae, .inl (N.2 0, 8, .inl ea)), (ao, .inl (N.2 0, 8, .inl no)), (ar, .inl (N.2 0, 8, .inl ne))] (fun (r : Int32) (u : Int32 × (Nat → Int32)) => ckRd (beF x y) (nI (bst (fun m => pop (ckField (fun f => fFly tr fo kd ht f m) (fun f g => fNear tr fo kd ht dr f g m) cf)) (ix x) (ix y + 1 - ix x))) fd r u.1) (fun (u : Int32 × (Nat → Int32)) => [(mm, .inr (11, [.ref an, .ref ak, .int (nI ke), .int (nI kn), .int u.1, .ref ab, .ref az, .ref as_, .ref ae, .ref ao, .ref ar, .ref aw, .ref al, .ref am, .int (nI mn), .ref af, .ref ac])), (an, .inl (N.2 0, 572, .inl nw)), (ae, .inl (N.2 0, 8, .inl ea)), (ao, .inl (N.2 0, 8, .inl no)), (ar, .inl (N.2 0, 8, .inl u.2))]) := by
  refine ckI.of (by decide) (Nat.le_of_ble_eq_true rfl) ?_
  intro pg eg sg mg blw mth cg Ag ls hx hb hrt hml hown hlk hin hg hE hA hP hD hS hl
  have hown : sg.vm.findClass RX11 = some mg.cls := hown
  have hl : lv_has ls 7 [(0, .ref mm), (1, .int x), (2, .int y)] := hl
  have C0 : ckC pg sg mg ([.ref mm, .int x, .int y]).toArray cg cX11_best 7 RX11 N Ag := ⟨⟨hx, hb, hml, hown, hg⟩, hE, hA⟩
  generalize hHe : sg.heap = H at hP
  have hS : va_S Ag sg.heap H [] := hHe ▸ hS
  have hn8 := hAir.1
  refine lv_iload_n hx hb dX11_best_0 rfl (lv_at hl 1 rfl) ?_
  refine ck_Si (As := [.int x]) (rest := []) (wr := [(mm, .inr (11, [.ref an, .ref ak, .int (nI ke), .int (nI kn), .int fd, .ref ab, .ref az, .ref as_, .ref ae, .ref ao, .ref ar, .ref aw, .ref al, .ref am, .int (nI mn), .ref af, .ref ac])), (an, .inl (N.2 0, 572, .inl nw)), (ae, .inl (N.2 0, 8, .inl ea)), (ao, .inl (N.2 0, 8, .inl no)), (ar, .inl (N.2 0, 8, .inl ne))]) C0 hP hD hS (c_X11_isMinute l N x ) myX11_isMinute k4_117 ⟨Nat.le_of_ble_eq_true rfl, Nat.le_of_ble_eq_true rfl⟩ [] [0, 1, 2, 3, 4] ⟨⟨rfl, rfl⟩, by decide, by decide, by decide⟩ rfl hl.1 rfl (Nat.le_of_ble_eq_true rfl) dX11_best_1 ⟨Nat.le_of_ble_eq_true rfl, Nat.le_of_ble_eq_true rfl⟩ (fun r_1 u0 H locs hw0 hP hD hS => ?_)
  have hw_2 : r_1 = (b2i (ckIn x (nI 0) (nI 19))) := hw0
  subst hw_2
  have hP : va_P N.1 vwCl [(mm, .inr (11, [.ref an, .ref ak, .int (nI ke), .int (nI kn), .int fd, .ref ab, .ref az, .ref as_, .ref ae, .ref ao, .ref ar, .ref aw, .ref al, .ref am, .int (nI mn), .ref af, .ref ac])), (an, .inl (N.2 0, 572, .inl nw)), (ae, .inl (N.2 0, 8, .inl ea)), (ao, .inl (N.2 0, 8, .inl no)), (ar, .inl (N.2 0, 8, .inl ne))] H := hP
  have hD : va_D Ag [(mm, .inr (11, [.ref an, .ref ak, .int (nI ke), .int (nI kn), .int fd, .ref ab, .ref az, .ref as_, .ref ae, .ref ao, .ref ar, .ref aw, .ref al, .ref am, .int (nI mn), .ref af, .ref ac])), (an, .inl (N.2 0, 572, .inl nw)), (ae, .inl (N.2 0, 8, .inl ea)), (ao, .inl (N.2 0, 8, .inl no)), (ar, .inl (N.2 0, 8, .inl ne))] := hD
  refine ck_ifeq (b := ckIn x (nI 0) (nI 19)) (tgt := 19) hx hb dX11_best_4 (by decide) (fun cz_3 => ?_) (fun cz_3 => ?_)
  · refine lv_aload_n hx hb dX11_best_19 rfl (lv_at hl 0 rfl) ?_
    refine lv_ldc (own := RX11) (v := (-100001)) hx hb hown (hg _ k4_81) dX11_best_20 ?_
    refine ck_Vi (As := [.int (-100001)]) (rest := []) (wr := [(an, .inl (N.2 0, 572, .inl nw)), (ae, .inl (N.2 0, 8, .inl ea)), (ao, .inl (N.2 0, 8, .inl no)), (ar, .inl (N.2 0, 8, .inl ne))]) C0 hP hD hS (c_X11_finds l N mm an ak ab az as_ ae ao ar aw al am af ac ke kn fd mn (-100001) ) myX11_finds k4_67 ⟨Nat.le_of_ble_eq_true rfl, Nat.le_of_ble_eq_true rfl⟩ [0] [1, 2, 3, 4] ⟨⟨rfl, rfl⟩, by decide, by decide, by decide⟩ 0 rfl rfl rfl rfl hl.1 rfl (Nat.le_of_ble_eq_true rfl) dX11_best_22 ⟨Nat.le_of_ble_eq_true rfl, Nat.le_of_ble_eq_true rfl⟩ (fun r_4 u0 H locs hw0 hP hD hS => ?_)
    have hw_5 : r_4 = (-100001) := hw0
    subst hw_5
    have hP : va_P N.1 vwCl [(an, .inl (N.2 0, 572, .inl nw)), (ae, .inl (N.2 0, 8, .inl ea)), (ao, .inl (N.2 0, 8, .inl no)), (ar, .inl (N.2 0, 8, .inl ne)), (mm, .inr (11, [.ref an, .ref ak, .int (nI ke), .int (nI kn), .int (fd + nI 1), .ref ab, .ref az, .ref as_, .ref ae, .ref ao, .ref ar, .ref aw, .ref al, .ref am, .int (nI mn), .ref af, .ref ac]))] H := hP
    have hD : va_D Ag [(an, .inl (N.2 0, 572, .inl nw)), (ae, .inl (N.2 0, 8, .inl ea)), (ao, .inl (N.2 0, 8, .inl no)), (ar, .inl (N.2 0, 8, .inl ne)), (mm, .inr (11, [.ref an, .ref ak, .int (nI ke), .int (nI kn), .int (fd + nI 1), .ref ab, .ref az, .ref as_, .ref ae, .ref ao, .ref ar, .ref aw, .ref al, .ref am, .int (nI mn), .ref af, .ref ac]))] := hD
    exact ck_iret hx hb hrt hlk ⟨(fd + nI 1), ne⟩ (ckRd_f (by simp [beF, cz_3]) (by decide)) (hP.sub [4, 0, 1, 2, 3] rfl) (hD.sub [4, 0, 1, 2, 3] (by decide) rfl) hS ⟨Nat.le_of_ble_eq_true rfl, Nat.le_of_ble_eq_true rfl⟩ dX11_best_25
  refine lv_iload_n hx hb dX11_best_7 rfl (lv_at hl 2 rfl) ?_
  refine ck_Si (As := [.int y]) (rest := []) (wr := [(mm, .inr (11, [.ref an, .ref ak, .int (nI ke), .int (nI kn), .int fd, .ref ab, .ref az, .ref as_, .ref ae, .ref ao, .ref ar, .ref aw, .ref al, .ref am, .int (nI mn), .ref af, .ref ac])), (an, .inl (N.2 0, 572, .inl nw)), (ae, .inl (N.2 0, 8, .inl ea)), (ao, .inl (N.2 0, 8, .inl no)), (ar, .inl (N.2 0, 8, .inl ne))]) C0 hP hD hS (c_X11_isMinute l N y ) myX11_isMinute k4_117 ⟨Nat.le_of_ble_eq_true rfl, Nat.le_of_ble_eq_true rfl⟩ [] [0, 1, 2, 3, 4] ⟨⟨rfl, rfl⟩, by decide, by decide, by decide⟩ rfl hl.1 rfl (Nat.le_of_ble_eq_true rfl) dX11_best_8 ⟨Nat.le_of_ble_eq_true rfl, Nat.le_of_ble_eq_true rfl⟩ (fun r_6 u0 H locs hw0 hP hD hS => ?_)
  have hw_7 : r_6 = (b2i (ckIn y (nI 0) (nI 19))) := hw0
  subst hw_7
  have hP : va_P N.1 vwCl [(mm, .inr (11, [.ref an, .ref ak, .int (nI ke), .int (nI kn), .int fd, .ref ab, .ref az, .ref as_, .ref ae, .ref ao, .ref ar, .ref aw, .ref al, .ref am, .int (nI mn), .ref af, .ref ac])), (an, .inl (N.2 0, 572, .inl nw)), (ae, .inl (N.2 0, 8, .inl ea)), (ao, .inl (N.2 0, 8, .inl no)), (ar, .inl (N.2 0, 8, .inl ne))] H := hP
  have hD : va_D Ag [(mm, .inr (11, [.ref an, .ref ak, .int (nI ke), .int (nI kn), .int fd, .ref ab, .ref az, .ref as_, .ref ae, .ref ao, .ref ar, .ref aw, .ref al, .ref am, .int (nI mn), .ref af, .ref ac])), (an, .inl (N.2 0, 572, .inl nw)), (ae, .inl (N.2 0, 8, .inl ea)), (ao, .inl (N.2 0, 8, .inl no)), (ar, .inl (N.2 0, 8, .inl ne))] := hD
  refine ck_ifeq (b := ckIn y (nI 0) (nI 19)) (tgt := 19) hx hb dX11_best_11 (by decide) (fun cz_8 => ?_) (fun cz_8 => ?_)
  · refine lv_aload_n hx hb dX11_best_19 rfl (lv_at hl 0 rfl) ?_
    refine lv_ldc (own := RX11) (v := (-100001)) hx hb hown (hg _ k4_81) dX11_best_20 ?_
    refine ck_Vi (As := [.int (-100001)]) (rest := []) (wr := [(an, .inl (N.2 0, 572, .inl nw)), (ae, .inl (N.2 0, 8, .inl ea)), (ao, .inl (N.2 0, 8, .inl no)), (ar, .inl (N.2 0, 8, .inl ne))]) C0 hP hD hS (c_X11_finds l N mm an ak ab az as_ ae ao ar aw al am af ac ke kn fd mn (-100001) ) myX11_finds k4_67 ⟨Nat.le_of_ble_eq_true rfl, Nat.le_of_ble_eq_true rfl⟩ [0] [1, 2, 3, 4] ⟨⟨rfl, rfl⟩, by decide, by decide, by decide⟩ 0 rfl rfl rfl rfl hl.1 rfl (Nat.le_of_ble_eq_true rfl) dX11_best_22 ⟨Nat.le_of_ble_eq_true rfl, Nat.le_of_ble_eq_true rfl⟩ (fun r_9 u0 H locs hw0 hP hD hS => ?_)
    have hw_10 : r_9 = (-100001) := hw0
    subst hw_10
    have hP : va_P N.1 vwCl [(an, .inl (N.2 0, 572, .inl nw)), (ae, .inl (N.2 0, 8, .inl ea)), (ao, .inl (N.2 0, 8, .inl no)), (ar, .inl (N.2 0, 8, .inl ne)), (mm, .inr (11, [.ref an, .ref ak, .int (nI ke), .int (nI kn), .int (fd + nI 1), .ref ab, .ref az, .ref as_, .ref ae, .ref ao, .ref ar, .ref aw, .ref al, .ref am, .int (nI mn), .ref af, .ref ac]))] H := hP
    have hD : va_D Ag [(an, .inl (N.2 0, 572, .inl nw)), (ae, .inl (N.2 0, 8, .inl ea)), (ao, .inl (N.2 0, 8, .inl no)), (ar, .inl (N.2 0, 8, .inl ne)), (mm, .inr (11, [.ref an, .ref ak, .int (nI ke), .int (nI kn), .int (fd + nI 1), .ref ab, .ref az, .ref as_, .ref ae, .ref ao, .ref ar, .ref aw, .ref al, .ref am, .int (nI mn), .ref af, .ref ac]))] := hD
    exact ck_iret hx hb hrt hlk ⟨(fd + nI 1), ne⟩ (ckRd_f (by simp [beF, cz_3, cz_8]) (by decide)) (hP.sub [4, 0, 1, 2, 3] rfl) (hD.sub [4, 0, 1, 2, 3] (by decide) rfl) hS ⟨Nat.le_of_ble_eq_true rfl, Nat.le_of_ble_eq_true rfl⟩ dX11_best_25
  refine lv_iload_n hx hb dX11_best_14 rfl (lv_at hl 1 rfl) ?_
  refine lv_iload_n hx hb dX11_best_15 rfl (lv_at hl 2 rfl) ?_
  refine lv_icmp_le (tgt := 26) hx hb dX11_best_16 (by decide) (fun cz_11 => ?_) (fun cz_11 => ?_)
  · have hf1 := cz_3
    have hf2 := cz_8
    have hf3 := cz_11
    obtain ⟨i, -, hi, rfl⟩ := (ckIn_n (by decide) (by decide)).mp hf1
    have exi : ix (nI i) = i := ix_nI (by omega)
    obtain ⟨j, -, hj, rfl⟩ := (ckIn_n (by decide) (by decide)).mp hf2
    have exj : ix (nI j) = j := ix_nI (by omega)
    have hij : i ≤ j := (nI_leI (by omega) (by omega)).mp hf3
    refine lv_iload_n hx hb dX11_best_26 rfl (lv_at hl 1 rfl) ?_
    refine lv_istore_n (lv' := [(3, .int (nI i)), (0, .ref mm), (1, .int (nI i)), (2, .int (nI j))]) hx hb dX11_best_27 rfl hl (by decide) rfl (fun ls hl => ?_)
    refine lv_iconst (v := (-1)) hx hb dX11_best_28 (by decide) ?_
    refine lv_istore (lv' := [(4, .int (-1)), (3, .int (nI i)), (0, .ref mm), (1, .int (nI i)), (2, .int (nI j))]) hx hb dX11_best_29 hl (by decide) rfl (fun ls hl => ?_)
    refine lv_iload_n hx hb dX11_best_31 rfl (lv_at hl 3 rfl) ?_
    refine lv_istore (lv' := [(5, .int (nI i)), (4, .int (-1)), (3, .int (nI i)), (0, .ref mm), (1, .int (nI i)), (2, .int (nI j))]) hx hb dX11_best_32 hl (by decide) rfl (fun ls hl => ?_)
    have lp_34 : ∀ (dz : Nat) (m1 : Nat) (fdd : Nat) (mo : Int32) (ne1 : Nat → Int32) (hdz : j + 1 - m1 = dz) (hm1 : i ≤ m1 ∧ m1 ≤ j + 1) (hmo : (m1 = i ∧ mo = -1) ∨ (i < m1 ∧ mo = nI ((fun m => pop (ckField (fun f => fFly tr fo kd ht f m) (fun f g => fNear tr fo kd ht dr f g m) cf)) fdd))) (hfd : fdd = bst (fun m => pop (ckField (fun f => fFly tr fo kd ht f m) (fun f g => fNear tr fo kd ht dr f g m) cf)) i (m1 - i)) (H : Heap) (locs : List Loc) (ls : Array Slot), va_P N.1 vwCl [(mm, .inr (11, [.ref an, .ref ak, .int (nI ke), .int (nI kn), .int fd, .ref ab, .ref az, .ref as_, .ref ae, .ref ao, .ref ar, .ref aw, .ref al, .ref am, .int (nI mn), .ref af, .ref ac])), (an, .inl (N.2 0, 572, .inl nw)), (ae, .inl (N.2 0, 8, .inl ea)), (ao, .inl (N.2 0, 8, .inl no)), (ar, .inl (N.2 0, 8, .inl ne1))] H → va_D Ag [(mm, .inr (11, [.ref an, .ref ak, .int (nI ke), .int (nI kn), .int fd, .ref ab, .ref az, .ref as_, .ref ae, .ref ao, .ref ar, .ref aw, .ref al, .ref am, .int (nI mn), .ref af, .ref ac])), (an, .inl (N.2 0, 572, .inl nw)), (ae, .inl (N.2 0, 8, .inl ea)), (ao, .inl (N.2 0, 8, .inl no)), (ar, .inl (N.2 0, 8, .inl ne1))] → va_S Ag sg.heap H locs → lv_has ls 7 [(5, .int (nI m1)), (4, .int mo), (3, .int (nI fdd)), (0, .ref mm), (1, .int (nI i)), (2, .int (nI j))] → W pg l eg { frames := 7, cells := 0, slots := 0, locals := 178 } sg mg ([.ref mm, .int (nI i), .int (nI j)]).toArray blw mth cg H locs 0 0 (ckQi N Ag blw sg ([.ref mm, .int (nI i), .int (nI j)]).toArray { frames := 7, cells := 0, slots := 0, locals := 178 } (fun (r : Int32) (u : Int32 × (Nat → Int32)) => ckRd (beF (nI i) (nI j)) (nI (bst (fun m => pop (ckField (fun f => fFly tr fo kd ht f m) (fun f g => fNear tr fo kd ht dr f g m) cf)) (ix (nI i)) (ix (nI j) + 1 - ix (nI i)))) fd r u.1) (fun (u : Int32 × (Nat → Int32)) => [(mm, .inr (11, [.ref an, .ref ak, .int (nI ke), .int (nI kn), .int u.1, .ref ab, .ref az, .ref as_, .ref ae, .ref ao, .ref ar, .ref aw, .ref al, .ref am, .int (nI mn), .ref af, .ref ac])), (an, .inl (N.2 0, 572, .inl nw)), (ae, .inl (N.2 0, 8, .inl ea)), (ao, .inl (N.2 0, 8, .inl no)), (ar, .inl (N.2 0, 8, .inl u.2))])) (F0 mg 34 ls []) := by
      intro dz
      induction dz using Nat.strongRecOn with
      | _ dz ih_34 =>
        intro m1 fdd mo ne1 hdz hm1 hmo hfd H locs ls hP hD hS hl
        subst hdz
        refine lv_iload hx hb dX11_best_34 (lv_at hl 0 rfl) ?_
        refine lv_iload_n hx hb dX11_best_36 rfl (lv_at hl 5 rfl) ?_
        refine ck_ic_gt (tgt := 74) hx hb dX11_best_37 (by decide) (by omega) (by omega) (fun cz_12 => ?_) (fun cz_12 => ?_)
        · refine lv_iload_n hx hb dX11_best_74 rfl (lv_at hl 2 rfl) ?_
          exact ck_iret hx hb hrt hlk ⟨fd, ne1⟩ (ckRd_ok (by simp [beF, hf1, hf2, hf3]) (by rw [exi, exj, hfd, (show m1 = j + 1 by omega)])) hP hD hS ⟨Nat.le_of_ble_eq_true rfl, Nat.le_of_ble_eq_true rfl⟩ dX11_best_75
        refine lv_aload_n hx hb dX11_best_40 rfl (lv_at hl 3 rfl) ?_
        refine lv_iload hx hb dX11_best_41 (lv_at hl 0 rfl) ?_
        refine ck_Vi (As := [.int (nI m1)]) (rest := []) (wr := []) C0 hP hD hS (c_X11_fieldOf l N mm an ak ab az as_ ae ao ar aw al am af ac ke kn fd mn nw ea no ne1 cf n wk tr di fo w sdf wof shf twf kd ht dr m1 hV hAir hTr hFo hea hno (by omega)) myX11_fieldOf k4_163 ⟨Nat.le_of_ble_eq_true rfl, Nat.le_of_ble_eq_true rfl⟩ [0, 1, 2, 3, 4] [] ⟨⟨rfl, rfl⟩, by decide, by decide, by decide⟩ 0 rfl rfl rfl rfl hl.1 rfl (Nat.le_of_ble_eq_true rfl) dX11_best_43 ⟨Nat.le_of_ble_eq_true rfl, Nat.le_of_ble_eq_true rfl⟩ (fun r_13 u0 H locs hw0 hP hD hS => ?_)
        obtain ⟨ne4_14, rfl⟩ : ∃ z, z = u0 := ⟨_, rfl⟩
        have hw_15 : r_13 = (nI (ckField (fun f => fFly tr fo kd ht f m1) (fun f g => fNear tr fo kd ht dr f g m1) cf)) := hw0
        subst hw_15
        have hP : va_P N.1 vwCl [(mm, .inr (11, [.ref an, .ref ak, .int (nI ke), .int (nI kn), .int fd, .ref ab, .ref az, .ref as_, .ref ae, .ref ao, .ref ar, .ref aw, .ref al, .ref am, .int (nI mn), .ref af, .ref ac])), (an, .inl (N.2 0, 572, .inl nw)), (ae, .inl (N.2 0, 8, .inl ea)), (ao, .inl (N.2 0, 8, .inl no)), (ar, .inl (N.2 0, 8, .inl ne4_14))] H := hP
        have hD : va_D Ag [(mm, .inr (11, [.ref an, .ref ak, .int (nI ke), .int (nI kn), .int fd, .ref ab, .ref az, .ref as_, .ref ae, .ref ao, .ref ar, .ref aw, .ref al, .ref am, .int (nI mn), .ref af, .ref ac])), (an, .inl (N.2 0, 572, .inl nw)), (ae, .inl (N.2 0, 8, .inl ea)), (ao, .inl (N.2 0, 8, .inl no)), (ar, .inl (N.2 0, 8, .inl ne4_14))] := hD
        refine ck_Si (As := [.int (nI (ckField (fun f => fFly tr fo kd ht f m1) (fun f g => fNear tr fo kd ht dr f g m1) cf))]) (rest := []) (wr := [(mm, .inr (11, [.ref an, .ref ak, .int (nI ke), .int (nI kn), .int fd, .ref ab, .ref az, .ref as_, .ref ae, .ref ao, .ref ar, .ref aw, .ref al, .ref am, .int (nI mn), .ref af, .ref ac])), (an, .inl (N.2 0, 572, .inl nw)), (ae, .inl (N.2 0, 8, .inl ea)), (ao, .inl (N.2 0, 8, .inl no)), (ar, .inl (N.2 0, 8, .inl ne4_14))]) C0 hP hD hS (c_X11_ones l N (ckField (fun f => fFly tr fo kd ht f m1) (fun f g => fNear tr fo kd ht dr f g m1) cf) (Nat.lt_of_le_of_lt (ckBest_le _ _ _) (Nat.lt_of_lt_of_le (bitsOf_lt _ cf) (Nat.le_trans (Nat.pow_le_pow_right (by decide) hn8) (by decide))))) myX11_ones k4_167 ⟨Nat.le_of_ble_eq_true rfl, Nat.le_of_ble_eq_true rfl⟩ [] [0, 1, 2, 3, 4] ⟨⟨rfl, rfl⟩, by decide, by decide, by decide⟩ rfl hl.1 rfl (Nat.le_of_ble_eq_true rfl) dX11_best_46 ⟨Nat.le_of_ble_eq_true rfl, Nat.le_of_ble_eq_true rfl⟩ (fun r_16 u0 H locs hw0 hP hD hS => ?_)
        have hw_17 : r_16 = (nI (pop (ckField (fun f => fFly tr fo kd ht f m1) (fun f g => fNear tr fo kd ht dr f g m1) cf))) := hw0
        subst hw_17
        have hP : va_P N.1 vwCl [(mm, .inr (11, [.ref an, .ref ak, .int (nI ke), .int (nI kn), .int fd, .ref ab, .ref az, .ref as_, .ref ae, .ref ao, .ref ar, .ref aw, .ref al, .ref am, .int (nI mn), .ref af, .ref ac])), (an, .inl (N.2 0, 572, .inl nw)), (ae, .inl (N.2 0, 8, .inl ea)), (ao, .inl (N.2 0, 8, .inl no)), (ar, .inl (N.2 0, 8, .inl ne4_14))] H := hP
        have hD : va_D Ag [(mm, .inr (11, [.ref an, .ref ak, .int (nI ke), .int (nI kn), .int fd, .ref ab, .ref az, .ref as_, .ref ae, .ref ao, .ref ar, .ref aw, .ref al, .ref am, .int (nI mn), .ref af, .ref ac])), (an, .inl (N.2 0, 572, .inl nw)), (ae, .inl (N.2 0, 8, .inl ea)), (ao, .inl (N.2 0, 8, .inl no)), (ar, .inl (N.2 0, 8, .inl ne4_14))] := hD
        refine lv_istore (lv' := [(6, .int (nI (pop (ckField (fun f => fFly tr fo kd ht f m1) (fun f g => fNear tr fo kd ht dr f g m1) cf)))), (5, .int (nI m1)), (4, .int mo), (3, .int (nI fdd)), (0, .ref mm), (1, .int (nI i)), (2, .int (nI j))]) hx hb dX11_best_49 hl (by decide) rfl (fun ls hl => ?_)
        refine lv_iload hx hb dX11_best_51 (lv_at hl 0 rfl) ?_
        refine lv_iload hx hb dX11_best_53 (lv_at hl 2 rfl) ?_
        refine lv_icmp_gt (tgt := 61) hx hb dX11_best_55 (by decide) (fun cz_18 => ?_) (fun cz_18 => ?_)
        · refine lv_iload hx hb dX11_best_61 (lv_at hl 1 rfl) ?_
          refine lv_istore_n (lv' := [(3, .int (nI m1)), (6, .int (nI (pop (ckField (fun f => fFly tr fo kd ht f m1) (fun f g => fNear tr fo kd ht dr f g m1) cf)))), (5, .int (nI m1)), (4, .int mo), (0, .ref mm), (1, .int (nI i)), (2, .int (nI j))]) hx hb dX11_best_63 rfl hl (by decide) rfl (fun ls hl => ?_)
          refine lv_iload hx hb dX11_best_64 (lv_at hl 1 rfl) ?_
          refine lv_istore (lv' := [(4, .int (nI (pop (ckField (fun f => fFly tr fo kd ht f m1) (fun f g => fNear tr fo kd ht dr f g m1) cf)))), (3, .int (nI m1)), (6, .int (nI (pop (ckField (fun f => fFly tr fo kd ht f m1) (fun f g => fNear tr fo kd ht dr f g m1) cf)))), (5, .int (nI m1)), (0, .ref mm), (1, .int (nI i)), (2, .int (nI j))]) hx hb dX11_best_66 hl (by decide) rfl (fun ls hl => ?_)
          refine lv_iinc (v := (nI (m1 + 1))) (lv' := [(5, .int (nI (m1 + 1))), (4, .int (nI (pop (ckField (fun f => fFly tr fo kd ht f m1) (fun f g => fNear tr fo kd ht dr f g m1) cf)))), (3, .int (nI m1)), (6, .int (nI (pop (ckField (fun f => fFly tr fo kd ht f m1) (fun f g => fNear tr fo kd ht dr f g m1) cf)))), (0, .ref mm), (1, .int (nI i)), (2, .int (nI j))]) hx hb dX11_best_68 hl (k := 3) rfl (nI_1 _) (by decide) rfl (fun ls hl => ?_)
          refine lv_goto (tgt := 34) hx hb dX11_best_71 (by decide) ?_
          exact ih_34 _ (by omega) (m1 + 1) m1 (nI (pop (ckField (fun f => fFly tr fo kd ht f m1) (fun f g => fNear tr fo kd ht dr f g m1) cf))) ne4_14 rfl (by omega) (Or.inr ⟨by omega, rfl⟩) (bst_up (sz := fun m => pop (ckField (fun f => fFly tr fo kd ht f m) (fun f g => fNear tr fo kd ht dr f g m) cf)) (fun k => pop_lt _) hmo hfd (Int32.not_le.mpr cz_18)) _ _ ls hP hD hS (lv_sub hl [0, 1, 2, 4, 5, 6] rfl)
        refine lv_goto (tgt := 68) hx hb dX11_best_58 (by decide) ?_
        refine lv_iinc (v := (nI (m1 + 1))) (lv' := [(5, .int (nI (m1 + 1))), (6, .int (nI (pop (ckField (fun f => fFly tr fo kd ht f m1) (fun f g => fNear tr fo kd ht dr f g m1) cf)))), (4, .int mo), (3, .int (nI fdd)), (0, .ref mm), (1, .int (nI i)), (2, .int (nI j))]) hx hb dX11_best_68 hl (k := 1) rfl (nI_1 _) (by decide) rfl (fun ls hl => ?_)
        refine lv_goto (tgt := 34) hx hb dX11_best_71 (by decide) ?_
        exact ih_34 _ (by omega) (m1 + 1) fdd mo ne4_14 rfl (by omega) (bst_st (sz := fun m => pop (ckField (fun f => fFly tr fo kd ht f m) (fun f g => fNear tr fo kd ht dr f g m) cf)) (fun k => pop_lt _) hmo hfd (Int32.not_lt.mp cz_18)).1 (bst_st (sz := fun m => pop (ckField (fun f => fFly tr fo kd ht f m) (fun f g => fNear tr fo kd ht dr f g m) cf)) (fun k => pop_lt _) hmo hfd (Int32.not_lt.mp cz_18)).2 _ _ ls hP hD hS (lv_sub hl [0, 2, 3, 4, 5, 6] rfl)
    exact lp_34 _ i i (-1) ne rfl (by omega) (Or.inl ⟨rfl, rfl⟩) (by rw [Nat.sub_self]; rfl) _ _ ls hP hD hS hl
  refine lv_aload_n hx hb dX11_best_19 rfl (lv_at hl 0 rfl) ?_
  refine lv_ldc (own := RX11) (v := (-100001)) hx hb hown (hg _ k4_81) dX11_best_20 ?_
  refine ck_Vi (As := [.int (-100001)]) (rest := []) (wr := [(an, .inl (N.2 0, 572, .inl nw)), (ae, .inl (N.2 0, 8, .inl ea)), (ao, .inl (N.2 0, 8, .inl no)), (ar, .inl (N.2 0, 8, .inl ne))]) C0 hP hD hS (c_X11_finds l N mm an ak ab az as_ ae ao ar aw al am af ac ke kn fd mn (-100001) ) myX11_finds k4_67 ⟨Nat.le_of_ble_eq_true rfl, Nat.le_of_ble_eq_true rfl⟩ [0] [1, 2, 3, 4] ⟨⟨rfl, rfl⟩, by decide, by decide, by decide⟩ 0 rfl rfl rfl rfl hl.1 rfl (Nat.le_of_ble_eq_true rfl) dX11_best_22 ⟨Nat.le_of_ble_eq_true rfl, Nat.le_of_ble_eq_true rfl⟩ (fun r_19 u0 H locs hw0 hP hD hS => ?_)
  have hw_20 : r_19 = (-100001) := hw0
  subst hw_20
  have hP : va_P N.1 vwCl [(an, .inl (N.2 0, 572, .inl nw)), (ae, .inl (N.2 0, 8, .inl ea)), (ao, .inl (N.2 0, 8, .inl no)), (ar, .inl (N.2 0, 8, .inl ne)), (mm, .inr (11, [.ref an, .ref ak, .int (nI ke), .int (nI kn), .int (fd + nI 1), .ref ab, .ref az, .ref as_, .ref ae, .ref ao, .ref ar, .ref aw, .ref al, .ref am, .int (nI mn), .ref af, .ref ac]))] H := hP
  have hD : va_D Ag [(an, .inl (N.2 0, 572, .inl nw)), (ae, .inl (N.2 0, 8, .inl ea)), (ao, .inl (N.2 0, 8, .inl no)), (ar, .inl (N.2 0, 8, .inl ne)), (mm, .inr (11, [.ref an, .ref ak, .int (nI ke), .int (nI kn), .int (fd + nI 1), .ref ab, .ref az, .ref as_, .ref ae, .ref ao, .ref ar, .ref aw, .ref al, .ref am, .int (nI mn), .ref af, .ref ac]))] := hD
  exact ck_iret hx hb hrt hlk ⟨(fd + nI 1), ne⟩ (ckRd_f (by simp [beF, cz_3, cz_8, cz_11]) (by decide)) (hP.sub [4, 0, 1, 2, 3] rfl) (hD.sub [4, 0, 1, 2, 3] (by decide) rfl) hS ⟨Nat.le_of_ble_eq_true rfl, Nat.le_of_ble_eq_true rfl⟩ dX11_best_25
