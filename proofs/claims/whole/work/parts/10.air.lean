/-! Air: what flies, where, what meets, the field -/
def ckAir (tr di : Nat → Int32) (n : Nat) (kd ht dr : Nat → Nat) : Prop := n ≤ 8 ∧ (∀ i, i < n → tr (i * 8 + 0) = nI (kd i) ∧ kd i < 4 ∧ tr (i * 8 + 3) = nI (ht i) ∧ ht i < 4) ∧ ∀ j, j < 80 → di j = nI (dr j) ∧ dr j < 8
def ckAbs (x : Int32) : Int32 := if 0 ≤ x then x else 0 - x
def ckSteady (fo : Nat → Int32) (h mi : Nat) : Bool := if mi = 0 then true else decide (¬ nI 3 < ckAbs (fo (h * 20 + mi) - fo (h * 20 + (mi - 1))))
def fLo (tr : Nat → Int32) (kd : Nat → Nat) (i : Nat) : Int32 := if kd i = 2 then tr (i * 8 + 6) + 1 else tr (i * 8 + 6)
def fHi (tr : Nat → Int32) (kd : Nat → Nat) (i : Nat) : Int32 := if kd i = 2 then tr (i * 8 + 7) + 2 else tr (i * 8 + 7)
def fFly (tr fo : Nat → Int32) (kd ht : Nat → Nat) (i mi : Nat) : Bool := ckIn (fo (ht i * 20 + mi)) (fLo tr kd i) (fHi tr kd i) && (!ckUnder (kd i) 1 || ckSteady fo (ht i) mi)
def fX (tr : Nat → Int32) (ht dr : Nat → Nat) (i mi : Nat) : Int32 := tr (i * 8 + 1) + tr (i * 8 + 4) * ckSX (dr (ht i * 20 + mi))
def fY (tr : Nat → Int32) (ht dr : Nat → Nat) (i mi : Nat) : Int32 := tr (i * 8 + 2) + tr (i * 8 + 4) * ckSY (dr (ht i * 20 + mi))
def fNear (tr fo : Nat → Int32) (kd ht dr : Nat → Nat) (i j mi : Nat) : Bool := decide (ht i = ht j) && (fFly tr fo kd ht i mi && fFly tr fo kd ht j mi) && (decide (ckAbs (fX tr ht dr i mi - fX tr ht dr j mi) < tr (i * 8 + 5) + tr (j * 8 + 5)) && decide (ckAbs (fY tr ht dr i mi - fY tr ht dr j mi) < tr (i * 8 + 5) + tr (j * 8 + 5)))
theorem ckIn_lo {x lo hi : Int32} (h : x < lo) : ckIn x lo hi = false := by rw [ckIn_f]; rw [i_lt] at h; omega
theorem ckIn_hi {x lo hi : Int32} (h : ¬ x ≤ hi) : ckIn x lo hi = false := by rw [ckIn_f]; rw [i_le] at h; omega
theorem ckIn_ok {x lo hi : Int32} (h1 : ¬ x < lo) (h2 : x ≤ hi) : ckIn x lo hi = true := by rw [ckIn_iff]; rw [i_lt] at h1; rw [i_le] at h2; omega
def b2n (b : Bool) : Nat := if b then 1 else 0
theorem ck_addb (a : Nat) (b : Bool) : nI a + b2i b = nI (a + b2n b) := by cases b <;> exact nI_add a _
def psum (f : Nat → Nat) : Nat → Nat
  | 0 => 0
  | n + 1 => psum f n + f n
theorem psum_0 {f : Nat → Nat} : ∀ {n : Nat}, (∀ k, k < n → f k = 0) → psum f n = 0
  | 0, _ => rfl
  | n + 1, h => by rw [psum, psum_0 (fun k hk => h k (by omega)), h n (by omega)]
theorem psum_c {f g : Nat → Nat} : ∀ {n : Nat}, (∀ k, k < n → f k = g k) → psum f n = psum g n
  | 0, _ => rfl
  | n + 1, h => by rw [psum, psum, psum_c (fun k hk => h k (by omega)), h n (by omega)]
def ckPr (nr : Nat → Nat → Bool) (f g : Nat) : Nat := if f < g then b2n (nr f g) else 0
def ckPairs (nr : Nat → Nat → Bool) (n : Nat) : Nat := psum (fun f => psum (fun g => ckPr nr f g) n) n
def bitsOf (q : Nat → Bool) : Nat → Nat
  | 0 => 0
  | n + 1 => if q n then bitsOf q n ||| 2 ^ n else bitsOf q n
theorem bitsOf_lt (q : Nat → Bool) : ∀ n, bitsOf q n < 2 ^ n
  | 0 => by rw [bitsOf]; decide
  | n + 1 => by
    have h := bitsOf_lt q n
    have h2 : 2 ^ n < 2 ^ (n + 1) := Nat.pow_lt_pow_right (by decide) (Nat.lt_succ_self n)
    rw [bitsOf]
    split
    · exact Nat.or_lt_two_pow (Nat.lt_trans h h2) h2
    · exact Nat.lt_trans h h2
theorem ck_or (a b : Nat) : nI a ||| nI b = nI (a ||| b) := by
  apply Int32.toBitVec_inj.mp
  show (BitVec.ofNat 32 a) ||| (BitVec.ofNat 32 b) = BitVec.ofNat 32 (a ||| b)
  apply BitVec.eq_of_getLsbD_eq
  intro i hi
  simp [BitVec.getLsbD_or, BitVec.getLsbD_ofNat, hi]
theorem ck_and (a b : Nat) : nI a &&& nI b = nI (a &&& b) := by
  apply Int32.toBitVec_inj.mp
  show (BitVec.ofNat 32 a) &&& (BitVec.ofNat 32 b) = BitVec.ofNat 32 (a &&& b)
  apply BitVec.eq_of_getLsbD_eq
  intro i hi
  simp [BitVec.getLsbD_and, BitVec.getLsbD_ofNat, hi]
theorem ck_and1 (a : Nat) : nI a &&& nI 1 = nI (a % 2) := by rw [ck_and, Nat.and_one_is_mod]
theorem ck_sl : ∀ n, n < 32 → ((nI n &&& 31).toBitVec.smod 32).toNat = n := by decide +kernel
theorem ck_shl1 {f : Nat} (h : f < 31) : nI 1 <<< (nI f &&& 31) = nI (2 ^ f) := by
  rw [pk_shlN (nI f &&& 31) f (ck_sl f (by omega)) (by rw [Nat.one_mul]; exact Nat.pow_lt_pow_right (by decide) (by omega)), Nat.one_mul]
theorem ck_shr {a f : Nat} (ha : a < 2 ^ 31) (h : f < 31) : nI a >>> (nI f &&& 31) = nI (a / 2 ^ f) := pk_shrN ha (nI f &&& 31) f (ck_sl f (by omega))
def pop (s : Nat) : Nat := s % 2 + s / 2 % 2 + s / 4 % 2 + s / 8 % 2 + s / 16 % 2 + s / 32 % 2 + s / 64 % 2 + s / 128 % 2
theorem pop_lt (s : Nat) : pop s < 2 ^ 31 := by unfold pop; omega
theorem ck_bc : ∀ s, s < 256 → ckBC (nI s) = nI (pop s) := by decide +kernel
def ckApart (nb : Nat → Nat) (n s : Nat) : Bool := decide (∀ f, f < n → s / 2 ^ f % 2 = 1 → nb f &&& s = 0)
def ckSub (k fl : Nat) : Prop := nI k &&& (nI fl ^^^ (-1)) = 0
def ckBest (fl : Nat) (ap : Nat → Bool) : Nat → Nat
  | 0 => 0
  | k + 1 => if (nI (k + 1) &&& (nI fl ^^^ (-1)) = 0) ∧ pop (ckBest fl ap k) < pop (k + 1) ∧ ap (k + 1) = true then k + 1 else ckBest fl ap k
theorem ckBest_le (fl : Nat) (ap : Nat → Bool) : ∀ k, ckBest fl ap k ≤ k
  | 0 => Nat.le_refl 0
  | k + 1 => by
    have h := ckBest_le fl ap k
    rw [ckBest]
    split <;> omega
def ckField (fly : Nat → Bool) (nr : Nat → Nat → Bool) (n : Nat) : Nat := ckBest (bitsOf fly n) (ckApart (fun f => bitsOf (nr f) f) n) (bitsOf fly n)
theorem ckBest_y {b k fd : Nat} {ap : Nat → Bool} (hk : 1 ≤ k) (hfd : fd = ckBest b ap (k - 1)) (h1 : nI k &&& (nI b ^^^ (-1)) = 0) (h2 : pop fd < pop k) (h3 : ap k = true) : k = ckBest b ap (k + 1 - 1) := by
  obtain ⟨j, rfl⟩ : ∃ j, k = j + 1 := ⟨k - 1, by omega⟩
  rw [Nat.add_sub_cancel, ckBest, if_pos ⟨h1, by rw [Nat.add_sub_cancel] at hfd; rw [← hfd]; exact h2, h3⟩]
theorem ckBest_n {b k fd : Nat} {ap : Nat → Bool} (hk : 1 ≤ k) (hfd : fd = ckBest b ap (k - 1)) (h : ¬ ((nI k &&& (nI b ^^^ (-1)) = 0) ∧ pop fd < pop k ∧ ap k = true)) : fd = ckBest b ap (k + 1 - 1) := by
  obtain ⟨j, rfl⟩ : ∃ j, k = j + 1 := ⟨k - 1, by omega⟩
  rw [Nat.add_sub_cancel] at hfd ⊢
  rw [ckBest, ← hfd, if_neg h]
set_option maxHeartbeats 4000000 in
set_option maxRecDepth 100000 in
/-- X0_init -/
theorem c_X0_init (l : Launch) (N : ckN) (a : Nat)  : ckV l yX0_init cX0_init 1 none { frames := 3, cells := 6, slots := 236, locals := 80 } N [.ref a] [(a, .inr (0, [.null, .null, .null]))] (fun (u : Nat × Nat × Nat × Nat × Nat × Nat) => True) (fun (u : Nat × Nat × Nat × Nat × Nat × Nat) => [(a, .inr (0, [.ref u.1, .ref u.2.2.1, .ref u.2.2.2.2.2])), (u.1, .inr (1, [.ref u.2.1, .int (nI 0)])), (u.2.1, .inl (N.2 0, 64, .inl (fun _ => 0))), (u.2.2.1, .inr (8, [.ref u.2.2.2.1, .ref u.2.2.2.2.1])), (u.2.2.2.1, .inl (N.2 0, 80, .inl (fun _ => 0))), (u.2.2.2.2.1, .inl (N.2 0, 80, .inl (fun _ => 0))), (u.2.2.2.2.2, .inl (N.2 0, 8, .inl (fun _ => 0)))]) := by
  refine ckV.of (by decide) (Nat.le_of_ble_eq_true rfl) ?_
  intro pg eg sg mg blw mth cg Ag ls hx hb hrt hml hown hlk hin hg hE hA hP hD hS hl
  have hown : sg.vm.findClass RX0 = some mg.cls := hown
  have hl : lv_has ls 1 [(0, .ref a)] := hl
  have C0 : ckC pg sg mg ([.ref a]).toArray cg cX0_init 1 RX0 N Ag := ⟨⟨hx, hb, hml, hown, hg⟩, hE, hA⟩
  generalize hHe : sg.heap = H at hP
  have hS : va_S Ag sg.heap H [] := hHe ▸ hS
  refine lv_aload_n hx hb dX0_init_0 rfl (lv_at hl 0 rfl) ?_
  refine W.objInit hx hb hown (hg _ k1_35) (hg _ k1_22) (hg _ k1_23) rfl (by rw [hml]; exact hl.1) rfl dX0_init_1 (Nat.le_of_ble_eq_true rfl) (Nat.le_of_ble_eq_true rfl) ?_
  refine W.eq (g2 := F0 mg 4 ls []) rfl ?_
  refine lv_aload_n hx hb dX0_init_4 rfl (lv_at hl 0 rfl) ?_
  refine va_new (ci := 1) (fs := [.null, .int (nI 0)]) (C := RX1) (T := TX1) (N := 2) hx hb hg inX1 tyX1 tyX1_ok hown (hg _ k1_36) (hg _ k1_37) (hg _ k1_4) hE.1 hP hD hS hA rfl (fun j hj => by rcases (show j = 0 ∨ j = 1 by omega) with rfl | rfl <;> rfl) (Nat.le_of_ble_eq_true rfl) (Nat.le_of_ble_eq_true rfl) dX0_init_5 (fun q_1 H hP hD hS => ?_)
  have hP : va_P N.1 vwCl [(a, .inr (0, [.null, .null, .null])), (q_1, .inr (1, [.null, .int (nI 0)]))] H := hP
  have hD : va_D Ag [(a, .inr (0, [.null, .null, .null])), (q_1, .inr (1, [.null, .int (nI 0)]))] := hD
  refine lv_dup hx hb dX0_init_8 rfl ?_
  refine ck_INv (As := []) (rest := [.ref q_1, .ref a]) (wr := [(a, .inr (0, [.null, .null, .null]))]) C0 hP hD hS (c_X1_init l N q_1 ) myX1_init 2 rfl ⟨Nat.le_of_ble_eq_true rfl, Nat.le_of_ble_eq_true rfl⟩ [1] [0] ⟨⟨rfl, rfl⟩, by decide, by decide, by decide⟩ rfl hl.1 rfl (Nat.le_of_ble_eq_true rfl) dX0_init_9 ⟨Nat.le_of_ble_eq_true rfl, Nat.le_of_ble_eq_true rfl⟩ (fun u0 H locs hw0 hP hD hS => ?_)
  obtain ⟨t_3, rfl⟩ : ∃ z, z = u0 := ⟨_, rfl⟩
  have hP : va_P N.1 vwCl [(a, .inr (0, [.null, .null, .null])), (q_1, .inr (1, [.ref t_3, .int (nI 0)])), (t_3, .inl (N.2 0, 64, .inl (fun _ => 0)))] H := hP
  have hD : va_D Ag [(a, .inr (0, [.null, .null, .null])), (q_1, .inr (1, [.ref t_3, .int (nI 0)])), (t_3, .inl (N.2 0, 64, .inl (fun _ => 0)))] := hD
  refine W.widen (k := 2) (n := 66) (Nat.le_of_ble_eq_true rfl) (Nat.le_of_ble_eq_true rfl) ?_
  refine va_putF (ci := 0) (v := .ref q_1) (C := RX0) (T := TX0) (N := 3) hx hb hg inX0 tyX0 tyX0_ok nmX0 hown hE.1 hP hD hS 0 rfl rfl 0 (by decide) (hg _ k1_65) (fun _ h9 => h9) rfl hin rfl (tyX0_ok 0 (by decide)) rfl rfl (Nat.le_of_ble_eq_true rfl) dX0_init_12 (fun H locs hP hD hS => ?_)
  have hP : va_P N.1 vwCl [(a, .inr (0, [.ref q_1, .null, .null])), (q_1, .inr (1, [.ref t_3, .int (nI 0)])), (t_3, .inl (N.2 0, 64, .inl (fun _ => 0)))] H := hP
  have hD : va_D Ag [(a, .inr (0, [.ref q_1, .null, .null])), (q_1, .inr (1, [.ref t_3, .int (nI 0)])), (t_3, .inl (N.2 0, 64, .inl (fun _ => 0)))] := hD
  refine lv_aload_n hx hb dX0_init_15 rfl (lv_at hl 0 rfl) ?_
  refine va_new (ci := 8) (fs := [.null, .null]) (C := RX8) (T := TX8) (N := 2) hx hb hg inX8 tyX8 tyX8_ok hown (hg _ k1_52) (hg _ k1_53) (hg _ k1_5) hE.1 hP hD hS hA rfl (fun j hj => by rcases (show j = 0 ∨ j = 1 by omega) with rfl | rfl <;> rfl) (Nat.le_of_ble_eq_true rfl) (Nat.le_of_ble_eq_true rfl) dX0_init_16 (fun q_5 H hP hD hS => ?_)
  have hP : va_P N.1 vwCl [(a, .inr (0, [.ref q_1, .null, .null])), (q_1, .inr (1, [.ref t_3, .int (nI 0)])), (t_3, .inl (N.2 0, 64, .inl (fun _ => 0))), (q_5, .inr (8, [.null, .null]))] H := hP
  have hD : va_D Ag [(a, .inr (0, [.ref q_1, .null, .null])), (q_1, .inr (1, [.ref t_3, .int (nI 0)])), (t_3, .inl (N.2 0, 64, .inl (fun _ => 0))), (q_5, .inr (8, [.null, .null]))] := hD
  refine lv_dup hx hb dX0_init_19 rfl ?_
  refine ck_INv (As := []) (rest := [.ref q_5, .ref a]) (wr := [(a, .inr (0, [.ref q_1, .null, .null])), (q_1, .inr (1, [.ref t_3, .int (nI 0)])), (t_3, .inl (N.2 0, 64, .inl (fun _ => 0)))]) C0 hP hD hS (c_X8_init l N q_5 ) myX8_init 3 rfl ⟨Nat.le_of_ble_eq_true rfl, Nat.le_of_ble_eq_true rfl⟩ [3] [0, 1, 2] ⟨⟨rfl, rfl⟩, by decide, by decide, by decide⟩ rfl hl.1 rfl (Nat.le_of_ble_eq_true rfl) dX0_init_20 ⟨Nat.le_of_ble_eq_true rfl, Nat.le_of_ble_eq_true rfl⟩ (fun u0 H locs hw0 hP hD hS => ?_)
  obtain ⟨d_7, f_8⟩ := u0
  have hP : va_P N.1 vwCl [(a, .inr (0, [.ref q_1, .null, .null])), (q_1, .inr (1, [.ref t_3, .int (nI 0)])), (t_3, .inl (N.2 0, 64, .inl (fun _ => 0))), (q_5, .inr (8, [.ref d_7, .ref f_8])), (d_7, .inl (N.2 0, 80, .inl (fun _ => 0))), (f_8, .inl (N.2 0, 80, .inl (fun _ => 0)))] H := hP
  have hD : va_D Ag [(a, .inr (0, [.ref q_1, .null, .null])), (q_1, .inr (1, [.ref t_3, .int (nI 0)])), (t_3, .inl (N.2 0, 64, .inl (fun _ => 0))), (q_5, .inr (8, [.ref d_7, .ref f_8])), (d_7, .inl (N.2 0, 80, .inl (fun _ => 0))), (f_8, .inl (N.2 0, 80, .inl (fun _ => 0)))] := hD
  refine W.widen (k := 5) (n := 228) (Nat.le_of_ble_eq_true rfl) (Nat.le_of_ble_eq_true rfl) ?_
  refine va_putF (ci := 0) (v := .ref q_5) (C := RX0) (T := TX0) (N := 3) hx hb hg inX0 tyX0 tyX0_ok nmX0 hown hE.1 hP hD hS 0 rfl rfl 1 (by decide) (hg _ k1_68) (fun _ h9 => h9) rfl hin rfl (tyX0_ok 1 (by decide)) rfl rfl (Nat.le_of_ble_eq_true rfl) dX0_init_23 (fun H locs hP hD hS => ?_)
  have hP : va_P N.1 vwCl [(a, .inr (0, [.ref q_1, .ref q_5, .null])), (q_1, .inr (1, [.ref t_3, .int (nI 0)])), (t_3, .inl (N.2 0, 64, .inl (fun _ => 0))), (q_5, .inr (8, [.ref d_7, .ref f_8])), (d_7, .inl (N.2 0, 80, .inl (fun _ => 0))), (f_8, .inl (N.2 0, 80, .inl (fun _ => 0)))] H := hP
  have hD : va_D Ag [(a, .inr (0, [.ref q_1, .ref q_5, .null])), (q_1, .inr (1, [.ref t_3, .int (nI 0)])), (t_3, .inl (N.2 0, 64, .inl (fun _ => 0))), (q_5, .inr (8, [.ref d_7, .ref f_8])), (d_7, .inl (N.2 0, 80, .inl (fun _ => 0))), (f_8, .inl (N.2 0, 80, .inl (fun _ => 0)))] := hD
  refine lv_aload_n hx hb dX0_init_26 rfl (lv_at hl 0 rfl) ?_
  refine lv_bipush (v := (nI 8)) hx hb dX0_init_27 (by decide) ?_
  refine ck_newa (n := 8) hx hb (hg _ k1_51) hE hP hD hS hA (by decide) (by decide) (Nat.le_of_ble_eq_true rfl) (Nat.le_of_ble_eq_true rfl) dX0_init_29 (fun q_10 H hP hD hS => ?_)
  have hP : va_P N.1 vwCl [(a, .inr (0, [.ref q_1, .ref q_5, .null])), (q_1, .inr (1, [.ref t_3, .int (nI 0)])), (t_3, .inl (N.2 0, 64, .inl (fun _ => 0))), (q_5, .inr (8, [.ref d_7, .ref f_8])), (d_7, .inl (N.2 0, 80, .inl (fun _ => 0))), (f_8, .inl (N.2 0, 80, .inl (fun _ => 0))), (q_10, .inl (N.2 0, 8, .inl (fun _ => 0)))] H := hP
  have hD : va_D Ag [(a, .inr (0, [.ref q_1, .ref q_5, .null])), (q_1, .inr (1, [.ref t_3, .int (nI 0)])), (t_3, .inl (N.2 0, 64, .inl (fun _ => 0))), (q_5, .inr (8, [.ref d_7, .ref f_8])), (d_7, .inl (N.2 0, 80, .inl (fun _ => 0))), (f_8, .inl (N.2 0, 80, .inl (fun _ => 0))), (q_10, .inl (N.2 0, 8, .inl (fun _ => 0)))] := hD
  refine va_putF (ci := 0) (v := .ref q_10) (C := RX0) (T := TX0) (N := 3) hx hb hg inX0 tyX0 tyX0_ok nmX0 hown hE.1 hP hD hS 0 rfl rfl 2 (by decide) (hg _ k1_71) (fun _ h9 => h9) rfl hin rfl (tyX0_ok 2 (by decide)) rfl rfl (Nat.le_of_ble_eq_true rfl) dX0_init_31 (fun H locs hP hD hS => ?_)
  have hP : va_P N.1 vwCl [(a, .inr (0, [.ref q_1, .ref q_5, .ref q_10])), (q_1, .inr (1, [.ref t_3, .int (nI 0)])), (t_3, .inl (N.2 0, 64, .inl (fun _ => 0))), (q_5, .inr (8, [.ref d_7, .ref f_8])), (d_7, .inl (N.2 0, 80, .inl (fun _ => 0))), (f_8, .inl (N.2 0, 80, .inl (fun _ => 0))), (q_10, .inl (N.2 0, 8, .inl (fun _ => 0)))] H := hP
  have hD : va_D Ag [(a, .inr (0, [.ref q_1, .ref q_5, .ref q_10])), (q_1, .inr (1, [.ref t_3, .int (nI 0)])), (t_3, .inl (N.2 0, 64, .inl (fun _ => 0))), (q_5, .inr (8, [.ref d_7, .ref f_8])), (d_7, .inl (N.2 0, 80, .inl (fun _ => 0))), (f_8, .inl (N.2 0, 80, .inl (fun _ => 0))), (q_10, .inl (N.2 0, 8, .inl (fun _ => 0)))] := hD
  exact ck_vret hx hb hrt hlk ⟨q_1, t_3, q_5, d_7, f_8, q_10⟩ trivial hP hD hS ⟨Nat.le_of_ble_eq_true rfl, Nat.le_of_ble_eq_true rfl⟩ dX0_init_34
set_option maxHeartbeats 4000000 in
set_option maxRecDepth 100000 in
/-- X0_isSteady -/
theorem c_X0_isSteady (l : Launch) (N : ckN) (a : Nat) (fl : Nat) (t : Nat) (wi : Nat) (d : Nat) (f : Nat) (nr : Nat) (tr : Nat → Int32) (n : Nat) (di : Nat → Int32) (fo : Nat → Int32) (ne : Nat → Int32) (kd : Nat → Nat) (ht : Nat → Nat) (dr : Nat → Nat) (h : Nat) (mi : Nat) (hh : h < 4) (hm : mi < 20) : ckI l yX0_isSteady cX0_isSteady 4 (some FieldType.boolean) { frames := 3, cells := 0, slots := 0, locals := 82 } N [.ref a, .int (nI h), .int (nI mi)] [(a, .inr (0, [.ref fl, .ref wi, .ref nr])), (fl, .inr (1, [.ref t, .int (nI n)])), (t, .inl (N.2 0, 64, .inl tr)), (wi, .inr (8, [.ref d, .ref f])), (d, .inl (N.2 0, 80, .inl di)), (f, .inl (N.2 0, 80, .inl fo)), (nr, .inl (N.2 0, 8, .inl ne))] (fun (r : Int32) (u : Unit) => r = (b2i (ckSteady fo h mi))) (fun (u : Unit) => [(a, .inr (0, [.ref fl, .ref wi, .ref nr])), (fl, .inr (1, [.ref t, .int (nI n)])), (t, .inl (N.2 0, 64, .inl tr)), (wi, .inr (8, [.ref d, .ref f])), (d, .inl (N.2 0, 80, .inl di)), (f, .inl (N.2 0, 80, .inl fo)), (nr, .inl (N.2 0, 8, .inl ne))]) := by
  refine ckI.of (by decide) (Nat.le_of_ble_eq_true rfl) ?_
  intro pg eg sg mg blw mth cg Ag ls hx hb hrt hml hown hlk hin hg hE hA hP hD hS hl
  have hown : sg.vm.findClass RX0 = some mg.cls := hown
  have hl : lv_has ls 4 [(0, .ref a), (1, .int (nI h)), (2, .int (nI mi))] := hl
  have C0 : ckC pg sg mg ([.ref a, .int (nI h), .int (nI mi)]).toArray cg cX0_isSteady 4 RX0 N Ag := ⟨⟨hx, hb, hml, hown, hg⟩, hE, hA⟩
  generalize hHe : sg.heap = H at hP
  have hS : va_S Ag sg.heap H [] := hHe ▸ hS
  refine lv_iload_n hx hb dX0_isSteady_0 rfl (lv_at hl 2 rfl) ?_
  refine ck_if0_ne (tgt := 6) hx hb dX0_isSteady_1 (by decide) (by omega) (fun cz_1 => ?_) (fun cz_1 => ?_)
  · refine lv_aload_n hx hb dX0_isSteady_6 rfl (lv_at hl 0 rfl) ?_
    refine va_get (ci := 0) (v := .ref wi) (C := RX0) (T := TX0) (N := 3) hx hb hg inX0 hown hE.1 hP 0 rfl rfl 1 (by decide) (hg _ k1_68) (fun _ h9 => h9) rfl dX0_isSteady_7 ?_
    refine lv_iload_n hx hb dX0_isSteady_10 rfl (lv_at hl 1 rfl) ?_
    refine lv_iload_n hx hb dX0_isSteady_11 rfl (lv_at hl 2 rfl) ?_
    refine ck_Vi (As := [.int (nI h), .int (nI mi)]) (rest := []) (wr := [(a, .inr (0, [.ref fl, .ref wi, .ref nr])), (fl, .inr (1, [.ref t, .int (nI n)])), (t, .inl (N.2 0, 64, .inl tr)), (nr, .inl (N.2 0, 8, .inl ne))]) C0 hP hD hS (c_X8_forceOf l N wi d f di fo h mi (by omega)) myX8_forceOf k2_166 ⟨Nat.le_of_ble_eq_true rfl, Nat.le_of_ble_eq_true rfl⟩ [3, 4, 5] [0, 1, 2, 6] ⟨⟨rfl, rfl⟩, by decide, by decide, by decide⟩ 3 rfl rfl rfl rfl hl.1 rfl (Nat.le_of_ble_eq_true rfl) dX0_isSteady_12 ⟨Nat.le_of_ble_eq_true rfl, Nat.le_of_ble_eq_true rfl⟩ (fun r_2 u0 H locs hw0 hP hD hS => ?_)
    have hw_3 : r_2 = (fo (h * 20 + mi)) := hw0
    subst hw_3
    have hP : va_P N.1 vwCl [(a, .inr (0, [.ref fl, .ref wi, .ref nr])), (fl, .inr (1, [.ref t, .int (nI n)])), (t, .inl (N.2 0, 64, .inl tr)), (nr, .inl (N.2 0, 8, .inl ne)), (wi, .inr (8, [.ref d, .ref f])), (d, .inl (N.2 0, 80, .inl di)), (f, .inl (N.2 0, 80, .inl fo))] H := hP
    have hD : va_D Ag [(a, .inr (0, [.ref fl, .ref wi, .ref nr])), (fl, .inr (1, [.ref t, .int (nI n)])), (t, .inl (N.2 0, 64, .inl tr)), (nr, .inl (N.2 0, 8, .inl ne)), (wi, .inr (8, [.ref d, .ref f])), (d, .inl (N.2 0, 80, .inl di)), (f, .inl (N.2 0, 80, .inl fo))] := hD
    refine lv_aload_n hx hb dX0_isSteady_15 rfl (lv_at hl 0 rfl) ?_
    refine va_get (ci := 0) (v := .ref wi) (C := RX0) (T := TX0) (N := 3) hx hb hg inX0 hown hE.1 hP 0 rfl rfl 1 (by decide) (hg _ k1_68) (fun _ h9 => h9) rfl dX0_isSteady_16 ?_
    refine lv_iload_n hx hb dX0_isSteady_19 rfl (lv_at hl 1 rfl) ?_
    refine lv_iload_n hx hb dX0_isSteady_20 rfl (lv_at hl 2 rfl) ?_
    refine lv_iconst (v := (nI 1)) hx hb dX0_isSteady_21 (by decide) ?_
    refine lv_isub hx hb dX0_isSteady_22 ?_
    refine ck_top (y := (nI (mi - 1))) (pk_sub (by omega)) ?_
    refine ck_Vi (As := [.int (nI h), .int (nI (mi - 1))]) (rest := [.int (fo (h * 20 + mi))]) (wr := [(a, .inr (0, [.ref fl, .ref wi, .ref nr])), (fl, .inr (1, [.ref t, .int (nI n)])), (t, .inl (N.2 0, 64, .inl tr)), (nr, .inl (N.2 0, 8, .inl ne))]) C0 hP hD hS (c_X8_forceOf l N wi d f di fo h (mi - 1) (by omega)) myX8_forceOf k2_166 ⟨Nat.le_of_ble_eq_true rfl, Nat.le_of_ble_eq_true rfl⟩ [4, 5, 6] [0, 1, 2, 3] ⟨⟨rfl, rfl⟩, by decide, by decide, by decide⟩ 4 rfl rfl rfl rfl hl.1 rfl (Nat.le_of_ble_eq_true rfl) dX0_isSteady_23 ⟨Nat.le_of_ble_eq_true rfl, Nat.le_of_ble_eq_true rfl⟩ (fun r_4 u0 H locs hw0 hP hD hS => ?_)
    have hw_5 : r_4 = (fo (h * 20 + (mi - 1))) := hw0
    subst hw_5
    have hP : va_P N.1 vwCl [(a, .inr (0, [.ref fl, .ref wi, .ref nr])), (fl, .inr (1, [.ref t, .int (nI n)])), (t, .inl (N.2 0, 64, .inl tr)), (nr, .inl (N.2 0, 8, .inl ne)), (wi, .inr (8, [.ref d, .ref f])), (d, .inl (N.2 0, 80, .inl di)), (f, .inl (N.2 0, 80, .inl fo))] H := hP
    have hD : va_D Ag [(a, .inr (0, [.ref fl, .ref wi, .ref nr])), (fl, .inr (1, [.ref t, .int (nI n)])), (t, .inl (N.2 0, 64, .inl tr)), (nr, .inl (N.2 0, 8, .inl ne)), (wi, .inr (8, [.ref d, .ref f])), (d, .inl (N.2 0, 80, .inl di)), (f, .inl (N.2 0, 80, .inl fo))] := hD
    refine lv_isub hx hb dX0_isSteady_26 ?_
    refine lv_istore_n (lv' := [(3, .int ((fo (h * 20 + mi)) - (fo (h * 20 + (mi - 1))))), (0, .ref a), (1, .int (nI h)), (2, .int (nI mi))]) hx hb dX0_isSteady_27 rfl hl (by decide) rfl (fun ls hl => ?_)
    refine lv_iload_n hx hb dX0_isSteady_28 rfl (lv_at hl 0 rfl) ?_
    refine va_mabs hx hb (by rw [hml]; exact hl.1.symm) hown (hg _ k2_172) (hg _ k2_173) (hg _ k1_14) (hg _ k2_174) (Nat.le_of_ble_eq_true rfl) (Nat.le_of_ble_eq_true rfl) (Nat.le_of_ble_eq_true rfl) (Nat.le_of_ble_eq_true rfl) dX0_isSteady_29 ?_
    refine lv_iconst (v := (nI 3)) hx hb dX0_isSteady_32 (by decide) ?_
    refine lv_icmp_gt (tgt := 40) hx hb dX0_isSteady_33 (by decide) (fun cz_6 => ?_) (fun cz_6 => ?_)
    · refine lv_iconst (v := (nI 0)) hx hb dX0_isSteady_40 (by decide) ?_
      refine ck_top (y := (b2i false)) (by decide) ?_
      exact ck_zret (b := false) hx hb hrt hlk () (congrArg b2i (by rw [ckSteady, if_neg cz_1]; exact (decide_eq_false (not_not_intro cz_6)).symm)) (hP.sub [0, 1, 2, 4, 5, 6, 3] rfl) (hD.sub [0, 1, 2, 4, 5, 6, 3] (by decide) rfl) hS ⟨Nat.le_of_ble_eq_true rfl, Nat.le_of_ble_eq_true rfl⟩ dX0_isSteady_41
    refine lv_iconst (v := (nI 1)) hx hb dX0_isSteady_36 (by decide) ?_
    refine lv_goto (tgt := 41) hx hb dX0_isSteady_37 (by decide) ?_
    refine ck_top (y := (b2i true)) (by decide) ?_
    exact ck_zret (b := true) hx hb hrt hlk () (congrArg b2i (by rw [ckSteady, if_neg cz_1]; exact (decide_eq_true cz_6).symm)) (hP.sub [0, 1, 2, 4, 5, 6, 3] rfl) (hD.sub [0, 1, 2, 4, 5, 6, 3] (by decide) rfl) hS ⟨Nat.le_of_ble_eq_true rfl, Nat.le_of_ble_eq_true rfl⟩ dX0_isSteady_41
  refine lv_iconst (v := (nI 1)) hx hb dX0_isSteady_4 (by decide) ?_
  refine ck_top (y := (b2i true)) (by decide) ?_
  exact ck_zret (b := true) hx hb hrt hlk () (congrArg b2i (by rw [ckSteady, if_pos cz_1])) hP hD hS ⟨Nat.le_of_ble_eq_true rfl, Nat.le_of_ble_eq_true rfl⟩ dX0_isSteady_5
set_option maxHeartbeats 4000000 in
set_option maxRecDepth 100000 in
/-- X0_carries -/
theorem c_X0_carries (l : Launch) (N : ckN) (a : Nat) (fl : Nat) (t : Nat) (wi : Nat) (d : Nat) (f : Nat) (nr : Nat) (tr : Nat → Int32) (n : Nat) (di : Nat → Int32) (fo : Nat → Int32) (ne : Nat → Int32) (kd : Nat → Nat) (ht : Nat → Nat) (dr : Nat → Nat) (i : Nat) (mi : Nat) (hAir : ckAir tr di n kd ht dr) (hi : i < n) (hm : mi < 20) : ckI l yX0_carries cX0_carries 8 (some FieldType.boolean) { frames := 4, cells := 0, slots := 0, locals := 105 } N [.ref a, .int (nI i), .int (nI mi)] [(a, .inr (0, [.ref fl, .ref wi, .ref nr])), (fl, .inr (1, [.ref t, .int (nI n)])), (t, .inl (N.2 0, 64, .inl tr)), (wi, .inr (8, [.ref d, .ref f])), (d, .inl (N.2 0, 80, .inl di)), (f, .inl (N.2 0, 80, .inl fo)), (nr, .inl (N.2 0, 8, .inl ne))] (fun (r : Int32) (u : Unit) => r = (b2i (fFly tr fo kd ht i mi))) (fun (u : Unit) => [(a, .inr (0, [.ref fl, .ref wi, .ref nr])), (fl, .inr (1, [.ref t, .int (nI n)])), (t, .inl (N.2 0, 64, .inl tr)), (wi, .inr (8, [.ref d, .ref f])), (d, .inl (N.2 0, 80, .inl di)), (f, .inl (N.2 0, 80, .inl fo)), (nr, .inl (N.2 0, 8, .inl ne))]) := by
  refine ckI.of (by decide) (Nat.le_of_ble_eq_true rfl) ?_
  intro pg eg sg mg blw mth cg Ag ls hx hb hrt hml hown hlk hin hg hE hA hP hD hS hl
  have hown : sg.vm.findClass RX0 = some mg.cls := hown
  have hl : lv_has ls 8 [(0, .ref a), (1, .int (nI i)), (2, .int (nI mi))] := hl
  have C0 : ckC pg sg mg ([.ref a, .int (nI i), .int (nI mi)]).toArray cg cX0_carries 8 RX0 N Ag := ⟨⟨hx, hb, hml, hown, hg⟩, hE, hA⟩
  generalize hHe : sg.heap = H at hP
  have hS : va_S Ag sg.heap H [] := hHe ▸ hS
  obtain ⟨hn8, hAi, hAd⟩ := id hAir
  obtain ⟨hki, hk4, hhi, hh4⟩ := hAi i hi
  refine lv_aload_n hx hb dX0_carries_0 rfl (lv_at hl 0 rfl) ?_
  refine va_get (ci := 0) (v := .ref fl) (C := RX0) (T := TX0) (N := 3) hx hb hg inX0 hown hE.1 hP 0 rfl rfl 0 (by decide) (hg _ k1_65) (fun _ h9 => h9) rfl dX0_carries_1 ?_
  refine lv_iload_n hx hb dX0_carries_4 rfl (lv_at hl 1 rfl) ?_
  refine lv_iconst (v := (nI 0)) hx hb dX0_carries_5 (by decide) ?_
  refine ck_Vi (As := [.int (nI i), .int (nI 0)]) (rest := []) (wr := [(a, .inr (0, [.ref fl, .ref wi, .ref nr])), (wi, .inr (8, [.ref d, .ref f])), (d, .inl (N.2 0, 80, .inl di)), (f, .inl (N.2 0, 80, .inl fo)), (nr, .inl (N.2 0, 8, .inl ne))]) C0 hP hD hS (c_X1_told l N fl t tr n i 0 (by omega)) myX1_told k2_165 ⟨Nat.le_of_ble_eq_true rfl, Nat.le_of_ble_eq_true rfl⟩ [1, 2] [0, 3, 4, 5, 6] ⟨⟨rfl, rfl⟩, by decide, by decide, by decide⟩ 1 rfl rfl rfl rfl hl.1 rfl (Nat.le_of_ble_eq_true rfl) dX0_carries_6 ⟨Nat.le_of_ble_eq_true rfl, Nat.le_of_ble_eq_true rfl⟩ (fun r_1 u0 H locs hw0 hP hD hS => ?_)
  have hw_2 : r_1 = (tr (i * 8 + 0)) := hw0
  subst hw_2
  have hP : va_P N.1 vwCl [(a, .inr (0, [.ref fl, .ref wi, .ref nr])), (wi, .inr (8, [.ref d, .ref f])), (d, .inl (N.2 0, 80, .inl di)), (f, .inl (N.2 0, 80, .inl fo)), (nr, .inl (N.2 0, 8, .inl ne)), (fl, .inr (1, [.ref t, .int (nI n)])), (t, .inl (N.2 0, 64, .inl tr))] H := hP
  have hD : va_D Ag [(a, .inr (0, [.ref fl, .ref wi, .ref nr])), (wi, .inr (8, [.ref d, .ref f])), (d, .inl (N.2 0, 80, .inl di)), (f, .inl (N.2 0, 80, .inl fo)), (nr, .inl (N.2 0, 8, .inl ne)), (fl, .inr (1, [.ref t, .int (nI n)])), (t, .inl (N.2 0, 64, .inl tr))] := hD
  refine ck_top (y := (nI (kd i))) hki ?_
  refine lv_istore_n (lv' := [(3, .int (nI (kd i))), (0, .ref a), (1, .int (nI i)), (2, .int (nI mi))]) hx hb dX0_carries_9 rfl hl (by decide) rfl (fun ls hl => ?_)
  refine lv_aload_n hx hb dX0_carries_10 rfl (lv_at hl 1 rfl) ?_
  refine va_get (ci := 0) (v := .ref fl) (C := RX0) (T := TX0) (N := 3) hx hb hg inX0 hown hE.1 hP 0 rfl rfl 0 (by decide) (hg _ k1_65) (fun _ h9 => h9) rfl dX0_carries_11 ?_
  refine lv_iload_n hx hb dX0_carries_14 rfl (lv_at hl 2 rfl) ?_
  refine lv_iconst (v := (nI 3)) hx hb dX0_carries_15 (by decide) ?_
  refine ck_Vi (As := [.int (nI i), .int (nI 3)]) (rest := []) (wr := [(a, .inr (0, [.ref fl, .ref wi, .ref nr])), (wi, .inr (8, [.ref d, .ref f])), (d, .inl (N.2 0, 80, .inl di)), (f, .inl (N.2 0, 80, .inl fo)), (nr, .inl (N.2 0, 8, .inl ne))]) C0 hP hD hS (c_X1_told l N fl t tr n i 3 (by omega)) myX1_told k2_165 ⟨Nat.le_of_ble_eq_true rfl, Nat.le_of_ble_eq_true rfl⟩ [5, 6] [0, 1, 2, 3, 4] ⟨⟨rfl, rfl⟩, by decide, by decide, by decide⟩ 5 rfl rfl rfl rfl hl.1 rfl (Nat.le_of_ble_eq_true rfl) dX0_carries_16 ⟨Nat.le_of_ble_eq_true rfl, Nat.le_of_ble_eq_true rfl⟩ (fun r_3 u0 H locs hw0 hP hD hS => ?_)
  have hw_4 : r_3 = (tr (i * 8 + 3)) := hw0
  subst hw_4
  have hP : va_P N.1 vwCl [(a, .inr (0, [.ref fl, .ref wi, .ref nr])), (wi, .inr (8, [.ref d, .ref f])), (d, .inl (N.2 0, 80, .inl di)), (f, .inl (N.2 0, 80, .inl fo)), (nr, .inl (N.2 0, 8, .inl ne)), (fl, .inr (1, [.ref t, .int (nI n)])), (t, .inl (N.2 0, 64, .inl tr))] H := hP
  have hD : va_D Ag [(a, .inr (0, [.ref fl, .ref wi, .ref nr])), (wi, .inr (8, [.ref d, .ref f])), (d, .inl (N.2 0, 80, .inl di)), (f, .inl (N.2 0, 80, .inl fo)), (nr, .inl (N.2 0, 8, .inl ne)), (fl, .inr (1, [.ref t, .int (nI n)])), (t, .inl (N.2 0, 64, .inl tr))] := hD
  refine ck_top (y := (nI (ht i))) hhi ?_
  refine lv_istore (lv' := [(4, .int (nI (ht i))), (3, .int (nI (kd i))), (0, .ref a), (1, .int (nI i)), (2, .int (nI mi))]) hx hb dX0_carries_19 hl (by decide) rfl (fun ls hl => ?_)
  refine lv_aload_n hx hb dX0_carries_21 rfl (lv_at hl 2 rfl) ?_
  refine va_get (ci := 0) (v := .ref wi) (C := RX0) (T := TX0) (N := 3) hx hb hg inX0 hown hE.1 hP 0 rfl rfl 1 (by decide) (hg _ k1_68) (fun _ h9 => h9) rfl dX0_carries_22 ?_
  refine lv_iload hx hb dX0_carries_25 (lv_at hl 0 rfl) ?_
  refine lv_iload_n hx hb dX0_carries_27 rfl (lv_at hl 4 rfl) ?_
  refine ck_Vi (As := [.int (nI (ht i)), .int (nI mi)]) (rest := []) (wr := [(a, .inr (0, [.ref fl, .ref wi, .ref nr])), (nr, .inl (N.2 0, 8, .inl ne)), (fl, .inr (1, [.ref t, .int (nI n)])), (t, .inl (N.2 0, 64, .inl tr))]) C0 hP hD hS (c_X8_forceOf l N wi d f di fo (ht i) mi (by omega)) myX8_forceOf k2_166 ⟨Nat.le_of_ble_eq_true rfl, Nat.le_of_ble_eq_true rfl⟩ [1, 2, 3] [0, 4, 5, 6] ⟨⟨rfl, rfl⟩, by decide, by decide, by decide⟩ 1 rfl rfl rfl rfl hl.1 rfl (Nat.le_of_ble_eq_true rfl) dX0_carries_28 ⟨Nat.le_of_ble_eq_true rfl, Nat.le_of_ble_eq_true rfl⟩ (fun r_5 u0 H locs hw0 hP hD hS => ?_)
  have hw_6 : r_5 = (fo ((ht i) * 20 + mi)) := hw0
  subst hw_6
  have hP : va_P N.1 vwCl [(a, .inr (0, [.ref fl, .ref wi, .ref nr])), (nr, .inl (N.2 0, 8, .inl ne)), (fl, .inr (1, [.ref t, .int (nI n)])), (t, .inl (N.2 0, 64, .inl tr)), (wi, .inr (8, [.ref d, .ref f])), (d, .inl (N.2 0, 80, .inl di)), (f, .inl (N.2 0, 80, .inl fo))] H := hP
  have hD : va_D Ag [(a, .inr (0, [.ref fl, .ref wi, .ref nr])), (nr, .inl (N.2 0, 8, .inl ne)), (fl, .inr (1, [.ref t, .int (nI n)])), (t, .inl (N.2 0, 64, .inl tr)), (wi, .inr (8, [.ref d, .ref f])), (d, .inl (N.2 0, 80, .inl di)), (f, .inl (N.2 0, 80, .inl fo))] := hD
  refine lv_istore (lv' := [(5, .int (fo ((ht i) * 20 + mi))), (4, .int (nI (ht i))), (3, .int (nI (kd i))), (0, .ref a), (1, .int (nI i)), (2, .int (nI mi))]) hx hb dX0_carries_31 hl (by decide) rfl (fun ls hl => ?_)
  refine lv_aload_n hx hb dX0_carries_33 rfl (lv_at hl 3 rfl) ?_
  refine va_get (ci := 0) (v := .ref fl) (C := RX0) (T := TX0) (N := 3) hx hb hg inX0 hown hE.1 hP 0 rfl rfl 0 (by decide) (hg _ k1_65) (fun _ h9 => h9) rfl dX0_carries_34 ?_
  refine lv_iload_n hx hb dX0_carries_37 rfl (lv_at hl 4 rfl) ?_
  refine lv_bipush (v := (nI 6)) hx hb dX0_carries_38 (by decide) ?_
  refine ck_Vi (As := [.int (nI i), .int (nI 6)]) (rest := []) (wr := [(a, .inr (0, [.ref fl, .ref wi, .ref nr])), (nr, .inl (N.2 0, 8, .inl ne)), (wi, .inr (8, [.ref d, .ref f])), (d, .inl (N.2 0, 80, .inl di)), (f, .inl (N.2 0, 80, .inl fo))]) C0 hP hD hS (c_X1_told l N fl t tr n i 6 (by omega)) myX1_told k2_165 ⟨Nat.le_of_ble_eq_true rfl, Nat.le_of_ble_eq_true rfl⟩ [2, 3] [0, 1, 4, 5, 6] ⟨⟨rfl, rfl⟩, by decide, by decide, by decide⟩ 2 rfl rfl rfl rfl hl.1 rfl (Nat.le_of_ble_eq_true rfl) dX0_carries_40 ⟨Nat.le_of_ble_eq_true rfl, Nat.le_of_ble_eq_true rfl⟩ (fun r_7 u0 H locs hw0 hP hD hS => ?_)
  have hw_8 : r_7 = (tr (i * 8 + 6)) := hw0
  subst hw_8
  have hP : va_P N.1 vwCl [(a, .inr (0, [.ref fl, .ref wi, .ref nr])), (nr, .inl (N.2 0, 8, .inl ne)), (wi, .inr (8, [.ref d, .ref f])), (d, .inl (N.2 0, 80, .inl di)), (f, .inl (N.2 0, 80, .inl fo)), (fl, .inr (1, [.ref t, .int (nI n)])), (t, .inl (N.2 0, 64, .inl tr))] H := hP
  have hD : va_D Ag [(a, .inr (0, [.ref fl, .ref wi, .ref nr])), (nr, .inl (N.2 0, 8, .inl ne)), (wi, .inr (8, [.ref d, .ref f])), (d, .inl (N.2 0, 80, .inl di)), (f, .inl (N.2 0, 80, .inl fo)), (fl, .inr (1, [.ref t, .int (nI n)])), (t, .inl (N.2 0, 64, .inl tr))] := hD
  refine lv_istore (lv' := [(6, .int (tr (i * 8 + 6))), (5, .int (fo ((ht i) * 20 + mi))), (4, .int (nI (ht i))), (3, .int (nI (kd i))), (0, .ref a), (1, .int (nI i)), (2, .int (nI mi))]) hx hb dX0_carries_43 hl (by decide) rfl (fun ls hl => ?_)
  refine lv_aload_n hx hb dX0_carries_45 rfl (lv_at hl 4 rfl) ?_
  refine va_get (ci := 0) (v := .ref fl) (C := RX0) (T := TX0) (N := 3) hx hb hg inX0 hown hE.1 hP 0 rfl rfl 0 (by decide) (hg _ k1_65) (fun _ h9 => h9) rfl dX0_carries_46 ?_
  refine lv_iload_n hx hb dX0_carries_49 rfl (lv_at hl 5 rfl) ?_
  refine lv_bipush (v := (nI 7)) hx hb dX0_carries_50 (by decide) ?_
  refine ck_Vi (As := [.int (nI i), .int (nI 7)]) (rest := []) (wr := [(a, .inr (0, [.ref fl, .ref wi, .ref nr])), (nr, .inl (N.2 0, 8, .inl ne)), (wi, .inr (8, [.ref d, .ref f])), (d, .inl (N.2 0, 80, .inl di)), (f, .inl (N.2 0, 80, .inl fo))]) C0 hP hD hS (c_X1_told l N fl t tr n i 7 (by omega)) myX1_told k2_165 ⟨Nat.le_of_ble_eq_true rfl, Nat.le_of_ble_eq_true rfl⟩ [5, 6] [0, 1, 2, 3, 4] ⟨⟨rfl, rfl⟩, by decide, by decide, by decide⟩ 5 rfl rfl rfl rfl hl.1 rfl (Nat.le_of_ble_eq_true rfl) dX0_carries_52 ⟨Nat.le_of_ble_eq_true rfl, Nat.le_of_ble_eq_true rfl⟩ (fun r_9 u0 H locs hw0 hP hD hS => ?_)
  have hw_10 : r_9 = (tr (i * 8 + 7)) := hw0
  subst hw_10
  have hP : va_P N.1 vwCl [(a, .inr (0, [.ref fl, .ref wi, .ref nr])), (nr, .inl (N.2 0, 8, .inl ne)), (wi, .inr (8, [.ref d, .ref f])), (d, .inl (N.2 0, 80, .inl di)), (f, .inl (N.2 0, 80, .inl fo)), (fl, .inr (1, [.ref t, .int (nI n)])), (t, .inl (N.2 0, 64, .inl tr))] H := hP
  have hD : va_D Ag [(a, .inr (0, [.ref fl, .ref wi, .ref nr])), (nr, .inl (N.2 0, 8, .inl ne)), (wi, .inr (8, [.ref d, .ref f])), (d, .inl (N.2 0, 80, .inl di)), (f, .inl (N.2 0, 80, .inl fo)), (fl, .inr (1, [.ref t, .int (nI n)])), (t, .inl (N.2 0, 64, .inl tr))] := hD
  refine lv_istore (lv' := [(7, .int (tr (i * 8 + 7))), (6, .int (tr (i * 8 + 6))), (5, .int (fo ((ht i) * 20 + mi))), (4, .int (nI (ht i))), (3, .int (nI (kd i))), (0, .ref a), (1, .int (nI i)), (2, .int (nI mi))]) hx hb dX0_carries_55 hl (by decide) rfl (fun ls hl => ?_)
  refine lv_iload_n hx hb dX0_carries_57 rfl (lv_at hl 4 rfl) ?_
  refine lv_iconst (v := (nI 2)) hx hb dX0_carries_58 (by decide) ?_
  refine ck_ic_ne (tgt := 68) hx hb dX0_carries_59 (by decide) (by omega) (by omega) (fun cz_11 => ?_) (fun cz_11 => ?_)
  · refine lv_iload hx hb dX0_carries_68 (lv_at hl 2 rfl) ?_
    refine lv_iload hx hb dX0_carries_70 (lv_at hl 1 rfl) ?_
    refine lv_icmp_lt (tgt := 82) hx hb dX0_carries_72 (by decide) (fun cz_12 => ?_) (fun cz_12 => ?_)
    · refine lv_iconst (v := (nI 0)) hx hb dX0_carries_82 (by decide) ?_
      refine ck_top (y := (b2i false)) (by decide) ?_
      exact ck_zret (b := false) hx hb hrt hlk () (congrArg b2i (by simp only [fFly, fLo, fHi, if_neg cz_11]; rw [ckIn_lo cz_12]; rfl)) (hP.sub [0, 5, 6, 2, 3, 4, 1] rfl) (hD.sub [0, 5, 6, 2, 3, 4, 1] (by decide) rfl) hS ⟨Nat.le_of_ble_eq_true rfl, Nat.le_of_ble_eq_true rfl⟩ dX0_carries_83
    refine lv_iload hx hb dX0_carries_75 (lv_at hl 2 rfl) ?_
    refine lv_iload hx hb dX0_carries_77 (lv_at hl 0 rfl) ?_
    refine lv_icmp_le (tgt := 84) hx hb dX0_carries_79 (by decide) (fun cz_13 => ?_) (fun cz_13 => ?_)
    · refine lv_iload_n hx hb dX0_carries_84 rfl (lv_at hl 4 rfl) ?_
      refine lv_iconst (v := (nI 1)) hx hb dX0_carries_85 (by decide) ?_
      refine ck_SNi (As := [.int (nI (kd i)), .int (nI 1)]) (rest := []) (wr := [(a, .inr (0, [.ref fl, .ref wi, .ref nr])), (nr, .inl (N.2 0, 8, .inl ne)), (wi, .inr (8, [.ref d, .ref f])), (d, .inl (N.2 0, 80, .inl di)), (f, .inl (N.2 0, 80, .inl fo)), (fl, .inr (1, [.ref t, .int (nI n)])), (t, .inl (N.2 0, 64, .inl tr))]) C0 hP hD hS (c_X10_isUnder l N (kd i) 1 (by omega) (by omega)) myX10_isUnder 13 rfl ⟨Nat.le_of_ble_eq_true rfl, Nat.le_of_ble_eq_true rfl⟩ [] [0, 1, 2, 3, 4, 5, 6] ⟨⟨rfl, rfl⟩, by decide, by decide, by decide⟩ rfl hl.1 rfl (Nat.le_of_ble_eq_true rfl) dX0_carries_86 ⟨Nat.le_of_ble_eq_true rfl, Nat.le_of_ble_eq_true rfl⟩ (fun r_14 u0 H locs hw0 hP hD hS => ?_)
      have hw_15 : r_14 = (b2i (ckUnder (kd i) 1)) := hw0
      subst hw_15
      have hP : va_P N.1 vwCl [(a, .inr (0, [.ref fl, .ref wi, .ref nr])), (nr, .inl (N.2 0, 8, .inl ne)), (wi, .inr (8, [.ref d, .ref f])), (d, .inl (N.2 0, 80, .inl di)), (f, .inl (N.2 0, 80, .inl fo)), (fl, .inr (1, [.ref t, .int (nI n)])), (t, .inl (N.2 0, 64, .inl tr))] H := hP
      have hD : va_D Ag [(a, .inr (0, [.ref fl, .ref wi, .ref nr])), (nr, .inl (N.2 0, 8, .inl ne)), (wi, .inr (8, [.ref d, .ref f])), (d, .inl (N.2 0, 80, .inl di)), (f, .inl (N.2 0, 80, .inl fo)), (fl, .inr (1, [.ref t, .int (nI n)])), (t, .inl (N.2 0, 64, .inl tr))] := hD
      refine ck_ifeq (b := ckUnder (kd i) 1) (tgt := 102) hx hb dX0_carries_89 (by decide) (fun cz_16 => ?_) (fun cz_16 => ?_)
      · refine lv_iconst (v := (nI 1)) hx hb dX0_carries_102 (by decide) ?_
        refine lv_goto (tgt := 107) hx hb dX0_carries_103 (by decide) ?_
        refine ck_top (y := (b2i true)) (by decide) ?_
        exact ck_zret (b := true) hx hb hrt hlk () (congrArg b2i (by simp only [fFly, fLo, fHi, if_neg cz_11]; rw [ckIn_ok cz_12 cz_13, cz_16]; rfl)) (hP.sub [0, 5, 6, 2, 3, 4, 1] rfl) (hD.sub [0, 5, 6, 2, 3, 4, 1] (by decide) rfl) hS ⟨Nat.le_of_ble_eq_true rfl, Nat.le_of_ble_eq_true rfl⟩ dX0_carries_107
      refine lv_aload_n hx hb dX0_carries_92 rfl (lv_at hl 5 rfl) ?_
      refine lv_iload hx hb dX0_carries_93 (lv_at hl 3 rfl) ?_
      refine lv_iload_n hx hb dX0_carries_95 rfl (lv_at hl 7 rfl) ?_
      refine ck_Vi (As := [.int (nI (ht i)), .int (nI mi)]) (rest := []) (wr := []) C0 hP hD hS (c_X0_isSteady l N a fl t wi d f nr tr n di fo ne kd ht dr (ht i) mi (by omega) (by omega)) myX0_isSteady k2_168 ⟨Nat.le_of_ble_eq_true rfl, Nat.le_of_ble_eq_true rfl⟩ [0, 5, 6, 2, 3, 4, 1] [] ⟨⟨rfl, rfl⟩, by decide, by decide, by decide⟩ 0 rfl rfl rfl rfl hl.1 rfl (Nat.le_of_ble_eq_true rfl) dX0_carries_96 ⟨Nat.le_of_ble_eq_true rfl, Nat.le_of_ble_eq_true rfl⟩ (fun r_17 u0 H locs hw0 hP hD hS => ?_)
      have hw_18 : r_17 = (b2i (ckSteady fo (ht i) mi)) := hw0
      subst hw_18
      have hP : va_P N.1 vwCl [(a, .inr (0, [.ref fl, .ref wi, .ref nr])), (fl, .inr (1, [.ref t, .int (nI n)])), (t, .inl (N.2 0, 64, .inl tr)), (wi, .inr (8, [.ref d, .ref f])), (d, .inl (N.2 0, 80, .inl di)), (f, .inl (N.2 0, 80, .inl fo)), (nr, .inl (N.2 0, 8, .inl ne))] H := hP
      have hD : va_D Ag [(a, .inr (0, [.ref fl, .ref wi, .ref nr])), (fl, .inr (1, [.ref t, .int (nI n)])), (t, .inl (N.2 0, 64, .inl tr)), (wi, .inr (8, [.ref d, .ref f])), (d, .inl (N.2 0, 80, .inl di)), (f, .inl (N.2 0, 80, .inl fo)), (nr, .inl (N.2 0, 8, .inl ne))] := hD
      refine ck_ifeq (b := ckSteady fo (ht i) mi) (tgt := 106) hx hb dX0_carries_99 (by decide) (fun cz_19 => ?_) (fun cz_19 => ?_)
      · refine lv_iconst (v := (nI 0)) hx hb dX0_carries_106 (by decide) ?_
        refine ck_top (y := (b2i false)) (by decide) ?_
        exact ck_zret (b := false) hx hb hrt hlk () (congrArg b2i (by simp only [fFly, fLo, fHi, if_neg cz_11]; rw [ckIn_ok cz_12 cz_13, cz_16, cz_19]; rfl)) hP hD hS ⟨Nat.le_of_ble_eq_true rfl, Nat.le_of_ble_eq_true rfl⟩ dX0_carries_107
      refine lv_iconst (v := (nI 1)) hx hb dX0_carries_102 (by decide) ?_
      refine lv_goto (tgt := 107) hx hb dX0_carries_103 (by decide) ?_
      refine ck_top (y := (b2i true)) (by decide) ?_
      exact ck_zret (b := true) hx hb hrt hlk () (congrArg b2i (by simp only [fFly, fLo, fHi, if_neg cz_11]; rw [ckIn_ok cz_12 cz_13, cz_16, cz_19]; rfl)) hP hD hS ⟨Nat.le_of_ble_eq_true rfl, Nat.le_of_ble_eq_true rfl⟩ dX0_carries_107
    refine lv_iconst (v := (nI 0)) hx hb dX0_carries_82 (by decide) ?_
    refine ck_top (y := (b2i false)) (by decide) ?_
    exact ck_zret (b := false) hx hb hrt hlk () (congrArg b2i (by simp only [fFly, fLo, fHi, if_neg cz_11]; rw [ckIn_hi cz_13]; rfl)) (hP.sub [0, 5, 6, 2, 3, 4, 1] rfl) (hD.sub [0, 5, 6, 2, 3, 4, 1] (by decide) rfl) hS ⟨Nat.le_of_ble_eq_true rfl, Nat.le_of_ble_eq_true rfl⟩ dX0_carries_83
  refine lv_iinc (v := ((tr (i * 8 + 6)) + 1)) (lv' := [(6, .int ((tr (i * 8 + 6)) + 1)), (7, .int (tr (i * 8 + 7))), (5, .int (fo ((ht i) * 20 + mi))), (4, .int (nI (ht i))), (3, .int (nI (kd i))), (0, .ref a), (1, .int (nI i)), (2, .int (nI mi))]) hx hb dX0_carries_62 hl (k := 1) rfl rfl (by decide) rfl (fun ls hl => ?_)
  refine lv_iinc (v := ((tr (i * 8 + 7)) + 2)) (lv' := [(7, .int ((tr (i * 8 + 7)) + 2)), (6, .int ((tr (i * 8 + 6)) + 1)), (5, .int (fo ((ht i) * 20 + mi))), (4, .int (nI (ht i))), (3, .int (nI (kd i))), (0, .ref a), (1, .int (nI i)), (2, .int (nI mi))]) hx hb dX0_carries_65 hl (k := 1) rfl rfl (by decide) rfl (fun ls hl => ?_)
  refine lv_iload hx hb dX0_carries_68 (lv_at hl 2 rfl) ?_
  refine lv_iload hx hb dX0_carries_70 (lv_at hl 1 rfl) ?_
  refine lv_icmp_lt (tgt := 82) hx hb dX0_carries_72 (by decide) (fun cz_20 => ?_) (fun cz_20 => ?_)
  · refine lv_iconst (v := (nI 0)) hx hb dX0_carries_82 (by decide) ?_
    refine ck_top (y := (b2i false)) (by decide) ?_
    exact ck_zret (b := false) hx hb hrt hlk () (congrArg b2i (by simp only [fFly, fLo, fHi, if_pos cz_11]; rw [ckIn_lo cz_20]; rfl)) (hP.sub [0, 5, 6, 2, 3, 4, 1] rfl) (hD.sub [0, 5, 6, 2, 3, 4, 1] (by decide) rfl) hS ⟨Nat.le_of_ble_eq_true rfl, Nat.le_of_ble_eq_true rfl⟩ dX0_carries_83
  refine lv_iload hx hb dX0_carries_75 (lv_at hl 2 rfl) ?_
  refine lv_iload hx hb dX0_carries_77 (lv_at hl 0 rfl) ?_
  refine lv_icmp_le (tgt := 84) hx hb dX0_carries_79 (by decide) (fun cz_21 => ?_) (fun cz_21 => ?_)
  · refine lv_iload_n hx hb dX0_carries_84 rfl (lv_at hl 4 rfl) ?_
    refine lv_iconst (v := (nI 1)) hx hb dX0_carries_85 (by decide) ?_
    refine ck_SNi (As := [.int (nI (kd i)), .int (nI 1)]) (rest := []) (wr := [(a, .inr (0, [.ref fl, .ref wi, .ref nr])), (nr, .inl (N.2 0, 8, .inl ne)), (wi, .inr (8, [.ref d, .ref f])), (d, .inl (N.2 0, 80, .inl di)), (f, .inl (N.2 0, 80, .inl fo)), (fl, .inr (1, [.ref t, .int (nI n)])), (t, .inl (N.2 0, 64, .inl tr))]) C0 hP hD hS (c_X10_isUnder l N (kd i) 1 (by omega) (by omega)) myX10_isUnder 13 rfl ⟨Nat.le_of_ble_eq_true rfl, Nat.le_of_ble_eq_true rfl⟩ [] [0, 1, 2, 3, 4, 5, 6] ⟨⟨rfl, rfl⟩, by decide, by decide, by decide⟩ rfl hl.1 rfl (Nat.le_of_ble_eq_true rfl) dX0_carries_86 ⟨Nat.le_of_ble_eq_true rfl, Nat.le_of_ble_eq_true rfl⟩ (fun r_22 u0 H locs hw0 hP hD hS => ?_)
    have hw_23 : r_22 = (b2i (ckUnder (kd i) 1)) := hw0
    subst hw_23
    have hP : va_P N.1 vwCl [(a, .inr (0, [.ref fl, .ref wi, .ref nr])), (nr, .inl (N.2 0, 8, .inl ne)), (wi, .inr (8, [.ref d, .ref f])), (d, .inl (N.2 0, 80, .inl di)), (f, .inl (N.2 0, 80, .inl fo)), (fl, .inr (1, [.ref t, .int (nI n)])), (t, .inl (N.2 0, 64, .inl tr))] H := hP
    have hD : va_D Ag [(a, .inr (0, [.ref fl, .ref wi, .ref nr])), (nr, .inl (N.2 0, 8, .inl ne)), (wi, .inr (8, [.ref d, .ref f])), (d, .inl (N.2 0, 80, .inl di)), (f, .inl (N.2 0, 80, .inl fo)), (fl, .inr (1, [.ref t, .int (nI n)])), (t, .inl (N.2 0, 64, .inl tr))] := hD
    refine ck_ifeq (b := ckUnder (kd i) 1) (tgt := 102) hx hb dX0_carries_89 (by decide) (fun cz_24 => ?_) (fun cz_24 => ?_)
    · refine lv_iconst (v := (nI 1)) hx hb dX0_carries_102 (by decide) ?_
      refine lv_goto (tgt := 107) hx hb dX0_carries_103 (by decide) ?_
      refine ck_top (y := (b2i true)) (by decide) ?_
      exact ck_zret (b := true) hx hb hrt hlk () (congrArg b2i (by simp only [fFly, fLo, fHi, if_pos cz_11]; rw [ckIn_ok cz_20 cz_21, cz_24]; rfl)) (hP.sub [0, 5, 6, 2, 3, 4, 1] rfl) (hD.sub [0, 5, 6, 2, 3, 4, 1] (by decide) rfl) hS ⟨Nat.le_of_ble_eq_true rfl, Nat.le_of_ble_eq_true rfl⟩ dX0_carries_107
    refine lv_aload_n hx hb dX0_carries_92 rfl (lv_at hl 5 rfl) ?_
    refine lv_iload hx hb dX0_carries_93 (lv_at hl 3 rfl) ?_
    refine lv_iload_n hx hb dX0_carries_95 rfl (lv_at hl 7 rfl) ?_
    refine ck_Vi (As := [.int (nI (ht i)), .int (nI mi)]) (rest := []) (wr := []) C0 hP hD hS (c_X0_isSteady l N a fl t wi d f nr tr n di fo ne kd ht dr (ht i) mi (by omega) (by omega)) myX0_isSteady k2_168 ⟨Nat.le_of_ble_eq_true rfl, Nat.le_of_ble_eq_true rfl⟩ [0, 5, 6, 2, 3, 4, 1] [] ⟨⟨rfl, rfl⟩, by decide, by decide, by decide⟩ 0 rfl rfl rfl rfl hl.1 rfl (Nat.le_of_ble_eq_true rfl) dX0_carries_96 ⟨Nat.le_of_ble_eq_true rfl, Nat.le_of_ble_eq_true rfl⟩ (fun r_25 u0 H locs hw0 hP hD hS => ?_)
    have hw_26 : r_25 = (b2i (ckSteady fo (ht i) mi)) := hw0
    subst hw_26
    have hP : va_P N.1 vwCl [(a, .inr (0, [.ref fl, .ref wi, .ref nr])), (fl, .inr (1, [.ref t, .int (nI n)])), (t, .inl (N.2 0, 64, .inl tr)), (wi, .inr (8, [.ref d, .ref f])), (d, .inl (N.2 0, 80, .inl di)), (f, .inl (N.2 0, 80, .inl fo)), (nr, .inl (N.2 0, 8, .inl ne))] H := hP
    have hD : va_D Ag [(a, .inr (0, [.ref fl, .ref wi, .ref nr])), (fl, .inr (1, [.ref t, .int (nI n)])), (t, .inl (N.2 0, 64, .inl tr)), (wi, .inr (8, [.ref d, .ref f])), (d, .inl (N.2 0, 80, .inl di)), (f, .inl (N.2 0, 80, .inl fo)), (nr, .inl (N.2 0, 8, .inl ne))] := hD
    refine ck_ifeq (b := ckSteady fo (ht i) mi) (tgt := 106) hx hb dX0_carries_99 (by decide) (fun cz_27 => ?_) (fun cz_27 => ?_)
    · refine lv_iconst (v := (nI 0)) hx hb dX0_carries_106 (by decide) ?_
      refine ck_top (y := (b2i false)) (by decide) ?_
      exact ck_zret (b := false) hx hb hrt hlk () (congrArg b2i (by simp only [fFly, fLo, fHi, if_pos cz_11]; rw [ckIn_ok cz_20 cz_21, cz_24, cz_27]; rfl)) hP hD hS ⟨Nat.le_of_ble_eq_true rfl, Nat.le_of_ble_eq_true rfl⟩ dX0_carries_107
    refine lv_iconst (v := (nI 1)) hx hb dX0_carries_102 (by decide) ?_
    refine lv_goto (tgt := 107) hx hb dX0_carries_103 (by decide) ?_
    refine ck_top (y := (b2i true)) (by decide) ?_
    exact ck_zret (b := true) hx hb hrt hlk () (congrArg b2i (by simp only [fFly, fLo, fHi, if_pos cz_11]; rw [ckIn_ok cz_20 cz_21, cz_24, cz_27]; rfl)) hP hD hS ⟨Nat.le_of_ble_eq_true rfl, Nat.le_of_ble_eq_true rfl⟩ dX0_carries_107
  refine lv_iconst (v := (nI 0)) hx hb dX0_carries_82 (by decide) ?_
  refine ck_top (y := (b2i false)) (by decide) ?_
  exact ck_zret (b := false) hx hb hrt hlk () (congrArg b2i (by simp only [fFly, fLo, fHi, if_pos cz_11]; rw [ckIn_hi cz_21]; rfl)) (hP.sub [0, 5, 6, 2, 3, 4, 1] rfl) (hD.sub [0, 5, 6, 2, 3, 4, 1] (by decide) rfl) hS ⟨Nat.le_of_ble_eq_true rfl, Nat.le_of_ble_eq_true rfl⟩ dX0_carries_83
set_option maxHeartbeats 4000000 in
set_option maxRecDepth 100000 in
/-- X0_directionFor -/
theorem c_X0_directionFor (l : Launch) (N : ckN) (a : Nat) (fl : Nat) (t : Nat) (wi : Nat) (d : Nat) (f : Nat) (nr : Nat) (tr : Nat → Int32) (n : Nat) (di : Nat → Int32) (fo : Nat → Int32) (ne : Nat → Int32) (kd : Nat → Nat) (ht : Nat → Nat) (dr : Nat → Nat) (i : Nat) (mi : Nat) (hAir : ckAir tr di n kd ht dr) (hi : i < n) (hm : mi < 20) : ckI l yX0_directionFor cX0_directionFor 3 (some FieldType.int) { frames := 3, cells := 0, slots := 0, locals := 82 } N [.ref a, .int (nI i), .int (nI mi)] [(a, .inr (0, [.ref fl, .ref wi, .ref nr])), (fl, .inr (1, [.ref t, .int (nI n)])), (t, .inl (N.2 0, 64, .inl tr)), (wi, .inr (8, [.ref d, .ref f])), (d, .inl (N.2 0, 80, .inl di)), (f, .inl (N.2 0, 80, .inl fo)), (nr, .inl (N.2 0, 8, .inl ne))] (fun (r : Int32) (u : Unit) => r = (nI (dr (ht i * 20 + mi)))) (fun (u : Unit) => [(a, .inr (0, [.ref fl, .ref wi, .ref nr])), (fl, .inr (1, [.ref t, .int (nI n)])), (t, .inl (N.2 0, 64, .inl tr)), (wi, .inr (8, [.ref d, .ref f])), (d, .inl (N.2 0, 80, .inl di)), (f, .inl (N.2 0, 80, .inl fo)), (nr, .inl (N.2 0, 8, .inl ne))]) := by
  refine ckI.of (by decide) (Nat.le_of_ble_eq_true rfl) ?_
  intro pg eg sg mg blw mth cg Ag ls hx hb hrt hml hown hlk hin hg hE hA hP hD hS hl
  have hown : sg.vm.findClass RX0 = some mg.cls := hown
  have hl : lv_has ls 3 [(0, .ref a), (1, .int (nI i)), (2, .int (nI mi))] := hl
  have C0 : ckC pg sg mg ([.ref a, .int (nI i), .int (nI mi)]).toArray cg cX0_directionFor 3 RX0 N Ag := ⟨⟨hx, hb, hml, hown, hg⟩, hE, hA⟩
  generalize hHe : sg.heap = H at hP
  have hS : va_S Ag sg.heap H [] := hHe ▸ hS
  obtain ⟨hn8, hAi, hAd⟩ := id hAir
  obtain ⟨hki, hk4, hhi, hh4⟩ := hAi i hi
  obtain ⟨hdj, hd8⟩ := hAd (ht i * 20 + mi) (by omega)
  refine lv_aload_n hx hb dX0_directionFor_0 rfl (lv_at hl 0 rfl) ?_
  refine va_get (ci := 0) (v := .ref wi) (C := RX0) (T := TX0) (N := 3) hx hb hg inX0 hown hE.1 hP 0 rfl rfl 1 (by decide) (hg _ k1_68) (fun _ h9 => h9) rfl dX0_directionFor_1 ?_
  refine lv_aload_n hx hb dX0_directionFor_4 rfl (lv_at hl 0 rfl) ?_
  refine va_get (ci := 0) (v := .ref fl) (C := RX0) (T := TX0) (N := 3) hx hb hg inX0 hown hE.1 hP 0 rfl rfl 0 (by decide) (hg _ k1_65) (fun _ h9 => h9) rfl dX0_directionFor_5 ?_
  refine lv_iload_n hx hb dX0_directionFor_8 rfl (lv_at hl 1 rfl) ?_
  refine lv_iconst (v := (nI 3)) hx hb dX0_directionFor_9 (by decide) ?_
  refine ck_Vi (As := [.int (nI i), .int (nI 3)]) (rest := [.ref wi]) (wr := [(a, .inr (0, [.ref fl, .ref wi, .ref nr])), (wi, .inr (8, [.ref d, .ref f])), (d, .inl (N.2 0, 80, .inl di)), (f, .inl (N.2 0, 80, .inl fo)), (nr, .inl (N.2 0, 8, .inl ne))]) C0 hP hD hS (c_X1_told l N fl t tr n i 3 (by omega)) myX1_told k2_165 ⟨Nat.le_of_ble_eq_true rfl, Nat.le_of_ble_eq_true rfl⟩ [1, 2] [0, 3, 4, 5, 6] ⟨⟨rfl, rfl⟩, by decide, by decide, by decide⟩ 1 rfl rfl rfl rfl hl.1 rfl (Nat.le_of_ble_eq_true rfl) dX0_directionFor_10 ⟨Nat.le_of_ble_eq_true rfl, Nat.le_of_ble_eq_true rfl⟩ (fun r_1 u0 H locs hw0 hP hD hS => ?_)
  have hw_2 : r_1 = (tr (i * 8 + 3)) := hw0
  subst hw_2
  have hP : va_P N.1 vwCl [(a, .inr (0, [.ref fl, .ref wi, .ref nr])), (wi, .inr (8, [.ref d, .ref f])), (d, .inl (N.2 0, 80, .inl di)), (f, .inl (N.2 0, 80, .inl fo)), (nr, .inl (N.2 0, 8, .inl ne)), (fl, .inr (1, [.ref t, .int (nI n)])), (t, .inl (N.2 0, 64, .inl tr))] H := hP
  have hD : va_D Ag [(a, .inr (0, [.ref fl, .ref wi, .ref nr])), (wi, .inr (8, [.ref d, .ref f])), (d, .inl (N.2 0, 80, .inl di)), (f, .inl (N.2 0, 80, .inl fo)), (nr, .inl (N.2 0, 8, .inl ne)), (fl, .inr (1, [.ref t, .int (nI n)])), (t, .inl (N.2 0, 64, .inl tr))] := hD
  refine ck_top (y := (nI (ht i))) hhi ?_
  refine lv_iload_n hx hb dX0_directionFor_13 rfl (lv_at hl 2 rfl) ?_
  refine ck_Vi (As := [.int (nI (ht i)), .int (nI mi)]) (rest := []) (wr := [(a, .inr (0, [.ref fl, .ref wi, .ref nr])), (nr, .inl (N.2 0, 8, .inl ne)), (fl, .inr (1, [.ref t, .int (nI n)])), (t, .inl (N.2 0, 64, .inl tr))]) C0 hP hD hS (c_X8_directionOf l N wi d f di fo (ht i) mi (by omega)) myX8_directionOf k2_193 ⟨Nat.le_of_ble_eq_true rfl, Nat.le_of_ble_eq_true rfl⟩ [1, 2, 3] [0, 4, 5, 6] ⟨⟨rfl, rfl⟩, by decide, by decide, by decide⟩ 1 rfl rfl rfl rfl hl.1 rfl (Nat.le_of_ble_eq_true rfl) dX0_directionFor_14 ⟨Nat.le_of_ble_eq_true rfl, Nat.le_of_ble_eq_true rfl⟩ (fun r_3 u0 H locs hw0 hP hD hS => ?_)
  have hw_4 : r_3 = (di ((ht i) * 20 + mi)) := hw0
  subst hw_4
  have hP : va_P N.1 vwCl [(a, .inr (0, [.ref fl, .ref wi, .ref nr])), (nr, .inl (N.2 0, 8, .inl ne)), (fl, .inr (1, [.ref t, .int (nI n)])), (t, .inl (N.2 0, 64, .inl tr)), (wi, .inr (8, [.ref d, .ref f])), (d, .inl (N.2 0, 80, .inl di)), (f, .inl (N.2 0, 80, .inl fo))] H := hP
  have hD : va_D Ag [(a, .inr (0, [.ref fl, .ref wi, .ref nr])), (nr, .inl (N.2 0, 8, .inl ne)), (fl, .inr (1, [.ref t, .int (nI n)])), (t, .inl (N.2 0, 64, .inl tr)), (wi, .inr (8, [.ref d, .ref f])), (d, .inl (N.2 0, 80, .inl di)), (f, .inl (N.2 0, 80, .inl fo))] := hD
  refine ck_top (y := (nI (dr (ht i * 20 + mi)))) hdj ?_
  exact ck_iret hx hb hrt hlk () rfl (hP.sub [0, 2, 3, 4, 5, 6, 1] rfl) (hD.sub [0, 2, 3, 4, 5, 6, 1] (by decide) rfl) hS ⟨Nat.le_of_ble_eq_true rfl, Nat.le_of_ble_eq_true rfl⟩ dX0_directionFor_17
set_option maxHeartbeats 4000000 in
set_option maxRecDepth 100000 in
/-- X0_kiteX -/
theorem c_X0_kiteX (l : Launch) (N : ckN) (a : Nat) (fl : Nat) (t : Nat) (wi : Nat) (d : Nat) (f : Nat) (nr : Nat) (tr : Nat → Int32) (n : Nat) (di : Nat → Int32) (fo : Nat → Int32) (ne : Nat → Int32) (kd : Nat → Nat) (ht : Nat → Nat) (dr : Nat → Nat) (i : Nat) (mi : Nat) (hAir : ckAir tr di n kd ht dr) (hi : i < n) (hm : mi < 20) : ckI l yX0_kiteX cX0_kiteX 4 (some FieldType.int) { frames := 4, cells := 0, slots := 0, locals := 104 } N [.ref a, .int (nI i), .int (nI mi)] [(a, .inr (0, [.ref fl, .ref wi, .ref nr])), (fl, .inr (1, [.ref t, .int (nI n)])), (t, .inl (N.2 0, 64, .inl tr)), (wi, .inr (8, [.ref d, .ref f])), (d, .inl (N.2 0, 80, .inl di)), (f, .inl (N.2 0, 80, .inl fo)), (nr, .inl (N.2 0, 8, .inl ne))] (fun (r : Int32) (u : Unit) => r = (fX tr ht dr i mi)) (fun (u : Unit) => [(a, .inr (0, [.ref fl, .ref wi, .ref nr])), (fl, .inr (1, [.ref t, .int (nI n)])), (t, .inl (N.2 0, 64, .inl tr)), (wi, .inr (8, [.ref d, .ref f])), (d, .inl (N.2 0, 80, .inl di)), (f, .inl (N.2 0, 80, .inl fo)), (nr, .inl (N.2 0, 8, .inl ne))]) := by
  refine ckI.of (by decide) (Nat.le_of_ble_eq_true rfl) ?_
  intro pg eg sg mg blw mth cg Ag ls hx hb hrt hml hown hlk hin hg hE hA hP hD hS hl
  have hown : sg.vm.findClass RX0 = some mg.cls := hown
  have hl : lv_has ls 4 [(0, .ref a), (1, .int (nI i)), (2, .int (nI mi))] := hl
  have C0 : ckC pg sg mg ([.ref a, .int (nI i), .int (nI mi)]).toArray cg cX0_kiteX 4 RX0 N Ag := ⟨⟨hx, hb, hml, hown, hg⟩, hE, hA⟩
  generalize hHe : sg.heap = H at hP
  have hS : va_S Ag sg.heap H [] := hHe ▸ hS
  obtain ⟨hn8, hAi, hAd⟩ := id hAir
  obtain ⟨hki, hk4, hhi, hh4⟩ := hAi i hi
  obtain ⟨hdj, hd8⟩ := hAd (ht i * 20 + mi) (by omega)
  refine lv_aload_n hx hb dX0_kiteX_0 rfl (lv_at hl 0 rfl) ?_
  refine va_get (ci := 0) (v := .ref fl) (C := RX0) (T := TX0) (N := 3) hx hb hg inX0 hown hE.1 hP 0 rfl rfl 0 (by decide) (hg _ k1_65) (fun _ h9 => h9) rfl dX0_kiteX_1 ?_
  refine lv_iload_n hx hb dX0_kiteX_4 rfl (lv_at hl 1 rfl) ?_
  refine lv_iconst (v := (nI 4)) hx hb dX0_kiteX_5 (by decide) ?_
  refine ck_Vi (As := [.int (nI i), .int (nI 4)]) (rest := []) (wr := [(a, .inr (0, [.ref fl, .ref wi, .ref nr])), (wi, .inr (8, [.ref d, .ref f])), (d, .inl (N.2 0, 80, .inl di)), (f, .inl (N.2 0, 80, .inl fo)), (nr, .inl (N.2 0, 8, .inl ne))]) C0 hP hD hS (c_X1_told l N fl t tr n i 4 (by omega)) myX1_told k2_165 ⟨Nat.le_of_ble_eq_true rfl, Nat.le_of_ble_eq_true rfl⟩ [1, 2] [0, 3, 4, 5, 6] ⟨⟨rfl, rfl⟩, by decide, by decide, by decide⟩ 1 rfl rfl rfl rfl hl.1 rfl (Nat.le_of_ble_eq_true rfl) dX0_kiteX_6 ⟨Nat.le_of_ble_eq_true rfl, Nat.le_of_ble_eq_true rfl⟩ (fun r_1 u0 H locs hw0 hP hD hS => ?_)
  have hw_2 : r_1 = (tr (i * 8 + 4)) := hw0
  subst hw_2
  have hP : va_P N.1 vwCl [(a, .inr (0, [.ref fl, .ref wi, .ref nr])), (wi, .inr (8, [.ref d, .ref f])), (d, .inl (N.2 0, 80, .inl di)), (f, .inl (N.2 0, 80, .inl fo)), (nr, .inl (N.2 0, 8, .inl ne)), (fl, .inr (1, [.ref t, .int (nI n)])), (t, .inl (N.2 0, 64, .inl tr))] H := hP
  have hD : va_D Ag [(a, .inr (0, [.ref fl, .ref wi, .ref nr])), (wi, .inr (8, [.ref d, .ref f])), (d, .inl (N.2 0, 80, .inl di)), (f, .inl (N.2 0, 80, .inl fo)), (nr, .inl (N.2 0, 8, .inl ne)), (fl, .inr (1, [.ref t, .int (nI n)])), (t, .inl (N.2 0, 64, .inl tr))] := hD
  refine lv_istore_n (lv' := [(3, .int (tr (i * 8 + 4))), (0, .ref a), (1, .int (nI i)), (2, .int (nI mi))]) hx hb dX0_kiteX_9 rfl hl (by decide) rfl (fun ls hl => ?_)
  refine lv_aload_n hx hb dX0_kiteX_10 rfl (lv_at hl 1 rfl) ?_
  refine va_get (ci := 0) (v := .ref fl) (C := RX0) (T := TX0) (N := 3) hx hb hg inX0 hown hE.1 hP 0 rfl rfl 0 (by decide) (hg _ k1_65) (fun _ h9 => h9) rfl dX0_kiteX_11 ?_
  refine lv_iload_n hx hb dX0_kiteX_14 rfl (lv_at hl 2 rfl) ?_
  refine lv_iconst (v := (nI 1)) hx hb dX0_kiteX_15 (by decide) ?_
  refine ck_Vi (As := [.int (nI i), .int (nI 1)]) (rest := []) (wr := [(a, .inr (0, [.ref fl, .ref wi, .ref nr])), (wi, .inr (8, [.ref d, .ref f])), (d, .inl (N.2 0, 80, .inl di)), (f, .inl (N.2 0, 80, .inl fo)), (nr, .inl (N.2 0, 8, .inl ne))]) C0 hP hD hS (c_X1_told l N fl t tr n i 1 (by omega)) myX1_told k2_165 ⟨Nat.le_of_ble_eq_true rfl, Nat.le_of_ble_eq_true rfl⟩ [5, 6] [0, 1, 2, 3, 4] ⟨⟨rfl, rfl⟩, by decide, by decide, by decide⟩ 5 rfl rfl rfl rfl hl.1 rfl (Nat.le_of_ble_eq_true rfl) dX0_kiteX_16 ⟨Nat.le_of_ble_eq_true rfl, Nat.le_of_ble_eq_true rfl⟩ (fun r_3 u0 H locs hw0 hP hD hS => ?_)
  have hw_4 : r_3 = (tr (i * 8 + 1)) := hw0
  subst hw_4
  have hP : va_P N.1 vwCl [(a, .inr (0, [.ref fl, .ref wi, .ref nr])), (wi, .inr (8, [.ref d, .ref f])), (d, .inl (N.2 0, 80, .inl di)), (f, .inl (N.2 0, 80, .inl fo)), (nr, .inl (N.2 0, 8, .inl ne)), (fl, .inr (1, [.ref t, .int (nI n)])), (t, .inl (N.2 0, 64, .inl tr))] H := hP
  have hD : va_D Ag [(a, .inr (0, [.ref fl, .ref wi, .ref nr])), (wi, .inr (8, [.ref d, .ref f])), (d, .inl (N.2 0, 80, .inl di)), (f, .inl (N.2 0, 80, .inl fo)), (nr, .inl (N.2 0, 8, .inl ne)), (fl, .inr (1, [.ref t, .int (nI n)])), (t, .inl (N.2 0, 64, .inl tr))] := hD
  refine lv_iload_n hx hb dX0_kiteX_19 rfl (lv_at hl 0 rfl) ?_
  refine va_getsN hx hb hE.2.2.2.2.2.2.1.1 hS hown (hE.nf 25 rfl _) (fun _ h9 => h9) dX0_kiteX_20 ?_
  refine lv_aload_n hx hb dX0_kiteX_23 rfl (lv_at hl 1 rfl) ?_
  refine lv_iload_n hx hb dX0_kiteX_24 rfl (lv_at hl 2 rfl) ?_
  refine lv_iload_n hx hb dX0_kiteX_25 rfl (lv_at hl 3 rfl) ?_
  refine ck_Vi (As := [.int (nI i), .int (nI mi)]) (rest := [.ref (N.2 4), .int (tr (i * 8 + 4)), .int (tr (i * 8 + 1))]) (wr := []) C0 hP hD hS (c_X0_directionFor l N a fl t wi d f nr tr n di fo ne kd ht dr i mi hAir (by omega) (by omega)) myX0_directionFor k2_189 ⟨Nat.le_of_ble_eq_true rfl, Nat.le_of_ble_eq_true rfl⟩ [0, 5, 6, 1, 2, 3, 4] [] ⟨⟨rfl, rfl⟩, by decide, by decide, by decide⟩ 0 rfl rfl rfl rfl hl.1 rfl (Nat.le_of_ble_eq_true rfl) dX0_kiteX_26 ⟨Nat.le_of_ble_eq_true rfl, Nat.le_of_ble_eq_true rfl⟩ (fun r_5 u0 H locs hw0 hP hD hS => ?_)
  have hw_6 : r_5 = (nI (dr (ht i * 20 + mi))) := hw0
  subst hw_6
  have hP : va_P N.1 vwCl [(a, .inr (0, [.ref fl, .ref wi, .ref nr])), (fl, .inr (1, [.ref t, .int (nI n)])), (t, .inl (N.2 0, 64, .inl tr)), (wi, .inr (8, [.ref d, .ref f])), (d, .inl (N.2 0, 80, .inl di)), (f, .inl (N.2 0, 80, .inl fo)), (nr, .inl (N.2 0, 8, .inl ne))] H := hP
  have hD : va_D Ag [(a, .inr (0, [.ref fl, .ref wi, .ref nr])), (fl, .inr (1, [.ref t, .int (nI n)])), (t, .inl (N.2 0, 64, .inl tr)), (wi, .inr (8, [.ref d, .ref f])), (d, .inl (N.2 0, 80, .inl di)), (f, .inl (N.2 0, 80, .inl fo)), (nr, .inl (N.2 0, 8, .inl ne))] := hD
  refine va_ti (v := .int (ckSX (dr (ht i * 20 + mi)))) hx hb hE.2.2.2.2.2.2.1.2 hS (vp_in_nI (by omega) (by decide)) (by rw [nI_clamp (by omega)]) dX0_kiteX_29 ?_
  refine lv_imul hx hb dX0_kiteX_30 ?_
  refine lv_iadd hx hb dX0_kiteX_31 ?_
  exact ck_iret hx hb hrt hlk () rfl hP hD hS ⟨Nat.le_of_ble_eq_true rfl, Nat.le_of_ble_eq_true rfl⟩ dX0_kiteX_32
set_option maxHeartbeats 4000000 in
set_option maxRecDepth 100000 in
/-- X0_kiteY -/
theorem c_X0_kiteY (l : Launch) (N : ckN) (a : Nat) (fl : Nat) (t : Nat) (wi : Nat) (d : Nat) (f : Nat) (nr : Nat) (tr : Nat → Int32) (n : Nat) (di : Nat → Int32) (fo : Nat → Int32) (ne : Nat → Int32) (kd : Nat → Nat) (ht : Nat → Nat) (dr : Nat → Nat) (i : Nat) (mi : Nat) (hAir : ckAir tr di n kd ht dr) (hi : i < n) (hm : mi < 20) : ckI l yX0_kiteY cX0_kiteY 4 (some FieldType.int) { frames := 4, cells := 0, slots := 0, locals := 104 } N [.ref a, .int (nI i), .int (nI mi)] [(a, .inr (0, [.ref fl, .ref wi, .ref nr])), (fl, .inr (1, [.ref t, .int (nI n)])), (t, .inl (N.2 0, 64, .inl tr)), (wi, .inr (8, [.ref d, .ref f])), (d, .inl (N.2 0, 80, .inl di)), (f, .inl (N.2 0, 80, .inl fo)), (nr, .inl (N.2 0, 8, .inl ne))] (fun (r : Int32) (u : Unit) => r = (fY tr ht dr i mi)) (fun (u : Unit) => [(a, .inr (0, [.ref fl, .ref wi, .ref nr])), (fl, .inr (1, [.ref t, .int (nI n)])), (t, .inl (N.2 0, 64, .inl tr)), (wi, .inr (8, [.ref d, .ref f])), (d, .inl (N.2 0, 80, .inl di)), (f, .inl (N.2 0, 80, .inl fo)), (nr, .inl (N.2 0, 8, .inl ne))]) := by
  refine ckI.of (by decide) (Nat.le_of_ble_eq_true rfl) ?_
  intro pg eg sg mg blw mth cg Ag ls hx hb hrt hml hown hlk hin hg hE hA hP hD hS hl
  have hown : sg.vm.findClass RX0 = some mg.cls := hown
  have hl : lv_has ls 4 [(0, .ref a), (1, .int (nI i)), (2, .int (nI mi))] := hl
  have C0 : ckC pg sg mg ([.ref a, .int (nI i), .int (nI mi)]).toArray cg cX0_kiteY 4 RX0 N Ag := ⟨⟨hx, hb, hml, hown, hg⟩, hE, hA⟩
  generalize hHe : sg.heap = H at hP
  have hS : va_S Ag sg.heap H [] := hHe ▸ hS
  obtain ⟨hn8, hAi, hAd⟩ := id hAir
  obtain ⟨hki, hk4, hhi, hh4⟩ := hAi i hi
  obtain ⟨hdj, hd8⟩ := hAd (ht i * 20 + mi) (by omega)
  refine lv_aload_n hx hb dX0_kiteY_0 rfl (lv_at hl 0 rfl) ?_
  refine va_get (ci := 0) (v := .ref fl) (C := RX0) (T := TX0) (N := 3) hx hb hg inX0 hown hE.1 hP 0 rfl rfl 0 (by decide) (hg _ k1_65) (fun _ h9 => h9) rfl dX0_kiteY_1 ?_
  refine lv_iload_n hx hb dX0_kiteY_4 rfl (lv_at hl 1 rfl) ?_
  refine lv_iconst (v := (nI 4)) hx hb dX0_kiteY_5 (by decide) ?_
  refine ck_Vi (As := [.int (nI i), .int (nI 4)]) (rest := []) (wr := [(a, .inr (0, [.ref fl, .ref wi, .ref nr])), (wi, .inr (8, [.ref d, .ref f])), (d, .inl (N.2 0, 80, .inl di)), (f, .inl (N.2 0, 80, .inl fo)), (nr, .inl (N.2 0, 8, .inl ne))]) C0 hP hD hS (c_X1_told l N fl t tr n i 4 (by omega)) myX1_told k2_165 ⟨Nat.le_of_ble_eq_true rfl, Nat.le_of_ble_eq_true rfl⟩ [1, 2] [0, 3, 4, 5, 6] ⟨⟨rfl, rfl⟩, by decide, by decide, by decide⟩ 1 rfl rfl rfl rfl hl.1 rfl (Nat.le_of_ble_eq_true rfl) dX0_kiteY_6 ⟨Nat.le_of_ble_eq_true rfl, Nat.le_of_ble_eq_true rfl⟩ (fun r_1 u0 H locs hw0 hP hD hS => ?_)
  have hw_2 : r_1 = (tr (i * 8 + 4)) := hw0
  subst hw_2
  have hP : va_P N.1 vwCl [(a, .inr (0, [.ref fl, .ref wi, .ref nr])), (wi, .inr (8, [.ref d, .ref f])), (d, .inl (N.2 0, 80, .inl di)), (f, .inl (N.2 0, 80, .inl fo)), (nr, .inl (N.2 0, 8, .inl ne)), (fl, .inr (1, [.ref t, .int (nI n)])), (t, .inl (N.2 0, 64, .inl tr))] H := hP
  have hD : va_D Ag [(a, .inr (0, [.ref fl, .ref wi, .ref nr])), (wi, .inr (8, [.ref d, .ref f])), (d, .inl (N.2 0, 80, .inl di)), (f, .inl (N.2 0, 80, .inl fo)), (nr, .inl (N.2 0, 8, .inl ne)), (fl, .inr (1, [.ref t, .int (nI n)])), (t, .inl (N.2 0, 64, .inl tr))] := hD
  refine lv_istore_n (lv' := [(3, .int (tr (i * 8 + 4))), (0, .ref a), (1, .int (nI i)), (2, .int (nI mi))]) hx hb dX0_kiteY_9 rfl hl (by decide) rfl (fun ls hl => ?_)
  refine lv_aload_n hx hb dX0_kiteY_10 rfl (lv_at hl 1 rfl) ?_
  refine va_get (ci := 0) (v := .ref fl) (C := RX0) (T := TX0) (N := 3) hx hb hg inX0 hown hE.1 hP 0 rfl rfl 0 (by decide) (hg _ k1_65) (fun _ h9 => h9) rfl dX0_kiteY_11 ?_
  refine lv_iload_n hx hb dX0_kiteY_14 rfl (lv_at hl 2 rfl) ?_
  refine lv_iconst (v := (nI 2)) hx hb dX0_kiteY_15 (by decide) ?_
  refine ck_Vi (As := [.int (nI i), .int (nI 2)]) (rest := []) (wr := [(a, .inr (0, [.ref fl, .ref wi, .ref nr])), (wi, .inr (8, [.ref d, .ref f])), (d, .inl (N.2 0, 80, .inl di)), (f, .inl (N.2 0, 80, .inl fo)), (nr, .inl (N.2 0, 8, .inl ne))]) C0 hP hD hS (c_X1_told l N fl t tr n i 2 (by omega)) myX1_told k2_165 ⟨Nat.le_of_ble_eq_true rfl, Nat.le_of_ble_eq_true rfl⟩ [5, 6] [0, 1, 2, 3, 4] ⟨⟨rfl, rfl⟩, by decide, by decide, by decide⟩ 5 rfl rfl rfl rfl hl.1 rfl (Nat.le_of_ble_eq_true rfl) dX0_kiteY_16 ⟨Nat.le_of_ble_eq_true rfl, Nat.le_of_ble_eq_true rfl⟩ (fun r_3 u0 H locs hw0 hP hD hS => ?_)
  have hw_4 : r_3 = (tr (i * 8 + 2)) := hw0
  subst hw_4
  have hP : va_P N.1 vwCl [(a, .inr (0, [.ref fl, .ref wi, .ref nr])), (wi, .inr (8, [.ref d, .ref f])), (d, .inl (N.2 0, 80, .inl di)), (f, .inl (N.2 0, 80, .inl fo)), (nr, .inl (N.2 0, 8, .inl ne)), (fl, .inr (1, [.ref t, .int (nI n)])), (t, .inl (N.2 0, 64, .inl tr))] H := hP
  have hD : va_D Ag [(a, .inr (0, [.ref fl, .ref wi, .ref nr])), (wi, .inr (8, [.ref d, .ref f])), (d, .inl (N.2 0, 80, .inl di)), (f, .inl (N.2 0, 80, .inl fo)), (nr, .inl (N.2 0, 8, .inl ne)), (fl, .inr (1, [.ref t, .int (nI n)])), (t, .inl (N.2 0, 64, .inl tr))] := hD
  refine lv_iload_n hx hb dX0_kiteY_19 rfl (lv_at hl 0 rfl) ?_
  refine va_getsN hx hb hE.2.2.2.2.2.2.2.1.1 hS hown (hE.nf 24 rfl _) (fun _ h9 => h9) dX0_kiteY_20 ?_
  refine lv_aload_n hx hb dX0_kiteY_23 rfl (lv_at hl 1 rfl) ?_
  refine lv_iload_n hx hb dX0_kiteY_24 rfl (lv_at hl 2 rfl) ?_
  refine lv_iload_n hx hb dX0_kiteY_25 rfl (lv_at hl 3 rfl) ?_
  refine ck_Vi (As := [.int (nI i), .int (nI mi)]) (rest := [.ref (N.2 5), .int (tr (i * 8 + 4)), .int (tr (i * 8 + 2))]) (wr := []) C0 hP hD hS (c_X0_directionFor l N a fl t wi d f nr tr n di fo ne kd ht dr i mi hAir (by omega) (by omega)) myX0_directionFor k2_189 ⟨Nat.le_of_ble_eq_true rfl, Nat.le_of_ble_eq_true rfl⟩ [0, 5, 6, 1, 2, 3, 4] [] ⟨⟨rfl, rfl⟩, by decide, by decide, by decide⟩ 0 rfl rfl rfl rfl hl.1 rfl (Nat.le_of_ble_eq_true rfl) dX0_kiteY_26 ⟨Nat.le_of_ble_eq_true rfl, Nat.le_of_ble_eq_true rfl⟩ (fun r_5 u0 H locs hw0 hP hD hS => ?_)
  have hw_6 : r_5 = (nI (dr (ht i * 20 + mi))) := hw0
  subst hw_6
  have hP : va_P N.1 vwCl [(a, .inr (0, [.ref fl, .ref wi, .ref nr])), (fl, .inr (1, [.ref t, .int (nI n)])), (t, .inl (N.2 0, 64, .inl tr)), (wi, .inr (8, [.ref d, .ref f])), (d, .inl (N.2 0, 80, .inl di)), (f, .inl (N.2 0, 80, .inl fo)), (nr, .inl (N.2 0, 8, .inl ne))] H := hP
  have hD : va_D Ag [(a, .inr (0, [.ref fl, .ref wi, .ref nr])), (fl, .inr (1, [.ref t, .int (nI n)])), (t, .inl (N.2 0, 64, .inl tr)), (wi, .inr (8, [.ref d, .ref f])), (d, .inl (N.2 0, 80, .inl di)), (f, .inl (N.2 0, 80, .inl fo)), (nr, .inl (N.2 0, 8, .inl ne))] := hD
  refine va_ti (v := .int (ckSY (dr (ht i * 20 + mi)))) hx hb hE.2.2.2.2.2.2.2.1.2 hS (vp_in_nI (by omega) (by decide)) (by rw [nI_clamp (by omega)]) dX0_kiteY_29 ?_
  refine lv_imul hx hb dX0_kiteY_30 ?_
  refine lv_iadd hx hb dX0_kiteY_31 ?_
  exact ck_iret hx hb hrt hlk () rfl hP hD hS ⟨Nat.le_of_ble_eq_true rfl, Nat.le_of_ble_eq_true rfl⟩ dX0_kiteY_32
set_option maxHeartbeats 4000000 in
set_option maxRecDepth 100000 in
/-- X0_areTooNear -/
theorem c_X0_areTooNear (l : Launch) (N : ckN) (a : Nat) (fl : Nat) (t : Nat) (wi : Nat) (d : Nat) (f : Nat) (nr : Nat) (tr : Nat → Int32) (n : Nat) (di : Nat → Int32) (fo : Nat → Int32) (ne : Nat → Int32) (kd : Nat → Nat) (ht : Nat → Nat) (dr : Nat → Nat) (i : Nat) (j : Nat) (mi : Nat) (hAir : ckAir tr di n kd ht dr) (hi : i < n) (hj : j < n) (hm : mi < 20) : ckI l yX0_areTooNear cX0_areTooNear 5 (some FieldType.boolean) { frames := 5, cells := 0, slots := 0, locals := 132 } N [.ref a, .int (nI i), .int (nI j), .int (nI mi)] [(a, .inr (0, [.ref fl, .ref wi, .ref nr])), (fl, .inr (1, [.ref t, .int (nI n)])), (t, .inl (N.2 0, 64, .inl tr)), (wi, .inr (8, [.ref d, .ref f])), (d, .inl (N.2 0, 80, .inl di)), (f, .inl (N.2 0, 80, .inl fo)), (nr, .inl (N.2 0, 8, .inl ne))] (fun (r : Int32) (u : Unit) => r = (b2i (fNear tr fo kd ht dr i j mi))) (fun (u : Unit) => [(a, .inr (0, [.ref fl, .ref wi, .ref nr])), (fl, .inr (1, [.ref t, .int (nI n)])), (t, .inl (N.2 0, 64, .inl tr)), (wi, .inr (8, [.ref d, .ref f])), (d, .inl (N.2 0, 80, .inl di)), (f, .inl (N.2 0, 80, .inl fo)), (nr, .inl (N.2 0, 8, .inl ne))]) := by
  refine ckI.of (by decide) (Nat.le_of_ble_eq_true rfl) ?_
  intro pg eg sg mg blw mth cg Ag ls hx hb hrt hml hown hlk hin hg hE hA hP hD hS hl
  have hown : sg.vm.findClass RX0 = some mg.cls := hown
  have hl : lv_has ls 5 [(0, .ref a), (1, .int (nI i)), (2, .int (nI j)), (3, .int (nI mi))] := hl
  have C0 : ckC pg sg mg ([.ref a, .int (nI i), .int (nI j), .int (nI mi)]).toArray cg cX0_areTooNear 5 RX0 N Ag := ⟨⟨hx, hb, hml, hown, hg⟩, hE, hA⟩
  generalize hHe : sg.heap = H at hP
  have hS : va_S Ag sg.heap H [] := hHe ▸ hS
  obtain ⟨hn8, hAi, hAd⟩ := id hAir
  obtain ⟨hki, hk4, hhi, hh4⟩ := hAi i hi
  obtain ⟨hkj, hkj4, hhj, hhj4⟩ := hAi j hj
  refine lv_aload_n hx hb dX0_areTooNear_0 rfl (lv_at hl 0 rfl) ?_
  refine va_get (ci := 0) (v := .ref fl) (C := RX0) (T := TX0) (N := 3) hx hb hg inX0 hown hE.1 hP 0 rfl rfl 0 (by decide) (hg _ k1_65) (fun _ h9 => h9) rfl dX0_areTooNear_1 ?_
  refine lv_iload_n hx hb dX0_areTooNear_4 rfl (lv_at hl 1 rfl) ?_
  refine lv_iconst (v := (nI 3)) hx hb dX0_areTooNear_5 (by decide) ?_
  refine ck_Vi (As := [.int (nI i), .int (nI 3)]) (rest := []) (wr := [(a, .inr (0, [.ref fl, .ref wi, .ref nr])), (wi, .inr (8, [.ref d, .ref f])), (d, .inl (N.2 0, 80, .inl di)), (f, .inl (N.2 0, 80, .inl fo)), (nr, .inl (N.2 0, 8, .inl ne))]) C0 hP hD hS (c_X1_told l N fl t tr n i 3 (by omega)) myX1_told k2_165 ⟨Nat.le_of_ble_eq_true rfl, Nat.le_of_ble_eq_true rfl⟩ [1, 2] [0, 3, 4, 5, 6] ⟨⟨rfl, rfl⟩, by decide, by decide, by decide⟩ 1 rfl rfl rfl rfl hl.1 rfl (Nat.le_of_ble_eq_true rfl) dX0_areTooNear_6 ⟨Nat.le_of_ble_eq_true rfl, Nat.le_of_ble_eq_true rfl⟩ (fun r_1 u0 H locs hw0 hP hD hS => ?_)
  have hw_2 : r_1 = (tr (i * 8 + 3)) := hw0
  subst hw_2
  have hP : va_P N.1 vwCl [(a, .inr (0, [.ref fl, .ref wi, .ref nr])), (wi, .inr (8, [.ref d, .ref f])), (d, .inl (N.2 0, 80, .inl di)), (f, .inl (N.2 0, 80, .inl fo)), (nr, .inl (N.2 0, 8, .inl ne)), (fl, .inr (1, [.ref t, .int (nI n)])), (t, .inl (N.2 0, 64, .inl tr))] H := hP
  have hD : va_D Ag [(a, .inr (0, [.ref fl, .ref wi, .ref nr])), (wi, .inr (8, [.ref d, .ref f])), (d, .inl (N.2 0, 80, .inl di)), (f, .inl (N.2 0, 80, .inl fo)), (nr, .inl (N.2 0, 8, .inl ne)), (fl, .inr (1, [.ref t, .int (nI n)])), (t, .inl (N.2 0, 64, .inl tr))] := hD
  refine ck_top (y := (nI (ht i))) hhi ?_
  refine lv_aload_n hx hb dX0_areTooNear_9 rfl (lv_at hl 0 rfl) ?_
  refine va_get (ci := 0) (v := .ref fl) (C := RX0) (T := TX0) (N := 3) hx hb hg inX0 hown hE.1 hP 0 rfl rfl 0 (by decide) (hg _ k1_65) (fun _ h9 => h9) rfl dX0_areTooNear_10 ?_
  refine lv_iload_n hx hb dX0_areTooNear_13 rfl (lv_at hl 2 rfl) ?_
  refine lv_iconst (v := (nI 3)) hx hb dX0_areTooNear_14 (by decide) ?_
  refine ck_Vi (As := [.int (nI j), .int (nI 3)]) (rest := [.int (nI (ht i))]) (wr := [(a, .inr (0, [.ref fl, .ref wi, .ref nr])), (wi, .inr (8, [.ref d, .ref f])), (d, .inl (N.2 0, 80, .inl di)), (f, .inl (N.2 0, 80, .inl fo)), (nr, .inl (N.2 0, 8, .inl ne))]) C0 hP hD hS (c_X1_told l N fl t tr n j 3 (by omega)) myX1_told k2_165 ⟨Nat.le_of_ble_eq_true rfl, Nat.le_of_ble_eq_true rfl⟩ [5, 6] [0, 1, 2, 3, 4] ⟨⟨rfl, rfl⟩, by decide, by decide, by decide⟩ 5 rfl rfl rfl rfl hl.1 rfl (Nat.le_of_ble_eq_true rfl) dX0_areTooNear_15 ⟨Nat.le_of_ble_eq_true rfl, Nat.le_of_ble_eq_true rfl⟩ (fun r_3 u0 H locs hw0 hP hD hS => ?_)
  have hw_4 : r_3 = (tr (j * 8 + 3)) := hw0
  subst hw_4
  have hP : va_P N.1 vwCl [(a, .inr (0, [.ref fl, .ref wi, .ref nr])), (wi, .inr (8, [.ref d, .ref f])), (d, .inl (N.2 0, 80, .inl di)), (f, .inl (N.2 0, 80, .inl fo)), (nr, .inl (N.2 0, 8, .inl ne)), (fl, .inr (1, [.ref t, .int (nI n)])), (t, .inl (N.2 0, 64, .inl tr))] H := hP
  have hD : va_D Ag [(a, .inr (0, [.ref fl, .ref wi, .ref nr])), (wi, .inr (8, [.ref d, .ref f])), (d, .inl (N.2 0, 80, .inl di)), (f, .inl (N.2 0, 80, .inl fo)), (nr, .inl (N.2 0, 8, .inl ne)), (fl, .inr (1, [.ref t, .int (nI n)])), (t, .inl (N.2 0, 64, .inl tr))] := hD
  refine ck_top (y := (nI (ht j))) hhj ?_
  refine ck_ic_eq (tgt := 23) hx hb dX0_areTooNear_18 (by decide) (by omega) (by omega) (fun cz_5 => ?_) (fun cz_5 => ?_)
  · refine lv_aload_n hx hb dX0_areTooNear_23 rfl (lv_at hl 0 rfl) ?_
    refine lv_iload_n hx hb dX0_areTooNear_24 rfl (lv_at hl 1 rfl) ?_
    refine lv_iload_n hx hb dX0_areTooNear_25 rfl (lv_at hl 3 rfl) ?_
    refine ck_Vi (As := [.int (nI i), .int (nI mi)]) (rest := []) (wr := []) C0 hP hD hS (c_X0_carries l N a fl t wi d f nr tr n di fo ne kd ht dr i mi hAir (by omega) (by omega)) myX0_carries k2_208 ⟨Nat.le_of_ble_eq_true rfl, Nat.le_of_ble_eq_true rfl⟩ [0, 5, 6, 1, 2, 3, 4] [] ⟨⟨rfl, rfl⟩, by decide, by decide, by decide⟩ 0 rfl rfl rfl rfl hl.1 rfl (Nat.le_of_ble_eq_true rfl) dX0_areTooNear_26 ⟨Nat.le_of_ble_eq_true rfl, Nat.le_of_ble_eq_true rfl⟩ (fun r_6 u0 H locs hw0 hP hD hS => ?_)
    have hw_7 : r_6 = (b2i (fFly tr fo kd ht i mi)) := hw0
    subst hw_7
    have hP : va_P N.1 vwCl [(a, .inr (0, [.ref fl, .ref wi, .ref nr])), (fl, .inr (1, [.ref t, .int (nI n)])), (t, .inl (N.2 0, 64, .inl tr)), (wi, .inr (8, [.ref d, .ref f])), (d, .inl (N.2 0, 80, .inl di)), (f, .inl (N.2 0, 80, .inl fo)), (nr, .inl (N.2 0, 8, .inl ne))] H := hP
    have hD : va_D Ag [(a, .inr (0, [.ref fl, .ref wi, .ref nr])), (fl, .inr (1, [.ref t, .int (nI n)])), (t, .inl (N.2 0, 64, .inl tr)), (wi, .inr (8, [.ref d, .ref f])), (d, .inl (N.2 0, 80, .inl di)), (f, .inl (N.2 0, 80, .inl fo)), (nr, .inl (N.2 0, 8, .inl ne))] := hD
    refine ck_ifeq (b := fFly tr fo kd ht i mi) (tgt := 41) hx hb dX0_areTooNear_29 (by decide) (fun cz_8 => ?_) (fun cz_8 => ?_)
    · refine lv_iconst (v := (nI 0)) hx hb dX0_areTooNear_41 (by decide) ?_
      refine ck_top (y := (b2i false)) (by decide) ?_
      exact ck_zret (b := false) hx hb hrt hlk () (congrArg b2i (by rw [fNear, decide_eq_true cz_5, cz_8]; rfl)) hP hD hS ⟨Nat.le_of_ble_eq_true rfl, Nat.le_of_ble_eq_true rfl⟩ dX0_areTooNear_42
    refine lv_aload_n hx hb dX0_areTooNear_32 rfl (lv_at hl 0 rfl) ?_
    refine lv_iload_n hx hb dX0_areTooNear_33 rfl (lv_at hl 2 rfl) ?_
    refine lv_iload_n hx hb dX0_areTooNear_34 rfl (lv_at hl 3 rfl) ?_
    refine ck_Vi (As := [.int (nI j), .int (nI mi)]) (rest := []) (wr := []) C0 hP hD hS (c_X0_carries l N a fl t wi d f nr tr n di fo ne kd ht dr j mi hAir (by omega) (by omega)) myX0_carries k2_208 ⟨Nat.le_of_ble_eq_true rfl, Nat.le_of_ble_eq_true rfl⟩ [0, 1, 2, 3, 4, 5, 6] [] ⟨⟨rfl, rfl⟩, by decide, by decide, by decide⟩ 0 rfl rfl rfl rfl hl.1 rfl (Nat.le_of_ble_eq_true rfl) dX0_areTooNear_35 ⟨Nat.le_of_ble_eq_true rfl, Nat.le_of_ble_eq_true rfl⟩ (fun r_9 u0 H locs hw0 hP hD hS => ?_)
    have hw_10 : r_9 = (b2i (fFly tr fo kd ht j mi)) := hw0
    subst hw_10
    have hP : va_P N.1 vwCl [(a, .inr (0, [.ref fl, .ref wi, .ref nr])), (fl, .inr (1, [.ref t, .int (nI n)])), (t, .inl (N.2 0, 64, .inl tr)), (wi, .inr (8, [.ref d, .ref f])), (d, .inl (N.2 0, 80, .inl di)), (f, .inl (N.2 0, 80, .inl fo)), (nr, .inl (N.2 0, 8, .inl ne))] H := hP
    have hD : va_D Ag [(a, .inr (0, [.ref fl, .ref wi, .ref nr])), (fl, .inr (1, [.ref t, .int (nI n)])), (t, .inl (N.2 0, 64, .inl tr)), (wi, .inr (8, [.ref d, .ref f])), (d, .inl (N.2 0, 80, .inl di)), (f, .inl (N.2 0, 80, .inl fo)), (nr, .inl (N.2 0, 8, .inl ne))] := hD
    refine ck_ifne (b := fFly tr fo kd ht j mi) (tgt := 43) hx hb dX0_areTooNear_38 (by decide) (fun cz_11 => ?_) (fun cz_11 => ?_)
    · refine lv_aload_n hx hb dX0_areTooNear_43 rfl (lv_at hl 0 rfl) ?_
      refine va_get (ci := 0) (v := .ref fl) (C := RX0) (T := TX0) (N := 3) hx hb hg inX0 hown hE.1 hP 0 rfl rfl 0 (by decide) (hg _ k1_65) (fun _ h9 => h9) rfl dX0_areTooNear_44 ?_
      refine lv_iload_n hx hb dX0_areTooNear_47 rfl (lv_at hl 1 rfl) ?_
      refine lv_iconst (v := (nI 5)) hx hb dX0_areTooNear_48 (by decide) ?_
      refine ck_Vi (As := [.int (nI i), .int (nI 5)]) (rest := []) (wr := [(a, .inr (0, [.ref fl, .ref wi, .ref nr])), (wi, .inr (8, [.ref d, .ref f])), (d, .inl (N.2 0, 80, .inl di)), (f, .inl (N.2 0, 80, .inl fo)), (nr, .inl (N.2 0, 8, .inl ne))]) C0 hP hD hS (c_X1_told l N fl t tr n i 5 (by omega)) myX1_told k2_165 ⟨Nat.le_of_ble_eq_true rfl, Nat.le_of_ble_eq_true rfl⟩ [1, 2] [0, 3, 4, 5, 6] ⟨⟨rfl, rfl⟩, by decide, by decide, by decide⟩ 1 rfl rfl rfl rfl hl.1 rfl (Nat.le_of_ble_eq_true rfl) dX0_areTooNear_49 ⟨Nat.le_of_ble_eq_true rfl, Nat.le_of_ble_eq_true rfl⟩ (fun r_12 u0 H locs hw0 hP hD hS => ?_)
      have hw_13 : r_12 = (tr (i * 8 + 5)) := hw0
      subst hw_13
      have hP : va_P N.1 vwCl [(a, .inr (0, [.ref fl, .ref wi, .ref nr])), (wi, .inr (8, [.ref d, .ref f])), (d, .inl (N.2 0, 80, .inl di)), (f, .inl (N.2 0, 80, .inl fo)), (nr, .inl (N.2 0, 8, .inl ne)), (fl, .inr (1, [.ref t, .int (nI n)])), (t, .inl (N.2 0, 64, .inl tr))] H := hP
      have hD : va_D Ag [(a, .inr (0, [.ref fl, .ref wi, .ref nr])), (wi, .inr (8, [.ref d, .ref f])), (d, .inl (N.2 0, 80, .inl di)), (f, .inl (N.2 0, 80, .inl fo)), (nr, .inl (N.2 0, 8, .inl ne)), (fl, .inr (1, [.ref t, .int (nI n)])), (t, .inl (N.2 0, 64, .inl tr))] := hD
      refine lv_aload_n hx hb dX0_areTooNear_52 rfl (lv_at hl 0 rfl) ?_
      refine va_get (ci := 0) (v := .ref fl) (C := RX0) (T := TX0) (N := 3) hx hb hg inX0 hown hE.1 hP 0 rfl rfl 0 (by decide) (hg _ k1_65) (fun _ h9 => h9) rfl dX0_areTooNear_53 ?_
      refine lv_iload_n hx hb dX0_areTooNear_56 rfl (lv_at hl 2 rfl) ?_
      refine lv_iconst (v := (nI 5)) hx hb dX0_areTooNear_57 (by decide) ?_
      refine ck_Vi (As := [.int (nI j), .int (nI 5)]) (rest := [.int (tr (i * 8 + 5))]) (wr := [(a, .inr (0, [.ref fl, .ref wi, .ref nr])), (wi, .inr (8, [.ref d, .ref f])), (d, .inl (N.2 0, 80, .inl di)), (f, .inl (N.2 0, 80, .inl fo)), (nr, .inl (N.2 0, 8, .inl ne))]) C0 hP hD hS (c_X1_told l N fl t tr n j 5 (by omega)) myX1_told k2_165 ⟨Nat.le_of_ble_eq_true rfl, Nat.le_of_ble_eq_true rfl⟩ [5, 6] [0, 1, 2, 3, 4] ⟨⟨rfl, rfl⟩, by decide, by decide, by decide⟩ 5 rfl rfl rfl rfl hl.1 rfl (Nat.le_of_ble_eq_true rfl) dX0_areTooNear_58 ⟨Nat.le_of_ble_eq_true rfl, Nat.le_of_ble_eq_true rfl⟩ (fun r_14 u0 H locs hw0 hP hD hS => ?_)
      have hw_15 : r_14 = (tr (j * 8 + 5)) := hw0
      subst hw_15
      have hP : va_P N.1 vwCl [(a, .inr (0, [.ref fl, .ref wi, .ref nr])), (wi, .inr (8, [.ref d, .ref f])), (d, .inl (N.2 0, 80, .inl di)), (f, .inl (N.2 0, 80, .inl fo)), (nr, .inl (N.2 0, 8, .inl ne)), (fl, .inr (1, [.ref t, .int (nI n)])), (t, .inl (N.2 0, 64, .inl tr))] H := hP
      have hD : va_D Ag [(a, .inr (0, [.ref fl, .ref wi, .ref nr])), (wi, .inr (8, [.ref d, .ref f])), (d, .inl (N.2 0, 80, .inl di)), (f, .inl (N.2 0, 80, .inl fo)), (nr, .inl (N.2 0, 8, .inl ne)), (fl, .inr (1, [.ref t, .int (nI n)])), (t, .inl (N.2 0, 64, .inl tr))] := hD
      refine lv_iadd hx hb dX0_areTooNear_61 ?_
      refine lv_istore (lv' := [(4, .int ((tr (i * 8 + 5)) + (tr (j * 8 + 5)))), (0, .ref a), (1, .int (nI i)), (2, .int (nI j)), (3, .int (nI mi))]) hx hb dX0_areTooNear_62 hl (by decide) rfl (fun ls hl => ?_)
      refine lv_aload_n hx hb dX0_areTooNear_64 rfl (lv_at hl 1 rfl) ?_
      refine lv_iload_n hx hb dX0_areTooNear_65 rfl (lv_at hl 2 rfl) ?_
      refine lv_iload_n hx hb dX0_areTooNear_66 rfl (lv_at hl 4 rfl) ?_
      refine ck_Vi (As := [.int (nI i), .int (nI mi)]) (rest := []) (wr := []) C0 hP hD hS (c_X0_kiteX l N a fl t wi d f nr tr n di fo ne kd ht dr i mi hAir (by omega) (by omega)) myX0_kiteX k2_209 ⟨Nat.le_of_ble_eq_true rfl, Nat.le_of_ble_eq_true rfl⟩ [0, 5, 6, 1, 2, 3, 4] [] ⟨⟨rfl, rfl⟩, by decide, by decide, by decide⟩ 0 rfl rfl rfl rfl hl.1 rfl (Nat.le_of_ble_eq_true rfl) dX0_areTooNear_67 ⟨Nat.le_of_ble_eq_true rfl, Nat.le_of_ble_eq_true rfl⟩ (fun r_16 u0 H locs hw0 hP hD hS => ?_)
      have hw_17 : r_16 = (fX tr ht dr i mi) := hw0
      subst hw_17
      have hP : va_P N.1 vwCl [(a, .inr (0, [.ref fl, .ref wi, .ref nr])), (fl, .inr (1, [.ref t, .int (nI n)])), (t, .inl (N.2 0, 64, .inl tr)), (wi, .inr (8, [.ref d, .ref f])), (d, .inl (N.2 0, 80, .inl di)), (f, .inl (N.2 0, 80, .inl fo)), (nr, .inl (N.2 0, 8, .inl ne))] H := hP
      have hD : va_D Ag [(a, .inr (0, [.ref fl, .ref wi, .ref nr])), (fl, .inr (1, [.ref t, .int (nI n)])), (t, .inl (N.2 0, 64, .inl tr)), (wi, .inr (8, [.ref d, .ref f])), (d, .inl (N.2 0, 80, .inl di)), (f, .inl (N.2 0, 80, .inl fo)), (nr, .inl (N.2 0, 8, .inl ne))] := hD
      refine lv_aload_n hx hb dX0_areTooNear_70 rfl (lv_at hl 1 rfl) ?_
      refine lv_iload_n hx hb dX0_areTooNear_71 rfl (lv_at hl 3 rfl) ?_
      refine lv_iload_n hx hb dX0_areTooNear_72 rfl (lv_at hl 4 rfl) ?_
      refine ck_Vi (As := [.int (nI j), .int (nI mi)]) (rest := [.int (fX tr ht dr i mi)]) (wr := []) C0 hP hD hS (c_X0_kiteX l N a fl t wi d f nr tr n di fo ne kd ht dr j mi hAir (by omega) (by omega)) myX0_kiteX k2_209 ⟨Nat.le_of_ble_eq_true rfl, Nat.le_of_ble_eq_true rfl⟩ [0, 1, 2, 3, 4, 5, 6] [] ⟨⟨rfl, rfl⟩, by decide, by decide, by decide⟩ 0 rfl rfl rfl rfl hl.1 rfl (Nat.le_of_ble_eq_true rfl) dX0_areTooNear_73 ⟨Nat.le_of_ble_eq_true rfl, Nat.le_of_ble_eq_true rfl⟩ (fun r_18 u0 H locs hw0 hP hD hS => ?_)
      have hw_19 : r_18 = (fX tr ht dr j mi) := hw0
      subst hw_19
      have hP : va_P N.1 vwCl [(a, .inr (0, [.ref fl, .ref wi, .ref nr])), (fl, .inr (1, [.ref t, .int (nI n)])), (t, .inl (N.2 0, 64, .inl tr)), (wi, .inr (8, [.ref d, .ref f])), (d, .inl (N.2 0, 80, .inl di)), (f, .inl (N.2 0, 80, .inl fo)), (nr, .inl (N.2 0, 8, .inl ne))] H := hP
      have hD : va_D Ag [(a, .inr (0, [.ref fl, .ref wi, .ref nr])), (fl, .inr (1, [.ref t, .int (nI n)])), (t, .inl (N.2 0, 64, .inl tr)), (wi, .inr (8, [.ref d, .ref f])), (d, .inl (N.2 0, 80, .inl di)), (f, .inl (N.2 0, 80, .inl fo)), (nr, .inl (N.2 0, 8, .inl ne))] := hD
      refine lv_isub hx hb dX0_areTooNear_76 ?_
      refine va_mabs hx hb (by rw [hml]; exact hl.1.symm) hown (hg _ k2_172) (hg _ k2_173) (hg _ k1_14) (hg _ k2_174) (Nat.le_of_ble_eq_true rfl) (Nat.le_of_ble_eq_true rfl) (Nat.le_of_ble_eq_true rfl) (Nat.le_of_ble_eq_true rfl) dX0_areTooNear_77 ?_
      refine lv_iload hx hb dX0_areTooNear_80 (lv_at hl 0 rfl) ?_
      refine lv_icmp_ge (tgt := 110) hx hb dX0_areTooNear_82 (by decide) (fun cz_20 => ?_) (fun cz_20 => ?_)
      · refine lv_iconst (v := (nI 0)) hx hb dX0_areTooNear_110 (by decide) ?_
        refine ck_top (y := (b2i false)) (by decide) ?_
        exact ck_zret (b := false) hx hb hrt hlk () (congrArg b2i (by rw [fNear, decide_eq_true cz_5, cz_8, cz_11, (decide_eq_false (Int32.not_lt.mpr cz_20) : decide (ckAbs (fX tr ht dr i mi - fX tr ht dr j mi) < tr (i * 8 + 5) + tr (j * 8 + 5)) = false)]; rfl)) hP hD hS ⟨Nat.le_of_ble_eq_true rfl, Nat.le_of_ble_eq_true rfl⟩ dX0_areTooNear_111
      refine lv_aload_n hx hb dX0_areTooNear_85 rfl (lv_at hl 1 rfl) ?_
      refine lv_iload_n hx hb dX0_areTooNear_86 rfl (lv_at hl 2 rfl) ?_
      refine lv_iload_n hx hb dX0_areTooNear_87 rfl (lv_at hl 4 rfl) ?_
      refine ck_Vi (As := [.int (nI i), .int (nI mi)]) (rest := []) (wr := []) C0 hP hD hS (c_X0_kiteY l N a fl t wi d f nr tr n di fo ne kd ht dr i mi hAir (by omega) (by omega)) myX0_kiteY k2_210 ⟨Nat.le_of_ble_eq_true rfl, Nat.le_of_ble_eq_true rfl⟩ [0, 1, 2, 3, 4, 5, 6] [] ⟨⟨rfl, rfl⟩, by decide, by decide, by decide⟩ 0 rfl rfl rfl rfl hl.1 rfl (Nat.le_of_ble_eq_true rfl) dX0_areTooNear_88 ⟨Nat.le_of_ble_eq_true rfl, Nat.le_of_ble_eq_true rfl⟩ (fun r_21 u0 H locs hw0 hP hD hS => ?_)
      have hw_22 : r_21 = (fY tr ht dr i mi) := hw0
      subst hw_22
      have hP : va_P N.1 vwCl [(a, .inr (0, [.ref fl, .ref wi, .ref nr])), (fl, .inr (1, [.ref t, .int (nI n)])), (t, .inl (N.2 0, 64, .inl tr)), (wi, .inr (8, [.ref d, .ref f])), (d, .inl (N.2 0, 80, .inl di)), (f, .inl (N.2 0, 80, .inl fo)), (nr, .inl (N.2 0, 8, .inl ne))] H := hP
      have hD : va_D Ag [(a, .inr (0, [.ref fl, .ref wi, .ref nr])), (fl, .inr (1, [.ref t, .int (nI n)])), (t, .inl (N.2 0, 64, .inl tr)), (wi, .inr (8, [.ref d, .ref f])), (d, .inl (N.2 0, 80, .inl di)), (f, .inl (N.2 0, 80, .inl fo)), (nr, .inl (N.2 0, 8, .inl ne))] := hD
      refine lv_aload_n hx hb dX0_areTooNear_91 rfl (lv_at hl 1 rfl) ?_
      refine lv_iload_n hx hb dX0_areTooNear_92 rfl (lv_at hl 3 rfl) ?_
      refine lv_iload_n hx hb dX0_areTooNear_93 rfl (lv_at hl 4 rfl) ?_
      refine ck_Vi (As := [.int (nI j), .int (nI mi)]) (rest := [.int (fY tr ht dr i mi)]) (wr := []) C0 hP hD hS (c_X0_kiteY l N a fl t wi d f nr tr n di fo ne kd ht dr j mi hAir (by omega) (by omega)) myX0_kiteY k2_210 ⟨Nat.le_of_ble_eq_true rfl, Nat.le_of_ble_eq_true rfl⟩ [0, 1, 2, 3, 4, 5, 6] [] ⟨⟨rfl, rfl⟩, by decide, by decide, by decide⟩ 0 rfl rfl rfl rfl hl.1 rfl (Nat.le_of_ble_eq_true rfl) dX0_areTooNear_94 ⟨Nat.le_of_ble_eq_true rfl, Nat.le_of_ble_eq_true rfl⟩ (fun r_23 u0 H locs hw0 hP hD hS => ?_)
      have hw_24 : r_23 = (fY tr ht dr j mi) := hw0
      subst hw_24
      have hP : va_P N.1 vwCl [(a, .inr (0, [.ref fl, .ref wi, .ref nr])), (fl, .inr (1, [.ref t, .int (nI n)])), (t, .inl (N.2 0, 64, .inl tr)), (wi, .inr (8, [.ref d, .ref f])), (d, .inl (N.2 0, 80, .inl di)), (f, .inl (N.2 0, 80, .inl fo)), (nr, .inl (N.2 0, 8, .inl ne))] H := hP
      have hD : va_D Ag [(a, .inr (0, [.ref fl, .ref wi, .ref nr])), (fl, .inr (1, [.ref t, .int (nI n)])), (t, .inl (N.2 0, 64, .inl tr)), (wi, .inr (8, [.ref d, .ref f])), (d, .inl (N.2 0, 80, .inl di)), (f, .inl (N.2 0, 80, .inl fo)), (nr, .inl (N.2 0, 8, .inl ne))] := hD
      refine lv_isub hx hb dX0_areTooNear_97 ?_
      refine va_mabs hx hb (by rw [hml]; exact hl.1.symm) hown (hg _ k2_172) (hg _ k2_173) (hg _ k1_14) (hg _ k2_174) (Nat.le_of_ble_eq_true rfl) (Nat.le_of_ble_eq_true rfl) (Nat.le_of_ble_eq_true rfl) (Nat.le_of_ble_eq_true rfl) dX0_areTooNear_98 ?_
      refine lv_iload hx hb dX0_areTooNear_101 (lv_at hl 0 rfl) ?_
      refine lv_icmp_ge (tgt := 110) hx hb dX0_areTooNear_103 (by decide) (fun cz_25 => ?_) (fun cz_25 => ?_)
      · refine lv_iconst (v := (nI 0)) hx hb dX0_areTooNear_110 (by decide) ?_
        refine ck_top (y := (b2i false)) (by decide) ?_
        exact ck_zret (b := false) hx hb hrt hlk () (congrArg b2i (by rw [fNear, decide_eq_true cz_5, cz_8, cz_11, (decide_eq_true (Int32.not_le.mp cz_20) : decide (ckAbs (fX tr ht dr i mi - fX tr ht dr j mi) < tr (i * 8 + 5) + tr (j * 8 + 5)) = true), (decide_eq_false (Int32.not_lt.mpr cz_25) : decide (ckAbs (fY tr ht dr i mi - fY tr ht dr j mi) < tr (i * 8 + 5) + tr (j * 8 + 5)) = false)]; rfl)) hP hD hS ⟨Nat.le_of_ble_eq_true rfl, Nat.le_of_ble_eq_true rfl⟩ dX0_areTooNear_111
      refine lv_iconst (v := (nI 1)) hx hb dX0_areTooNear_106 (by decide) ?_
      refine lv_goto (tgt := 111) hx hb dX0_areTooNear_107 (by decide) ?_
      refine ck_top (y := (b2i true)) (by decide) ?_
      exact ck_zret (b := true) hx hb hrt hlk () (congrArg b2i (by rw [fNear, decide_eq_true cz_5, cz_8, cz_11, (decide_eq_true (Int32.not_le.mp cz_20) : decide (ckAbs (fX tr ht dr i mi - fX tr ht dr j mi) < tr (i * 8 + 5) + tr (j * 8 + 5)) = true), (decide_eq_true (Int32.not_le.mp cz_25) : decide (ckAbs (fY tr ht dr i mi - fY tr ht dr j mi) < tr (i * 8 + 5) + tr (j * 8 + 5)) = true)]; rfl)) hP hD hS ⟨Nat.le_of_ble_eq_true rfl, Nat.le_of_ble_eq_true rfl⟩ dX0_areTooNear_111
    refine lv_iconst (v := (nI 0)) hx hb dX0_areTooNear_41 (by decide) ?_
    refine ck_top (y := (b2i false)) (by decide) ?_
    exact ck_zret (b := false) hx hb hrt hlk () (congrArg b2i (by rw [fNear, decide_eq_true cz_5, cz_8, cz_11]; rfl)) hP hD hS ⟨Nat.le_of_ble_eq_true rfl, Nat.le_of_ble_eq_true rfl⟩ dX0_areTooNear_42
  refine lv_iconst (v := (nI 0)) hx hb dX0_areTooNear_21 (by decide) ?_
  refine ck_top (y := (b2i false)) (by decide) ?_
  exact ck_zret (b := false) hx hb hrt hlk () (congrArg b2i (by rw [fNear, decide_eq_false cz_5]; rfl)) (hP.sub [0, 5, 6, 1, 2, 3, 4] rfl) (hD.sub [0, 5, 6, 1, 2, 3, 4] (by decide) rfl) hS ⟨Nat.le_of_ble_eq_true rfl, Nat.le_of_ble_eq_true rfl⟩ dX0_areTooNear_22
set_option maxHeartbeats 4000000 in
set_option maxRecDepth 100000 in
/-- X0_pairsTooNear -/
theorem c_X0_pairsTooNear (l : Launch) (N : ckN) (a : Nat) (fl : Nat) (t : Nat) (wi : Nat) (d : Nat) (f : Nat) (nr : Nat) (tr : Nat → Int32) (n : Nat) (di : Nat → Int32) (fo : Nat → Int32) (ne : Nat → Int32) (kd : Nat → Nat) (ht : Nat → Nat) (dr : Nat → Nat) (mi : Nat) (hAir : ckAir tr di n kd ht dr) (hm : mi < 20) : ckI l yX0_pairsTooNear cX0_pairsTooNear 5 (some FieldType.int) { frames := 6, cells := 0, slots := 0, locals := 156 } N [.ref a, .int (nI mi)] [(a, .inr (0, [.ref fl, .ref wi, .ref nr])), (fl, .inr (1, [.ref t, .int (nI n)])), (t, .inl (N.2 0, 64, .inl tr)), (wi, .inr (8, [.ref d, .ref f])), (d, .inl (N.2 0, 80, .inl di)), (f, .inl (N.2 0, 80, .inl fo)), (nr, .inl (N.2 0, 8, .inl ne))] (fun (r : Int32) (u : Unit) => r = (nI (ckPairs (fun f g => fNear tr fo kd ht dr f g mi) n))) (fun (u : Unit) => [(a, .inr (0, [.ref fl, .ref wi, .ref nr])), (fl, .inr (1, [.ref t, .int (nI n)])), (t, .inl (N.2 0, 64, .inl tr)), (wi, .inr (8, [.ref d, .ref f])), (d, .inl (N.2 0, 80, .inl di)), (f, .inl (N.2 0, 80, .inl fo)), (nr, .inl (N.2 0, 8, .inl ne))]) := by
  refine ckI.of (by decide) (Nat.le_of_ble_eq_true rfl) ?_
  intro pg eg sg mg blw mth cg Ag ls hx hb hrt hml hown hlk hin hg hE hA hP hD hS hl
  have hown : sg.vm.findClass RX0 = some mg.cls := hown
  have hl : lv_has ls 5 [(0, .ref a), (1, .int (nI mi))] := hl
  have C0 : ckC pg sg mg ([.ref a, .int (nI mi)]).toArray cg cX0_pairsTooNear 5 RX0 N Ag := ⟨⟨hx, hb, hml, hown, hg⟩, hE, hA⟩
  generalize hHe : sg.heap = H at hP
  have hS : va_S Ag sg.heap H [] := hHe ▸ hS
  have hn8 := hAir.1
  refine lv_iconst (v := (nI 0)) hx hb dX0_pairsTooNear_0 (by decide) ?_
  refine lv_istore_n (lv' := [(2, .int (nI 0)), (0, .ref a), (1, .int (nI mi))]) hx hb dX0_pairsTooNear_1 rfl hl (by decide) rfl (fun ls hl => ?_)
  refine lv_iconst (v := (nI 0)) hx hb dX0_pairsTooNear_2 (by decide) ?_
  refine lv_istore_n (lv' := [(3, .int (nI 0)), (2, .int (nI 0)), (0, .ref a), (1, .int (nI mi))]) hx hb dX0_pairsTooNear_3 rfl hl (by decide) rfl (fun ls hl => ?_)
  have lp_4 : ∀ (dz : Nat) (i : Nat) (acc : Nat) (hdz : n - i = dz) (hi : i ≤ n) (ha : acc = psum (fun f => psum (fun g => ckPr (fun f g => fNear tr fo kd ht dr f g mi) f g) n) i) (H : Heap) (locs : List Loc) (ls : Array Slot), va_P N.1 vwCl [(a, .inr (0, [.ref fl, .ref wi, .ref nr])), (fl, .inr (1, [.ref t, .int (nI n)])), (t, .inl (N.2 0, 64, .inl tr)), (wi, .inr (8, [.ref d, .ref f])), (d, .inl (N.2 0, 80, .inl di)), (f, .inl (N.2 0, 80, .inl fo)), (nr, .inl (N.2 0, 8, .inl ne))] H → va_D Ag [(a, .inr (0, [.ref fl, .ref wi, .ref nr])), (fl, .inr (1, [.ref t, .int (nI n)])), (t, .inl (N.2 0, 64, .inl tr)), (wi, .inr (8, [.ref d, .ref f])), (d, .inl (N.2 0, 80, .inl di)), (f, .inl (N.2 0, 80, .inl fo)), (nr, .inl (N.2 0, 8, .inl ne))] → va_S Ag sg.heap H locs → lv_has ls 5 [(3, .int (nI i)), (2, .int (nI acc)), (0, .ref a), (1, .int (nI mi))] → W pg l eg { frames := 6, cells := 0, slots := 0, locals := 156 } sg mg ([.ref a, .int (nI mi)]).toArray blw mth cg H locs 0 0 (ckQi N Ag blw sg ([.ref a, .int (nI mi)]).toArray { frames := 6, cells := 0, slots := 0, locals := 156 } (fun (r : Int32) (u : Unit) => r = (nI (ckPairs (fun f g => fNear tr fo kd ht dr f g mi) n))) (fun (u : Unit) => [(a, .inr (0, [.ref fl, .ref wi, .ref nr])), (fl, .inr (1, [.ref t, .int (nI n)])), (t, .inl (N.2 0, 64, .inl tr)), (wi, .inr (8, [.ref d, .ref f])), (d, .inl (N.2 0, 80, .inl di)), (f, .inl (N.2 0, 80, .inl fo)), (nr, .inl (N.2 0, 8, .inl ne))])) (F0 mg 4 ls []) := by
    intro dz
    induction dz using Nat.strongRecOn with
    | _ dz ih_4 =>
      intro i acc hdz hi ha H locs ls hP hD hS hl
      subst hdz
      refine lv_iload_n hx hb dX0_pairsTooNear_4 rfl (lv_at hl 0 rfl) ?_
      refine lv_aload_n hx hb dX0_pairsTooNear_5 rfl (lv_at hl 2 rfl) ?_
      refine va_get (ci := 0) (v := .ref fl) (C := RX0) (T := TX0) (N := 3) hx hb hg inX0 hown hE.1 hP 0 rfl rfl 0 (by decide) (hg _ k1_65) (fun _ h9 => h9) rfl dX0_pairsTooNear_6 ?_
      refine va_getN (ci := 1) (v := .int (nI n)) (C := RX1) (T := TX1) (N := 2) (host := "KiteMeet") hx hb hg inX1 hown hE.1 hP 1 rfl rfl 1 (by decide) (hE.nf 0 rfl _) (fun _ h9 => h9) rfl dX0_pairsTooNear_9 ?_
      refine ck_ic_ge (tgt := 58) hx hb dX0_pairsTooNear_12 (by decide) (by omega) (by omega) (fun cz_1 => ?_) (fun cz_1 => ?_)
      · refine lv_iload_n hx hb dX0_pairsTooNear_58 rfl (lv_at hl 1 rfl) ?_
        exact ck_iret hx hb hrt hlk () (by rw [ha, (show i = n by omega)]; rfl) hP hD hS ⟨Nat.le_of_ble_eq_true rfl, Nat.le_of_ble_eq_true rfl⟩ dX0_pairsTooNear_59
      refine lv_iload_n hx hb dX0_pairsTooNear_15 rfl (lv_at hl 0 rfl) ?_
      refine lv_iconst (v := (nI 1)) hx hb dX0_pairsTooNear_16 (by decide) ?_
      refine lv_iadd hx hb dX0_pairsTooNear_17 ?_
      refine ck_top (y := (nI (i + 1))) (nI_add _ _) ?_
      refine lv_istore (lv' := [(4, .int (nI (i + 1))), (3, .int (nI i)), (2, .int (nI acc)), (0, .ref a), (1, .int (nI mi))]) hx hb dX0_pairsTooNear_18 hl (by decide) rfl (fun ls hl => ?_)
      have lp_20 : ∀ (dz : Nat) (j : Nat) (acc2 : Nat) (hdz : n - j = dz) (hj : i + 1 ≤ j ∧ j ≤ n) (ha2 : acc2 = psum (fun f => psum (fun g => ckPr (fun f g => fNear tr fo kd ht dr f g mi) f g) n) i + psum (fun g => ckPr (fun f g => fNear tr fo kd ht dr f g mi) i g) j) (H : Heap) (locs : List Loc) (ls : Array Slot), va_P N.1 vwCl [(a, .inr (0, [.ref fl, .ref wi, .ref nr])), (fl, .inr (1, [.ref t, .int (nI n)])), (t, .inl (N.2 0, 64, .inl tr)), (wi, .inr (8, [.ref d, .ref f])), (d, .inl (N.2 0, 80, .inl di)), (f, .inl (N.2 0, 80, .inl fo)), (nr, .inl (N.2 0, 8, .inl ne))] H → va_D Ag [(a, .inr (0, [.ref fl, .ref wi, .ref nr])), (fl, .inr (1, [.ref t, .int (nI n)])), (t, .inl (N.2 0, 64, .inl tr)), (wi, .inr (8, [.ref d, .ref f])), (d, .inl (N.2 0, 80, .inl di)), (f, .inl (N.2 0, 80, .inl fo)), (nr, .inl (N.2 0, 8, .inl ne))] → va_S Ag sg.heap H locs → lv_has ls 5 [(4, .int (nI j)), (3, .int (nI i)), (2, .int (nI acc2)), (0, .ref a), (1, .int (nI mi))] → W pg l eg { frames := 6, cells := 0, slots := 0, locals := 156 } sg mg ([.ref a, .int (nI mi)]).toArray blw mth cg H locs 0 0 (ckQi N Ag blw sg ([.ref a, .int (nI mi)]).toArray { frames := 6, cells := 0, slots := 0, locals := 156 } (fun (r : Int32) (u : Unit) => r = (nI (ckPairs (fun f g => fNear tr fo kd ht dr f g mi) n))) (fun (u : Unit) => [(a, .inr (0, [.ref fl, .ref wi, .ref nr])), (fl, .inr (1, [.ref t, .int (nI n)])), (t, .inl (N.2 0, 64, .inl tr)), (wi, .inr (8, [.ref d, .ref f])), (d, .inl (N.2 0, 80, .inl di)), (f, .inl (N.2 0, 80, .inl fo)), (nr, .inl (N.2 0, 8, .inl ne))])) (F0 mg 20 ls []) := by
        intro dz
        induction dz using Nat.strongRecOn with
        | _ dz ih_20 =>
          intro j acc2 hdz hj ha2 H locs ls hP hD hS hl
          subst hdz
          refine lv_iload hx hb dX0_pairsTooNear_20 (lv_at hl 0 rfl) ?_
          refine lv_aload_n hx hb dX0_pairsTooNear_22 rfl (lv_at hl 3 rfl) ?_
          refine va_get (ci := 0) (v := .ref fl) (C := RX0) (T := TX0) (N := 3) hx hb hg inX0 hown hE.1 hP 0 rfl rfl 0 (by decide) (hg _ k1_65) (fun _ h9 => h9) rfl dX0_pairsTooNear_23 ?_
          refine va_getN (ci := 1) (v := .int (nI n)) (C := RX1) (T := TX1) (N := 2) (host := "KiteMeet") hx hb hg inX1 hown hE.1 hP 1 rfl rfl 1 (by decide) (hE.nf 0 rfl _) (fun _ h9 => h9) rfl dX0_pairsTooNear_26 ?_
          refine ck_ic_ge (tgt := 52) hx hb dX0_pairsTooNear_29 (by decide) (by omega) (by omega) (fun cz_2 => ?_) (fun cz_2 => ?_)
          · refine lv_iinc (v := (nI (i + 1))) (lv' := [(3, .int (nI (i + 1))), (4, .int (nI j)), (2, .int (nI acc2)), (0, .ref a), (1, .int (nI mi))]) hx hb dX0_pairsTooNear_52 hl (k := 1) rfl (nI_1 _) (by decide) rfl (fun ls hl => ?_)
            refine lv_goto (tgt := 4) hx hb dX0_pairsTooNear_55 (by decide) ?_
            exact ih_4 _ (by omega) (i + 1) acc2 rfl (by omega) (by rw [ha2, (show j = n by omega)]; rfl) _ _ ls hP hD hS (lv_sub hl [0, 2, 3, 4] rfl)
          refine lv_iload_n hx hb dX0_pairsTooNear_32 rfl (lv_at hl 2 rfl) ?_
          refine lv_aload_n hx hb dX0_pairsTooNear_33 rfl (lv_at hl 3 rfl) ?_
          refine lv_iload_n hx hb dX0_pairsTooNear_34 rfl (lv_at hl 1 rfl) ?_
          refine lv_iload hx hb dX0_pairsTooNear_35 (lv_at hl 0 rfl) ?_
          refine lv_iload_n hx hb dX0_pairsTooNear_37 rfl (lv_at hl 4 rfl) ?_
          refine ck_Vi (As := [.int (nI i), .int (nI j), .int (nI mi)]) (rest := [.int (nI acc2)]) (wr := []) C0 hP hD hS (c_X0_areTooNear l N a fl t wi d f nr tr n di fo ne kd ht dr i j mi hAir (by omega) (by omega) (by omega)) myX0_areTooNear k2_219 ⟨Nat.le_of_ble_eq_true rfl, Nat.le_of_ble_eq_true rfl⟩ [0, 1, 2, 3, 4, 5, 6] [] ⟨⟨rfl, rfl⟩, by decide, by decide, by decide⟩ 0 rfl rfl rfl rfl hl.1 rfl (Nat.le_of_ble_eq_true rfl) dX0_pairsTooNear_38 ⟨Nat.le_of_ble_eq_true rfl, Nat.le_of_ble_eq_true rfl⟩ (fun r_3 u0 H locs hw0 hP hD hS => ?_)
          have hw_4 : r_3 = (b2i (fNear tr fo kd ht dr i j mi)) := hw0
          subst hw_4
          have hP : va_P N.1 vwCl [(a, .inr (0, [.ref fl, .ref wi, .ref nr])), (fl, .inr (1, [.ref t, .int (nI n)])), (t, .inl (N.2 0, 64, .inl tr)), (wi, .inr (8, [.ref d, .ref f])), (d, .inl (N.2 0, 80, .inl di)), (f, .inl (N.2 0, 80, .inl fo)), (nr, .inl (N.2 0, 8, .inl ne))] H := hP
          have hD : va_D Ag [(a, .inr (0, [.ref fl, .ref wi, .ref nr])), (fl, .inr (1, [.ref t, .int (nI n)])), (t, .inl (N.2 0, 64, .inl tr)), (wi, .inr (8, [.ref d, .ref f])), (d, .inl (N.2 0, 80, .inl di)), (f, .inl (N.2 0, 80, .inl fo)), (nr, .inl (N.2 0, 8, .inl ne))] := hD
          refine ck_SNi (As := [.int (b2i (fNear tr fo kd ht dr i j mi))]) (rest := [.int (nI acc2)]) (wr := [(a, .inr (0, [.ref fl, .ref wi, .ref nr])), (fl, .inr (1, [.ref t, .int (nI n)])), (t, .inl (N.2 0, 64, .inl tr)), (wi, .inr (8, [.ref d, .ref f])), (d, .inl (N.2 0, 80, .inl di)), (f, .inl (N.2 0, 80, .inl fo)), (nr, .inl (N.2 0, 8, .inl ne))]) C0 hP hD hS (c_X10_oneIf l N (fNear tr fo kd ht dr i j mi) ) myX10_oneIf 14 rfl ⟨Nat.le_of_ble_eq_true rfl, Nat.le_of_ble_eq_true rfl⟩ [] [0, 1, 2, 3, 4, 5, 6] ⟨⟨rfl, rfl⟩, by decide, by decide, by decide⟩ rfl hl.1 rfl (Nat.le_of_ble_eq_true rfl) dX0_pairsTooNear_41 ⟨Nat.le_of_ble_eq_true rfl, Nat.le_of_ble_eq_true rfl⟩ (fun r_5 u0 H locs hw0 hP hD hS => ?_)
          have hw_6 : r_5 = (b2i (fNear tr fo kd ht dr i j mi)) := hw0
          subst hw_6
          have hP : va_P N.1 vwCl [(a, .inr (0, [.ref fl, .ref wi, .ref nr])), (fl, .inr (1, [.ref t, .int (nI n)])), (t, .inl (N.2 0, 64, .inl tr)), (wi, .inr (8, [.ref d, .ref f])), (d, .inl (N.2 0, 80, .inl di)), (f, .inl (N.2 0, 80, .inl fo)), (nr, .inl (N.2 0, 8, .inl ne))] H := hP
          have hD : va_D Ag [(a, .inr (0, [.ref fl, .ref wi, .ref nr])), (fl, .inr (1, [.ref t, .int (nI n)])), (t, .inl (N.2 0, 64, .inl tr)), (wi, .inr (8, [.ref d, .ref f])), (d, .inl (N.2 0, 80, .inl di)), (f, .inl (N.2 0, 80, .inl fo)), (nr, .inl (N.2 0, 8, .inl ne))] := hD
          refine lv_iadd hx hb dX0_pairsTooNear_44 ?_
          refine ck_top (y := (nI (acc2 + b2n (fNear tr fo kd ht dr i j mi)))) (ck_addb _ _) ?_
          refine lv_istore_n (lv' := [(2, .int (nI (acc2 + b2n (fNear tr fo kd ht dr i j mi)))), (4, .int (nI j)), (3, .int (nI i)), (0, .ref a), (1, .int (nI mi))]) hx hb dX0_pairsTooNear_45 rfl hl (by decide) rfl (fun ls hl => ?_)
          refine lv_iinc (v := (nI (j + 1))) (lv' := [(4, .int (nI (j + 1))), (2, .int (nI (acc2 + b2n (fNear tr fo kd ht dr i j mi)))), (3, .int (nI i)), (0, .ref a), (1, .int (nI mi))]) hx hb dX0_pairsTooNear_46 hl (k := 1) rfl (nI_1 _) (by decide) rfl (fun ls hl => ?_)
          refine lv_goto (tgt := 20) hx hb dX0_pairsTooNear_49 (by decide) ?_
          exact ih_20 _ (by omega) (j + 1) (acc2 + b2n (fNear tr fo kd ht dr i j mi)) rfl (by omega) (by rw [ha2, psum, Nat.add_assoc]; exact congrArg _ (congrArg _ (if_pos (by omega)).symm)) _ _ ls hP hD hS (lv_sub hl [0, 2, 1, 3, 4] rfl)
      exact lp_20 _ (i + 1) acc rfl (by omega) (by rw [ha, psum_0 (f := fun g => ckPr (fun f g => fNear tr fo kd ht dr f g mi) i g) (n := i + 1) (fun g hg => if_neg (by omega)), Nat.add_zero]) _ _ ls hP hD hS hl
  exact lp_4 _ 0 0 rfl (by omega) rfl _ _ ls hP hD hS hl
set_option maxHeartbeats 4000000 in
set_option maxRecDepth 100000 in
/-- X0_lookAround -/
theorem c_X0_lookAround (l : Launch) (N : ckN) (a : Nat) (fl : Nat) (t : Nat) (wi : Nat) (d : Nat) (f : Nat) (nr : Nat) (tr : Nat → Int32) (n : Nat) (di : Nat → Int32) (fo : Nat → Int32) (ne : Nat → Int32) (kd : Nat → Nat) (ht : Nat → Nat) (dr : Nat → Nat) (mi : Nat) (hAir : ckAir tr di n kd ht dr) (hm : mi < 20) : ckI l yX0_lookAround cX0_lookAround 5 (some FieldType.int) { frames := 6, cells := 0, slots := 0, locals := 156 } N [.ref a, .int (nI mi)] [(a, .inr (0, [.ref fl, .ref wi, .ref nr])), (fl, .inr (1, [.ref t, .int (nI n)])), (t, .inl (N.2 0, 64, .inl tr)), (wi, .inr (8, [.ref d, .ref f])), (d, .inl (N.2 0, 80, .inl di)), (f, .inl (N.2 0, 80, .inl fo)), (nr, .inl (N.2 0, 8, .inl ne))] (fun (r : Int32) (u : Nat × (Nat → Int32)) => (r = (nI u.1)) ∧ (u.1 = bitsOf (fun f => fFly tr fo kd ht f mi) n ∧ ∀ f, f < n → u.2 f = nI (bitsOf (fun g => fNear tr fo kd ht dr f g mi) f))) (fun (u : Nat × (Nat → Int32)) => [(a, .inr (0, [.ref fl, .ref wi, .ref nr])), (fl, .inr (1, [.ref t, .int (nI n)])), (t, .inl (N.2 0, 64, .inl tr)), (wi, .inr (8, [.ref d, .ref f])), (d, .inl (N.2 0, 80, .inl di)), (f, .inl (N.2 0, 80, .inl fo)), (nr, .inl (N.2 0, 8, .inl u.2))]) := by
  refine ckI.of (by decide) (Nat.le_of_ble_eq_true rfl) ?_
  intro pg eg sg mg blw mth cg Ag ls hx hb hrt hml hown hlk hin hg hE hA hP hD hS hl
  have hown : sg.vm.findClass RX0 = some mg.cls := hown
  have hl : lv_has ls 5 [(0, .ref a), (1, .int (nI mi))] := hl
  have C0 : ckC pg sg mg ([.ref a, .int (nI mi)]).toArray cg cX0_lookAround 5 RX0 N Ag := ⟨⟨hx, hb, hml, hown, hg⟩, hE, hA⟩
  generalize hHe : sg.heap = H at hP
  have hS : va_S Ag sg.heap H [] := hHe ▸ hS
  have hn8 := hAir.1
  refine lv_iconst (v := (nI 0)) hx hb dX0_lookAround_0 (by decide) ?_
  refine lv_istore_n (lv' := [(2, .int (nI 0)), (0, .ref a), (1, .int (nI mi))]) hx hb dX0_lookAround_1 rfl hl (by decide) rfl (fun ls hl => ?_)
  refine lv_iconst (v := (nI 0)) hx hb dX0_lookAround_2 (by decide) ?_
  refine lv_istore_n (lv' := [(3, .int (nI 0)), (2, .int (nI 0)), (0, .ref a), (1, .int (nI mi))]) hx hb dX0_lookAround_3 rfl hl (by decide) rfl (fun ls hl => ?_)
  have lp_4 : ∀ (dz : Nat) (i : Nat) (b : Nat) (ne1 : Nat → Int32) (hdz : n - i = dz) (hi : i ≤ n) (hbb : b = bitsOf (fun f => fFly tr fo kd ht f mi) i) (hne : ∀ f, f < i → ne1 f = nI (bitsOf (fun g => fNear tr fo kd ht dr f g mi) f)) (H : Heap) (locs : List Loc) (ls : Array Slot), va_P N.1 vwCl [(a, .inr (0, [.ref fl, .ref wi, .ref nr])), (fl, .inr (1, [.ref t, .int (nI n)])), (t, .inl (N.2 0, 64, .inl tr)), (wi, .inr (8, [.ref d, .ref f])), (d, .inl (N.2 0, 80, .inl di)), (f, .inl (N.2 0, 80, .inl fo)), (nr, .inl (N.2 0, 8, .inl ne1))] H → va_D Ag [(a, .inr (0, [.ref fl, .ref wi, .ref nr])), (fl, .inr (1, [.ref t, .int (nI n)])), (t, .inl (N.2 0, 64, .inl tr)), (wi, .inr (8, [.ref d, .ref f])), (d, .inl (N.2 0, 80, .inl di)), (f, .inl (N.2 0, 80, .inl fo)), (nr, .inl (N.2 0, 8, .inl ne1))] → va_S Ag sg.heap H locs → lv_has ls 5 [(3, .int (nI i)), (2, .int (nI b)), (0, .ref a), (1, .int (nI mi))] → W pg l eg { frames := 6, cells := 0, slots := 0, locals := 156 } sg mg ([.ref a, .int (nI mi)]).toArray blw mth cg H locs 0 0 (ckQi N Ag blw sg ([.ref a, .int (nI mi)]).toArray { frames := 6, cells := 0, slots := 0, locals := 156 } (fun (r : Int32) (u : Nat × (Nat → Int32)) => (r = (nI u.1)) ∧ (u.1 = bitsOf (fun f => fFly tr fo kd ht f mi) n ∧ ∀ f, f < n → u.2 f = nI (bitsOf (fun g => fNear tr fo kd ht dr f g mi) f))) (fun (u : Nat × (Nat → Int32)) => [(a, .inr (0, [.ref fl, .ref wi, .ref nr])), (fl, .inr (1, [.ref t, .int (nI n)])), (t, .inl (N.2 0, 64, .inl tr)), (wi, .inr (8, [.ref d, .ref f])), (d, .inl (N.2 0, 80, .inl di)), (f, .inl (N.2 0, 80, .inl fo)), (nr, .inl (N.2 0, 8, .inl u.2))])) (F0 mg 4 ls []) := by
    intro dz
    induction dz using Nat.strongRecOn with
    | _ dz ih_4 =>
      intro i b ne1 hdz hi hbb hne H locs ls hP hD hS hl
      subst hdz
      refine lv_iload_n hx hb dX0_lookAround_4 rfl (lv_at hl 0 rfl) ?_
      refine lv_aload_n hx hb dX0_lookAround_5 rfl (lv_at hl 2 rfl) ?_
      refine va_get (ci := 0) (v := .ref fl) (C := RX0) (T := TX0) (N := 3) hx hb hg inX0 hown hE.1 hP 0 rfl rfl 0 (by decide) (hg _ k1_65) (fun _ h9 => h9) rfl dX0_lookAround_6 ?_
      refine va_getN (ci := 1) (v := .int (nI n)) (C := RX1) (T := TX1) (N := 2) (host := "KiteMeet") hx hb hg inX1 hown hE.1 hP 1 rfl rfl 1 (by decide) (hE.nf 0 rfl _) (fun _ h9 => h9) rfl dX0_lookAround_9 ?_
      refine ck_ic_ge (tgt := 82) hx hb dX0_lookAround_12 (by decide) (by omega) (by omega) (fun cz_1 => ?_) (fun cz_1 => ?_)
      · refine lv_iload_n hx hb dX0_lookAround_82 rfl (lv_at hl 1 rfl) ?_
        exact ck_iret hx hb hrt hlk ⟨b, ne1⟩ ⟨rfl, by rw [hbb, (show i = n by omega)], fun f hf => hne f (by omega)⟩ hP hD hS ⟨Nat.le_of_ble_eq_true rfl, Nat.le_of_ble_eq_true rfl⟩ dX0_lookAround_83
      refine lv_aload_n hx hb dX0_lookAround_15 rfl (lv_at hl 2 rfl) ?_
      refine va_get (ci := 0) (v := .ref nr) (C := RX0) (T := TX0) (N := 3) hx hb hg inX0 hown hE.1 hP 0 rfl rfl 2 (by decide) (hg _ k1_71) (fun _ h9 => h9) rfl dX0_lookAround_16 ?_
      refine lv_iload_n hx hb dX0_lookAround_19 rfl (lv_at hl 0 rfl) ?_
      refine lv_iconst (v := (nI 0)) hx hb dX0_lookAround_20 (by decide) ?_
      refine ck_iast hx hb hE hP hD hS 6 rfl (by omega) (by decide) dX0_lookAround_21 (ws1 := [(a, .inr (0, [.ref fl, .ref wi, .ref nr])), (fl, .inr (1, [.ref t, .int (nI n)])), (t, .inl (N.2 0, 64, .inl tr)), (wi, .inr (8, [.ref d, .ref f])), (d, .inl (N.2 0, 80, .inl di)), (f, .inl (N.2 0, 80, .inl fo)), (nr, .inl (N.2 0, 8, .inl (upd ne1 i (nI 0))))]) rfl (fun H locs hP hD hS => ?_)
      refine lv_aload_n hx hb dX0_lookAround_22 rfl (lv_at hl 2 rfl) ?_
      refine lv_iload_n hx hb dX0_lookAround_23 rfl (lv_at hl 0 rfl) ?_
      refine lv_iload_n hx hb dX0_lookAround_24 rfl (lv_at hl 3 rfl) ?_
      refine ck_Vi (As := [.int (nI i), .int (nI mi)]) (rest := []) (wr := []) C0 hP hD hS (c_X0_carries l N a fl t wi d f nr tr n di fo (upd ne1 i (nI 0)) kd ht dr i mi hAir (by omega) (by omega)) myX0_carries k2_208 ⟨Nat.le_of_ble_eq_true rfl, Nat.le_of_ble_eq_true rfl⟩ [0, 1, 2, 3, 4, 5, 6] [] ⟨⟨rfl, rfl⟩, by decide, by decide, by decide⟩ 0 rfl rfl rfl rfl hl.1 rfl (Nat.le_of_ble_eq_true rfl) dX0_lookAround_25 ⟨Nat.le_of_ble_eq_true rfl, Nat.le_of_ble_eq_true rfl⟩ (fun r_2 u0 H locs hw0 hP hD hS => ?_)
      have hw_3 : r_2 = (b2i (fFly tr fo kd ht i mi)) := hw0
      subst hw_3
      have hP : va_P N.1 vwCl [(a, .inr (0, [.ref fl, .ref wi, .ref nr])), (fl, .inr (1, [.ref t, .int (nI n)])), (t, .inl (N.2 0, 64, .inl tr)), (wi, .inr (8, [.ref d, .ref f])), (d, .inl (N.2 0, 80, .inl di)), (f, .inl (N.2 0, 80, .inl fo)), (nr, .inl (N.2 0, 8, .inl (upd ne1 i (nI 0))))] H := hP
      have hD : va_D Ag [(a, .inr (0, [.ref fl, .ref wi, .ref nr])), (fl, .inr (1, [.ref t, .int (nI n)])), (t, .inl (N.2 0, 64, .inl tr)), (wi, .inr (8, [.ref d, .ref f])), (d, .inl (N.2 0, 80, .inl di)), (f, .inl (N.2 0, 80, .inl fo)), (nr, .inl (N.2 0, 8, .inl (upd ne1 i (nI 0))))] := hD
      refine ck_ifeq (b := fFly tr fo kd ht i mi) (tgt := 37) hx hb dX0_lookAround_28 (by decide) (fun cz_4 => ?_) (fun cz_4 => ?_)
      · refine lv_iconst (v := (nI 0)) hx hb dX0_lookAround_37 (by decide) ?_
        refine lv_istore (lv' := [(4, .int (nI 0)), (3, .int (nI i)), (2, .int (nI b)), (0, .ref a), (1, .int (nI mi))]) hx hb dX0_lookAround_38 hl (by decide) rfl (fun ls hl => ?_)
        have lp_40 : ∀ (dz : Nat) (j : Nat) (b2 : Nat) (ne2 : Nat → Int32) (hdz : i - j = dz) (hj : j ≤ i) (hb2 : b2 = bitsOf (fun f => fFly tr fo kd ht f mi) (i + 1)) (hni : ne2 i = nI (bitsOf (fun g => fNear tr fo kd ht dr i g mi) j)) (hne2 : ∀ f, f < i → ne2 f = nI (bitsOf (fun g => fNear tr fo kd ht dr f g mi) f)) (H : Heap) (locs : List Loc) (ls : Array Slot), va_P N.1 vwCl [(a, .inr (0, [.ref fl, .ref wi, .ref nr])), (fl, .inr (1, [.ref t, .int (nI n)])), (t, .inl (N.2 0, 64, .inl tr)), (wi, .inr (8, [.ref d, .ref f])), (d, .inl (N.2 0, 80, .inl di)), (f, .inl (N.2 0, 80, .inl fo)), (nr, .inl (N.2 0, 8, .inl ne2))] H → va_D Ag [(a, .inr (0, [.ref fl, .ref wi, .ref nr])), (fl, .inr (1, [.ref t, .int (nI n)])), (t, .inl (N.2 0, 64, .inl tr)), (wi, .inr (8, [.ref d, .ref f])), (d, .inl (N.2 0, 80, .inl di)), (f, .inl (N.2 0, 80, .inl fo)), (nr, .inl (N.2 0, 8, .inl ne2))] → va_S Ag sg.heap H locs → lv_has ls 5 [(4, .int (nI j)), (3, .int (nI i)), (2, .int (nI b2)), (0, .ref a), (1, .int (nI mi))] → W pg l eg { frames := 6, cells := 0, slots := 0, locals := 156 } sg mg ([.ref a, .int (nI mi)]).toArray blw mth cg H locs 0 0 (ckQi N Ag blw sg ([.ref a, .int (nI mi)]).toArray { frames := 6, cells := 0, slots := 0, locals := 156 } (fun (r : Int32) (u : Nat × (Nat → Int32)) => (r = (nI u.1)) ∧ (u.1 = bitsOf (fun f => fFly tr fo kd ht f mi) n ∧ ∀ f, f < n → u.2 f = nI (bitsOf (fun g => fNear tr fo kd ht dr f g mi) f))) (fun (u : Nat × (Nat → Int32)) => [(a, .inr (0, [.ref fl, .ref wi, .ref nr])), (fl, .inr (1, [.ref t, .int (nI n)])), (t, .inl (N.2 0, 64, .inl tr)), (wi, .inr (8, [.ref d, .ref f])), (d, .inl (N.2 0, 80, .inl di)), (f, .inl (N.2 0, 80, .inl fo)), (nr, .inl (N.2 0, 8, .inl u.2))])) (F0 mg 40 ls []) := by
          intro dz
          induction dz using Nat.strongRecOn with
          | _ dz ih_40 =>
            intro j b2 ne2 hdz hj hb2 hni hne2 H locs ls hP hD hS hl
            subst hdz
            refine lv_iload hx hb dX0_lookAround_40 (lv_at hl 0 rfl) ?_
            refine lv_iload_n hx hb dX0_lookAround_42 rfl (lv_at hl 1 rfl) ?_
            refine ck_ic_ge (tgt := 76) hx hb dX0_lookAround_43 (by decide) (by omega) (by omega) (fun cz_5 => ?_) (fun cz_5 => ?_)
            · refine lv_iinc (v := (nI (i + 1))) (lv' := [(3, .int (nI (i + 1))), (4, .int (nI j)), (2, .int (nI b2)), (0, .ref a), (1, .int (nI mi))]) hx hb dX0_lookAround_76 hl (k := 1) rfl (nI_1 _) (by decide) rfl (fun ls hl => ?_)
              refine lv_goto (tgt := 4) hx hb dX0_lookAround_79 (by decide) ?_
              exact ih_4 _ (by omega) (i + 1) b2 ne2 rfl (by omega) hb2 (lt_s hne2 (by rw [hni, (show j = i by omega)])) _ _ ls hP hD hS (lv_sub hl [0, 2, 3, 4] rfl)
            refine lv_aload_n hx hb dX0_lookAround_46 rfl (lv_at hl 3 rfl) ?_
            refine lv_iload_n hx hb dX0_lookAround_47 rfl (lv_at hl 1 rfl) ?_
            refine lv_iload hx hb dX0_lookAround_48 (lv_at hl 0 rfl) ?_
            refine lv_iload_n hx hb dX0_lookAround_50 rfl (lv_at hl 4 rfl) ?_
            refine ck_Vi (As := [.int (nI i), .int (nI j), .int (nI mi)]) (rest := []) (wr := []) C0 hP hD hS (c_X0_areTooNear l N a fl t wi d f nr tr n di fo ne2 kd ht dr i j mi hAir (by omega) (by omega) (by omega)) myX0_areTooNear k2_219 ⟨Nat.le_of_ble_eq_true rfl, Nat.le_of_ble_eq_true rfl⟩ [0, 1, 2, 3, 4, 5, 6] [] ⟨⟨rfl, rfl⟩, by decide, by decide, by decide⟩ 0 rfl rfl rfl rfl hl.1 rfl (Nat.le_of_ble_eq_true rfl) dX0_lookAround_51 ⟨Nat.le_of_ble_eq_true rfl, Nat.le_of_ble_eq_true rfl⟩ (fun r_6 u0 H locs hw0 hP hD hS => ?_)
            have hw_7 : r_6 = (b2i (fNear tr fo kd ht dr i j mi)) := hw0
            subst hw_7
            have hP : va_P N.1 vwCl [(a, .inr (0, [.ref fl, .ref wi, .ref nr])), (fl, .inr (1, [.ref t, .int (nI n)])), (t, .inl (N.2 0, 64, .inl tr)), (wi, .inr (8, [.ref d, .ref f])), (d, .inl (N.2 0, 80, .inl di)), (f, .inl (N.2 0, 80, .inl fo)), (nr, .inl (N.2 0, 8, .inl ne2))] H := hP
            have hD : va_D Ag [(a, .inr (0, [.ref fl, .ref wi, .ref nr])), (fl, .inr (1, [.ref t, .int (nI n)])), (t, .inl (N.2 0, 64, .inl tr)), (wi, .inr (8, [.ref d, .ref f])), (d, .inl (N.2 0, 80, .inl di)), (f, .inl (N.2 0, 80, .inl fo)), (nr, .inl (N.2 0, 8, .inl ne2))] := hD
            refine ck_ifeq (b := fNear tr fo kd ht dr i j mi) (tgt := 70) hx hb dX0_lookAround_54 (by decide) (fun cz_8 => ?_) (fun cz_8 => ?_)
            · refine lv_iinc (v := (nI (j + 1))) (lv' := [(4, .int (nI (j + 1))), (3, .int (nI i)), (2, .int (nI b2)), (0, .ref a), (1, .int (nI mi))]) hx hb dX0_lookAround_70 hl (k := 0) rfl (nI_1 _) (by decide) rfl (fun ls hl => ?_)
              refine lv_goto (tgt := 40) hx hb dX0_lookAround_73 (by decide) ?_
              exact ih_40 _ (by omega) (j + 1) b2 ne2 rfl (by omega) hb2 (hni.trans (by rw [bitsOf, cz_8]; rfl)) hne2 _ _ ls hP hD hS hl
            refine lv_aload_n hx hb dX0_lookAround_57 rfl (lv_at hl 3 rfl) ?_
            refine va_get (ci := 0) (v := .ref nr) (C := RX0) (T := TX0) (N := 3) hx hb hg inX0 hown hE.1 hP 0 rfl rfl 2 (by decide) (hg _ k1_71) (fun _ h9 => h9) rfl dX0_lookAround_58 ?_
            refine lv_iload_n hx hb dX0_lookAround_61 rfl (lv_at hl 1 rfl) ?_
            refine lv_dup2_11 hx hb dX0_lookAround_62 rfl rfl ?_
            refine ck_iald hx hb hE hP 6 rfl (by omega) (by decide) dX0_lookAround_63 ?_
            refine ck_top (y := (nI (bitsOf (fun g => fNear tr fo kd ht dr i g mi) j))) hni ?_
            refine lv_iconst (v := (nI 1)) hx hb dX0_lookAround_64 (by decide) ?_
            refine lv_iload hx hb dX0_lookAround_65 (lv_at hl 0 rfl) ?_
            refine lv_ishl hx hb dX0_lookAround_67 ?_
            refine ck_top (y := (nI (2 ^ j))) (ck_shl1 (by omega)) ?_
            refine lv_ior hx hb dX0_lookAround_68 ?_
            refine ck_top (y := (nI ((bitsOf (fun g => fNear tr fo kd ht dr i g mi) j) ||| (2 ^ j)))) (ck_or _ _) ?_
            refine ck_iast hx hb hE hP hD hS 6 rfl (by omega) (by decide) dX0_lookAround_69 (ws1 := [(a, .inr (0, [.ref fl, .ref wi, .ref nr])), (fl, .inr (1, [.ref t, .int (nI n)])), (t, .inl (N.2 0, 64, .inl tr)), (wi, .inr (8, [.ref d, .ref f])), (d, .inl (N.2 0, 80, .inl di)), (f, .inl (N.2 0, 80, .inl fo)), (nr, .inl (N.2 0, 8, .inl (upd ne2 i (nI ((bitsOf (fun g => fNear tr fo kd ht dr i g mi) j) ||| (2 ^ j))))))]) rfl (fun H locs hP hD hS => ?_)
            refine lv_iinc (v := (nI (j + 1))) (lv' := [(4, .int (nI (j + 1))), (3, .int (nI i)), (2, .int (nI b2)), (0, .ref a), (1, .int (nI mi))]) hx hb dX0_lookAround_70 hl (k := 0) rfl (nI_1 _) (by decide) rfl (fun ls hl => ?_)
            refine lv_goto (tgt := 40) hx hb dX0_lookAround_73 (by decide) ?_
            exact ih_40 _ (by omega) (j + 1) b2 (upd ne2 i (nI ((bitsOf (fun g => fNear tr fo kd ht dr i g mi) j) ||| (2 ^ j)))) rfl (by omega) hb2 (pk_us.trans (by rw [bitsOf, cz_8]; rfl)) (fun f hf => (pk_un (by omega)).trans (hne2 f hf)) _ _ ls hP hD hS hl
        exact lp_40 _ 0 b (upd ne1 i (nI 0)) rfl (by omega) (by rw [bitsOf, cz_4, hbb]; rfl) pk_us (fun f hf => (pk_un (by omega)).trans (hne f hf)) _ _ ls hP hD hS hl
      refine lv_iload_n hx hb dX0_lookAround_31 rfl (lv_at hl 1 rfl) ?_
      refine lv_iconst (v := (nI 1)) hx hb dX0_lookAround_32 (by decide) ?_
      refine lv_iload_n hx hb dX0_lookAround_33 rfl (lv_at hl 0 rfl) ?_
      refine lv_ishl hx hb dX0_lookAround_34 ?_
      refine ck_top (y := (nI (2 ^ i))) (ck_shl1 (by omega)) ?_
      refine lv_ior hx hb dX0_lookAround_35 ?_
      refine ck_top (y := (nI (b ||| (2 ^ i)))) (ck_or _ _) ?_
      refine lv_istore_n (lv' := [(2, .int (nI (b ||| (2 ^ i)))), (3, .int (nI i)), (0, .ref a), (1, .int (nI mi))]) hx hb dX0_lookAround_36 rfl hl (by decide) rfl (fun ls hl => ?_)
      refine lv_iconst (v := (nI 0)) hx hb dX0_lookAround_37 (by decide) ?_
      refine lv_istore (lv' := [(4, .int (nI 0)), (2, .int (nI (b ||| (2 ^ i)))), (3, .int (nI i)), (0, .ref a), (1, .int (nI mi))]) hx hb dX0_lookAround_38 hl (by decide) rfl (fun ls hl => ?_)
      have lp_40 : ∀ (dz : Nat) (j : Nat) (b2 : Nat) (ne2 : Nat → Int32) (hdz : i - j = dz) (hj : j ≤ i) (hb2 : b2 = bitsOf (fun f => fFly tr fo kd ht f mi) (i + 1)) (hni : ne2 i = nI (bitsOf (fun g => fNear tr fo kd ht dr i g mi) j)) (hne2 : ∀ f, f < i → ne2 f = nI (bitsOf (fun g => fNear tr fo kd ht dr f g mi) f)) (H : Heap) (locs : List Loc) (ls : Array Slot), va_P N.1 vwCl [(a, .inr (0, [.ref fl, .ref wi, .ref nr])), (fl, .inr (1, [.ref t, .int (nI n)])), (t, .inl (N.2 0, 64, .inl tr)), (wi, .inr (8, [.ref d, .ref f])), (d, .inl (N.2 0, 80, .inl di)), (f, .inl (N.2 0, 80, .inl fo)), (nr, .inl (N.2 0, 8, .inl ne2))] H → va_D Ag [(a, .inr (0, [.ref fl, .ref wi, .ref nr])), (fl, .inr (1, [.ref t, .int (nI n)])), (t, .inl (N.2 0, 64, .inl tr)), (wi, .inr (8, [.ref d, .ref f])), (d, .inl (N.2 0, 80, .inl di)), (f, .inl (N.2 0, 80, .inl fo)), (nr, .inl (N.2 0, 8, .inl ne2))] → va_S Ag sg.heap H locs → lv_has ls 5 [(4, .int (nI j)), (3, .int (nI i)), (2, .int (nI b2)), (0, .ref a), (1, .int (nI mi))] → W pg l eg { frames := 6, cells := 0, slots := 0, locals := 156 } sg mg ([.ref a, .int (nI mi)]).toArray blw mth cg H locs 0 0 (ckQi N Ag blw sg ([.ref a, .int (nI mi)]).toArray { frames := 6, cells := 0, slots := 0, locals := 156 } (fun (r : Int32) (u : Nat × (Nat → Int32)) => (r = (nI u.1)) ∧ (u.1 = bitsOf (fun f => fFly tr fo kd ht f mi) n ∧ ∀ f, f < n → u.2 f = nI (bitsOf (fun g => fNear tr fo kd ht dr f g mi) f))) (fun (u : Nat × (Nat → Int32)) => [(a, .inr (0, [.ref fl, .ref wi, .ref nr])), (fl, .inr (1, [.ref t, .int (nI n)])), (t, .inl (N.2 0, 64, .inl tr)), (wi, .inr (8, [.ref d, .ref f])), (d, .inl (N.2 0, 80, .inl di)), (f, .inl (N.2 0, 80, .inl fo)), (nr, .inl (N.2 0, 8, .inl u.2))])) (F0 mg 40 ls []) := by
        intro dz
        induction dz using Nat.strongRecOn with
        | _ dz ih_40 =>
          intro j b2 ne2 hdz hj hb2 hni hne2 H locs ls hP hD hS hl
          subst hdz
          refine lv_iload hx hb dX0_lookAround_40 (lv_at hl 0 rfl) ?_
          refine lv_iload_n hx hb dX0_lookAround_42 rfl (lv_at hl 1 rfl) ?_
          refine ck_ic_ge (tgt := 76) hx hb dX0_lookAround_43 (by decide) (by omega) (by omega) (fun cz_9 => ?_) (fun cz_9 => ?_)
          · refine lv_iinc (v := (nI (i + 1))) (lv' := [(3, .int (nI (i + 1))), (4, .int (nI j)), (2, .int (nI b2)), (0, .ref a), (1, .int (nI mi))]) hx hb dX0_lookAround_76 hl (k := 1) rfl (nI_1 _) (by decide) rfl (fun ls hl => ?_)
            refine lv_goto (tgt := 4) hx hb dX0_lookAround_79 (by decide) ?_
            exact ih_4 _ (by omega) (i + 1) b2 ne2 rfl (by omega) hb2 (lt_s hne2 (by rw [hni, (show j = i by omega)])) _ _ ls hP hD hS (lv_sub hl [0, 2, 3, 4] rfl)
          refine lv_aload_n hx hb dX0_lookAround_46 rfl (lv_at hl 3 rfl) ?_
          refine lv_iload_n hx hb dX0_lookAround_47 rfl (lv_at hl 1 rfl) ?_
          refine lv_iload hx hb dX0_lookAround_48 (lv_at hl 0 rfl) ?_
          refine lv_iload_n hx hb dX0_lookAround_50 rfl (lv_at hl 4 rfl) ?_
          refine ck_Vi (As := [.int (nI i), .int (nI j), .int (nI mi)]) (rest := []) (wr := []) C0 hP hD hS (c_X0_areTooNear l N a fl t wi d f nr tr n di fo ne2 kd ht dr i j mi hAir (by omega) (by omega) (by omega)) myX0_areTooNear k2_219 ⟨Nat.le_of_ble_eq_true rfl, Nat.le_of_ble_eq_true rfl⟩ [0, 1, 2, 3, 4, 5, 6] [] ⟨⟨rfl, rfl⟩, by decide, by decide, by decide⟩ 0 rfl rfl rfl rfl hl.1 rfl (Nat.le_of_ble_eq_true rfl) dX0_lookAround_51 ⟨Nat.le_of_ble_eq_true rfl, Nat.le_of_ble_eq_true rfl⟩ (fun r_10 u0 H locs hw0 hP hD hS => ?_)
          have hw_11 : r_10 = (b2i (fNear tr fo kd ht dr i j mi)) := hw0
          subst hw_11
          have hP : va_P N.1 vwCl [(a, .inr (0, [.ref fl, .ref wi, .ref nr])), (fl, .inr (1, [.ref t, .int (nI n)])), (t, .inl (N.2 0, 64, .inl tr)), (wi, .inr (8, [.ref d, .ref f])), (d, .inl (N.2 0, 80, .inl di)), (f, .inl (N.2 0, 80, .inl fo)), (nr, .inl (N.2 0, 8, .inl ne2))] H := hP
          have hD : va_D Ag [(a, .inr (0, [.ref fl, .ref wi, .ref nr])), (fl, .inr (1, [.ref t, .int (nI n)])), (t, .inl (N.2 0, 64, .inl tr)), (wi, .inr (8, [.ref d, .ref f])), (d, .inl (N.2 0, 80, .inl di)), (f, .inl (N.2 0, 80, .inl fo)), (nr, .inl (N.2 0, 8, .inl ne2))] := hD
          refine ck_ifeq (b := fNear tr fo kd ht dr i j mi) (tgt := 70) hx hb dX0_lookAround_54 (by decide) (fun cz_12 => ?_) (fun cz_12 => ?_)
          · refine lv_iinc (v := (nI (j + 1))) (lv' := [(4, .int (nI (j + 1))), (3, .int (nI i)), (2, .int (nI b2)), (0, .ref a), (1, .int (nI mi))]) hx hb dX0_lookAround_70 hl (k := 0) rfl (nI_1 _) (by decide) rfl (fun ls hl => ?_)
            refine lv_goto (tgt := 40) hx hb dX0_lookAround_73 (by decide) ?_
            exact ih_40 _ (by omega) (j + 1) b2 ne2 rfl (by omega) hb2 (hni.trans (by rw [bitsOf, cz_12]; rfl)) hne2 _ _ ls hP hD hS hl
          refine lv_aload_n hx hb dX0_lookAround_57 rfl (lv_at hl 3 rfl) ?_
          refine va_get (ci := 0) (v := .ref nr) (C := RX0) (T := TX0) (N := 3) hx hb hg inX0 hown hE.1 hP 0 rfl rfl 2 (by decide) (hg _ k1_71) (fun _ h9 => h9) rfl dX0_lookAround_58 ?_
          refine lv_iload_n hx hb dX0_lookAround_61 rfl (lv_at hl 1 rfl) ?_
          refine lv_dup2_11 hx hb dX0_lookAround_62 rfl rfl ?_
          refine ck_iald hx hb hE hP 6 rfl (by omega) (by decide) dX0_lookAround_63 ?_
          refine ck_top (y := (nI (bitsOf (fun g => fNear tr fo kd ht dr i g mi) j))) hni ?_
          refine lv_iconst (v := (nI 1)) hx hb dX0_lookAround_64 (by decide) ?_
          refine lv_iload hx hb dX0_lookAround_65 (lv_at hl 0 rfl) ?_
          refine lv_ishl hx hb dX0_lookAround_67 ?_
          refine ck_top (y := (nI (2 ^ j))) (ck_shl1 (by omega)) ?_
          refine lv_ior hx hb dX0_lookAround_68 ?_
          refine ck_top (y := (nI ((bitsOf (fun g => fNear tr fo kd ht dr i g mi) j) ||| (2 ^ j)))) (ck_or _ _) ?_
          refine ck_iast hx hb hE hP hD hS 6 rfl (by omega) (by decide) dX0_lookAround_69 (ws1 := [(a, .inr (0, [.ref fl, .ref wi, .ref nr])), (fl, .inr (1, [.ref t, .int (nI n)])), (t, .inl (N.2 0, 64, .inl tr)), (wi, .inr (8, [.ref d, .ref f])), (d, .inl (N.2 0, 80, .inl di)), (f, .inl (N.2 0, 80, .inl fo)), (nr, .inl (N.2 0, 8, .inl (upd ne2 i (nI ((bitsOf (fun g => fNear tr fo kd ht dr i g mi) j) ||| (2 ^ j))))))]) rfl (fun H locs hP hD hS => ?_)
          refine lv_iinc (v := (nI (j + 1))) (lv' := [(4, .int (nI (j + 1))), (3, .int (nI i)), (2, .int (nI b2)), (0, .ref a), (1, .int (nI mi))]) hx hb dX0_lookAround_70 hl (k := 0) rfl (nI_1 _) (by decide) rfl (fun ls hl => ?_)
          refine lv_goto (tgt := 40) hx hb dX0_lookAround_73 (by decide) ?_
          exact ih_40 _ (by omega) (j + 1) b2 (upd ne2 i (nI ((bitsOf (fun g => fNear tr fo kd ht dr i g mi) j) ||| (2 ^ j)))) rfl (by omega) hb2 (pk_us.trans (by rw [bitsOf, cz_12]; rfl)) (fun f hf => (pk_un (by omega)).trans (hne2 f hf)) _ _ ls hP hD hS hl
      exact lp_40 _ 0 (b ||| (2 ^ i)) (upd ne1 i (nI 0)) rfl (by omega) (by rw [bitsOf, cz_4, hbb]; rfl) pk_us (fun f hf => (pk_un (by omega)).trans (hne f hf)) _ _ ls hP hD hS (lv_sub hl [0, 2, 1, 3, 4] rfl)
  exact lp_4 _ 0 0 ne rfl (by omega) rfl (fun f hf => absurd hf (Nat.not_lt_zero f)) _ _ ls hP hD hS hl
set_option maxHeartbeats 4000000 in
set_option maxRecDepth 100000 in
/-- X0_areApart -/
theorem c_X0_areApart (l : Launch) (N : ckN) (a : Nat) (fl : Nat) (t : Nat) (wi : Nat) (d : Nat) (f : Nat) (nr : Nat) (tr : Nat → Int32) (n : Nat) (di : Nat → Int32) (fo : Nat → Int32) (ne : Nat → Int32) (kd : Nat → Nat) (ht : Nat → Nat) (dr : Nat → Nat) (s1 : Nat) (nb : Nat → Nat) (hn8 : n ≤ 8) (hs : s1 < 2 ^ 31) (hnb : ∀ f, f < n → ne f = nI (nb f)) : ckI l yX0_areApart cX0_areApart 3 (some FieldType.boolean) { frames := 2, cells := 0, slots := 0, locals := 60 } N [.ref a, .int (nI s1)] [(a, .inr (0, [.ref fl, .ref wi, .ref nr])), (fl, .inr (1, [.ref t, .int (nI n)])), (t, .inl (N.2 0, 64, .inl tr)), (wi, .inr (8, [.ref d, .ref f])), (d, .inl (N.2 0, 80, .inl di)), (f, .inl (N.2 0, 80, .inl fo)), (nr, .inl (N.2 0, 8, .inl ne))] (fun (r : Int32) (u : Unit) => r = (b2i (ckApart nb n s1))) (fun (u : Unit) => [(a, .inr (0, [.ref fl, .ref wi, .ref nr])), (fl, .inr (1, [.ref t, .int (nI n)])), (t, .inl (N.2 0, 64, .inl tr)), (wi, .inr (8, [.ref d, .ref f])), (d, .inl (N.2 0, 80, .inl di)), (f, .inl (N.2 0, 80, .inl fo)), (nr, .inl (N.2 0, 8, .inl ne))]) := by
  refine ckI.of (by decide) (Nat.le_of_ble_eq_true rfl) ?_
  intro pg eg sg mg blw mth cg Ag ls hx hb hrt hml hown hlk hin hg hE hA hP hD hS hl
  have hown : sg.vm.findClass RX0 = some mg.cls := hown
  have hl : lv_has ls 3 [(0, .ref a), (1, .int (nI s1))] := hl
  have C0 : ckC pg sg mg ([.ref a, .int (nI s1)]).toArray cg cX0_areApart 3 RX0 N Ag := ⟨⟨hx, hb, hml, hown, hg⟩, hE, hA⟩
  generalize hHe : sg.heap = H at hP
  have hS : va_S Ag sg.heap H [] := hHe ▸ hS
  refine lv_iconst (v := (nI 0)) hx hb dX0_areApart_0 (by decide) ?_
  refine lv_istore_n (lv' := [(2, .int (nI 0)), (0, .ref a), (1, .int (nI s1))]) hx hb dX0_areApart_1 rfl hl (by decide) rfl (fun ls hl => ?_)
  have lp_2 : ∀ (dz : Nat) (f0 : Nat) (hdz : n - f0 = dz) (hf : f0 ≤ n) (hz : ∀ f, f < f0 → s1 / 2 ^ f % 2 = 1 → nb f &&& s1 = 0) (H : Heap) (locs : List Loc) (ls : Array Slot), va_P N.1 vwCl [(a, .inr (0, [.ref fl, .ref wi, .ref nr])), (fl, .inr (1, [.ref t, .int (nI n)])), (t, .inl (N.2 0, 64, .inl tr)), (wi, .inr (8, [.ref d, .ref f])), (d, .inl (N.2 0, 80, .inl di)), (f, .inl (N.2 0, 80, .inl fo)), (nr, .inl (N.2 0, 8, .inl ne))] H → va_D Ag [(a, .inr (0, [.ref fl, .ref wi, .ref nr])), (fl, .inr (1, [.ref t, .int (nI n)])), (t, .inl (N.2 0, 64, .inl tr)), (wi, .inr (8, [.ref d, .ref f])), (d, .inl (N.2 0, 80, .inl di)), (f, .inl (N.2 0, 80, .inl fo)), (nr, .inl (N.2 0, 8, .inl ne))] → va_S Ag sg.heap H locs → lv_has ls 3 [(2, .int (nI f0)), (0, .ref a), (1, .int (nI s1))] → W pg l eg { frames := 2, cells := 0, slots := 0, locals := 60 } sg mg ([.ref a, .int (nI s1)]).toArray blw mth cg H locs 0 0 (ckQi N Ag blw sg ([.ref a, .int (nI s1)]).toArray { frames := 2, cells := 0, slots := 0, locals := 60 } (fun (r : Int32) (u : Unit) => r = (b2i (ckApart nb n s1))) (fun (u : Unit) => [(a, .inr (0, [.ref fl, .ref wi, .ref nr])), (fl, .inr (1, [.ref t, .int (nI n)])), (t, .inl (N.2 0, 64, .inl tr)), (wi, .inr (8, [.ref d, .ref f])), (d, .inl (N.2 0, 80, .inl di)), (f, .inl (N.2 0, 80, .inl fo)), (nr, .inl (N.2 0, 8, .inl ne))])) (F0 mg 2 ls []) := by
    intro dz
    induction dz using Nat.strongRecOn with
    | _ dz ih_2 =>
      intro f0 hdz hf hz H locs ls hP hD hS hl
      subst hdz
      refine lv_iload_n hx hb dX0_areApart_2 rfl (lv_at hl 0 rfl) ?_
      refine lv_aload_n hx hb dX0_areApart_3 rfl (lv_at hl 1 rfl) ?_
      refine va_get (ci := 0) (v := .ref fl) (C := RX0) (T := TX0) (N := 3) hx hb hg inX0 hown hE.1 hP 0 rfl rfl 0 (by decide) (hg _ k1_65) (fun _ h9 => h9) rfl dX0_areApart_4 ?_
      refine va_getN (ci := 1) (v := .int (nI n)) (C := RX1) (T := TX1) (N := 2) (host := "KiteMeet") hx hb hg inX1 hown hE.1 hP 1 rfl rfl 1 (by decide) (hE.nf 0 rfl _) (fun _ h9 => h9) rfl dX0_areApart_7 ?_
      refine ck_ic_ge (tgt := 41) hx hb dX0_areApart_10 (by decide) (by omega) (by omega) (fun cz_1 => ?_) (fun cz_1 => ?_)
      · refine lv_iconst (v := (nI 1)) hx hb dX0_areApart_41 (by decide) ?_
        refine ck_top (y := (b2i true)) (by decide) ?_
        exact ck_zret (b := true) hx hb hrt hlk () (congrArg b2i (Eq.symm (decide_eq_true (fun f hf => hz f (by omega))))) hP hD hS ⟨Nat.le_of_ble_eq_true rfl, Nat.le_of_ble_eq_true rfl⟩ dX0_areApart_42
      refine lv_iload_n hx hb dX0_areApart_13 rfl (lv_at hl 2 rfl) ?_
      refine lv_iload_n hx hb dX0_areApart_14 rfl (lv_at hl 0 rfl) ?_
      refine lv_ishr hx hb dX0_areApart_15 ?_
      refine ck_top (y := (nI (s1 / 2 ^ f0))) (ck_shr (by omega) (by omega)) ?_
      refine lv_iconst (v := (nI 1)) hx hb dX0_areApart_16 (by decide) ?_
      refine lv_iand hx hb dX0_areApart_17 ?_
      refine ck_top (y := (nI ((s1 / 2 ^ f0) % 2))) (ck_and1 _) ?_
      refine lv_iconst (v := (nI 1)) hx hb dX0_areApart_18 (by decide) ?_
      refine ck_ic_ne (tgt := 35) hx hb dX0_areApart_19 (by decide) (by omega) (by omega) (fun cz_2 => ?_) (fun cz_2 => ?_)
      · refine lv_iinc (v := (nI (f0 + 1))) (lv' := [(2, .int (nI (f0 + 1))), (0, .ref a), (1, .int (nI s1))]) hx hb dX0_areApart_35 hl (k := 0) rfl (nI_1 _) (by decide) rfl (fun ls hl => ?_)
        refine lv_goto (tgt := 2) hx hb dX0_areApart_38 (by decide) ?_
        exact ih_2 _ (by omega) (f0 + 1) rfl (by omega) (lt_s hz (fun h1 => absurd h1 cz_2)) _ _ ls hP hD hS hl
      refine lv_aload_n hx hb dX0_areApart_22 rfl (lv_at hl 1 rfl) ?_
      refine va_get (ci := 0) (v := .ref nr) (C := RX0) (T := TX0) (N := 3) hx hb hg inX0 hown hE.1 hP 0 rfl rfl 2 (by decide) (hg _ k1_71) (fun _ h9 => h9) rfl dX0_areApart_23 ?_
      refine lv_iload_n hx hb dX0_areApart_26 rfl (lv_at hl 0 rfl) ?_
      refine ck_iald hx hb hE hP 6 rfl (by omega) (by decide) dX0_areApart_27 ?_
      refine ck_top (y := (nI (nb f0))) (hnb f0 (by omega)) ?_
      refine lv_iload_n hx hb dX0_areApart_28 rfl (lv_at hl 2 rfl) ?_
      refine lv_iand hx hb dX0_areApart_29 ?_
      refine ck_top (y := (nI (nb f0 &&& s1))) (ck_and _ _) ?_
      refine ck_if0_eq (tgt := 35) hx hb dX0_areApart_30 (by decide) (Nat.lt_of_le_of_lt Nat.and_le_right hs) (fun cz_3 => ?_) (fun cz_3 => ?_)
      · refine lv_iinc (v := (nI (f0 + 1))) (lv' := [(2, .int (nI (f0 + 1))), (0, .ref a), (1, .int (nI s1))]) hx hb dX0_areApart_35 hl (k := 0) rfl (nI_1 _) (by decide) rfl (fun ls hl => ?_)
        refine lv_goto (tgt := 2) hx hb dX0_areApart_38 (by decide) ?_
        exact ih_2 _ (by omega) (f0 + 1) rfl (by omega) (lt_s hz (fun h1 => cz_3)) _ _ ls hP hD hS hl
      refine lv_iconst (v := (nI 0)) hx hb dX0_areApart_33 (by decide) ?_
      refine ck_top (y := (b2i false)) (by decide) ?_
      exact ck_zret (b := false) hx hb hrt hlk () (congrArg b2i (Eq.symm (decide_eq_false (fun hh => cz_3 (hh f0 (by omega) cz_2))))) hP hD hS ⟨Nat.le_of_ble_eq_true rfl, Nat.le_of_ble_eq_true rfl⟩ dX0_areApart_34
  exact lp_2 _ 0 rfl (by omega) (fun f hf => absurd hf (Nat.not_lt_zero f)) _ _ ls hP hD hS hl
set_option maxHeartbeats 4000000 in
set_option maxRecDepth 100000 in
/-- X0_largestApart -/
theorem c_X0_largestApart (l : Launch) (N : ckN) (a : Nat) (fl : Nat) (t : Nat) (wi : Nat) (d : Nat) (f : Nat) (nr : Nat) (tr : Nat → Int32) (n : Nat) (di : Nat → Int32) (fo : Nat → Int32) (ne : Nat → Int32) (kd : Nat → Nat) (ht : Nat → Nat) (dr : Nat → Nat) (mi : Nat) (hAir : ckAir tr di n kd ht dr) (hm : mi < 20) : ckI l yX0_largestApart cX0_largestApart 6 (some FieldType.int) { frames := 7, cells := 0, slots := 0, locals := 180 } N [.ref a, .int (nI mi)] [(a, .inr (0, [.ref fl, .ref wi, .ref nr])), (fl, .inr (1, [.ref t, .int (nI n)])), (t, .inl (N.2 0, 64, .inl tr)), (wi, .inr (8, [.ref d, .ref f])), (d, .inl (N.2 0, 80, .inl di)), (f, .inl (N.2 0, 80, .inl fo)), (nr, .inl (N.2 0, 8, .inl ne))] (fun (r : Int32) (u : (Nat → Int32)) => r = (nI (ckField (fun f => fFly tr fo kd ht f mi) (fun f g => fNear tr fo kd ht dr f g mi) n))) (fun (u : (Nat → Int32)) => [(a, .inr (0, [.ref fl, .ref wi, .ref nr])), (fl, .inr (1, [.ref t, .int (nI n)])), (t, .inl (N.2 0, 64, .inl tr)), (wi, .inr (8, [.ref d, .ref f])), (d, .inl (N.2 0, 80, .inl di)), (f, .inl (N.2 0, 80, .inl fo)), (nr, .inl (N.2 0, 8, .inl u))]) := by
  refine ckI.of (by decide) (Nat.le_of_ble_eq_true rfl) ?_
  intro pg eg sg mg blw mth cg Ag ls hx hb hrt hml hown hlk hin hg hE hA hP hD hS hl
  have hown : sg.vm.findClass RX0 = some mg.cls := hown
  have hl : lv_has ls 6 [(0, .ref a), (1, .int (nI mi))] := hl
  have C0 : ckC pg sg mg ([.ref a, .int (nI mi)]).toArray cg cX0_largestApart 6 RX0 N Ag := ⟨⟨hx, hb, hml, hown, hg⟩, hE, hA⟩
  generalize hHe : sg.heap = H at hP
  have hS : va_S Ag sg.heap H [] := hHe ▸ hS
  have hn8 := hAir.1
  refine lv_aload_n hx hb dX0_largestApart_0 rfl (lv_at hl 0 rfl) ?_
  refine lv_iload_n hx hb dX0_largestApart_1 rfl (lv_at hl 1 rfl) ?_
  refine ck_Vi (As := [.int (nI mi)]) (rest := []) (wr := []) C0 hP hD hS (c_X0_lookAround l N a fl t wi d f nr tr n di fo ne kd ht dr mi hAir (by omega)) myX0_lookAround k2_229 ⟨Nat.le_of_ble_eq_true rfl, Nat.le_of_ble_eq_true rfl⟩ [0, 1, 2, 3, 4, 5, 6] [] ⟨⟨rfl, rfl⟩, by decide, by decide, by decide⟩ 0 rfl rfl rfl rfl hl.1 rfl (Nat.le_of_ble_eq_true rfl) dX0_largestApart_2 ⟨Nat.le_of_ble_eq_true rfl, Nat.le_of_ble_eq_true rfl⟩ (fun r_1 u0 H locs hw0 hP hD hS => ?_)
  obtain ⟨b, ne3⟩ := u0
  have hw_2 : (r_1 = (nI b)) ∧ (b = bitsOf (fun f => fFly tr fo kd ht f mi) n ∧ ∀ f, f < n → ne3 f = nI (bitsOf (fun g => fNear tr fo kd ht dr f g mi) f)) := hw0
  obtain ⟨hv_3, hw_2⟩ := hw_2
  subst hv_3
  have hP : va_P N.1 vwCl [(a, .inr (0, [.ref fl, .ref wi, .ref nr])), (fl, .inr (1, [.ref t, .int (nI n)])), (t, .inl (N.2 0, 64, .inl tr)), (wi, .inr (8, [.ref d, .ref f])), (d, .inl (N.2 0, 80, .inl di)), (f, .inl (N.2 0, 80, .inl fo)), (nr, .inl (N.2 0, 8, .inl ne3))] H := hP
  have hD : va_D Ag [(a, .inr (0, [.ref fl, .ref wi, .ref nr])), (fl, .inr (1, [.ref t, .int (nI n)])), (t, .inl (N.2 0, 64, .inl tr)), (wi, .inr (8, [.ref d, .ref f])), (d, .inl (N.2 0, 80, .inl di)), (f, .inl (N.2 0, 80, .inl fo)), (nr, .inl (N.2 0, 8, .inl ne3))] := hD
  obtain ⟨hb1, hb2⟩ := hw_2
  have hb3 : b < 256 := by rw [hb1]; exact Nat.lt_of_lt_of_le (bitsOf_lt _ n) (Nat.pow_le_pow_right (by decide) hn8)
  refine lv_istore_n (lv' := [(2, .int (nI b)), (0, .ref a), (1, .int (nI mi))]) hx hb dX0_largestApart_5 rfl hl (by decide) rfl (fun ls hl => ?_)
  refine lv_iconst (v := (nI 0)) hx hb dX0_largestApart_6 (by decide) ?_
  refine lv_istore_n (lv' := [(3, .int (nI 0)), (2, .int (nI b)), (0, .ref a), (1, .int (nI mi))]) hx hb dX0_largestApart_7 rfl hl (by decide) rfl (fun ls hl => ?_)
  refine lv_iconst (v := (nI 0)) hx hb dX0_largestApart_8 (by decide) ?_
  refine lv_istore (lv' := [(4, .int (nI 0)), (3, .int (nI 0)), (2, .int (nI b)), (0, .ref a), (1, .int (nI mi))]) hx hb dX0_largestApart_9 hl (by decide) rfl (fun ls hl => ?_)
  refine lv_iconst (v := (nI 1)) hx hb dX0_largestApart_11 (by decide) ?_
  refine lv_istore (lv' := [(5, .int (nI 1)), (4, .int (nI 0)), (3, .int (nI 0)), (2, .int (nI b)), (0, .ref a), (1, .int (nI mi))]) hx hb dX0_largestApart_12 hl (by decide) rfl (fun ls hl => ?_)
  have lp_14 : ∀ (dz : Nat) (k : Nat) (fd : Nat) (hdz : b + 1 - k = dz) (hk : 1 ≤ k ∧ k ≤ b + 1) (hfd : fd = ckBest b (ckApart (fun f => bitsOf (fun g => fNear tr fo kd ht dr f g mi) f) n) (k - 1)) (H : Heap) (locs : List Loc) (ls : Array Slot), va_P N.1 vwCl [(a, .inr (0, [.ref fl, .ref wi, .ref nr])), (fl, .inr (1, [.ref t, .int (nI n)])), (t, .inl (N.2 0, 64, .inl tr)), (wi, .inr (8, [.ref d, .ref f])), (d, .inl (N.2 0, 80, .inl di)), (f, .inl (N.2 0, 80, .inl fo)), (nr, .inl (N.2 0, 8, .inl ne3))] H → va_D Ag [(a, .inr (0, [.ref fl, .ref wi, .ref nr])), (fl, .inr (1, [.ref t, .int (nI n)])), (t, .inl (N.2 0, 64, .inl tr)), (wi, .inr (8, [.ref d, .ref f])), (d, .inl (N.2 0, 80, .inl di)), (f, .inl (N.2 0, 80, .inl fo)), (nr, .inl (N.2 0, 8, .inl ne3))] → va_S Ag sg.heap H locs → lv_has ls 6 [(5, .int (nI k)), (4, .int (nI (pop fd))), (3, .int (nI fd)), (2, .int (nI b)), (0, .ref a), (1, .int (nI mi))] → W pg l eg { frames := 7, cells := 0, slots := 0, locals := 180 } sg mg ([.ref a, .int (nI mi)]).toArray blw mth cg H locs 0 0 (ckQi N Ag blw sg ([.ref a, .int (nI mi)]).toArray { frames := 7, cells := 0, slots := 0, locals := 180 } (fun (r : Int32) (u : (Nat → Int32)) => r = (nI (ckField (fun f => fFly tr fo kd ht f mi) (fun f g => fNear tr fo kd ht dr f g mi) n))) (fun (u : (Nat → Int32)) => [(a, .inr (0, [.ref fl, .ref wi, .ref nr])), (fl, .inr (1, [.ref t, .int (nI n)])), (t, .inl (N.2 0, 64, .inl tr)), (wi, .inr (8, [.ref d, .ref f])), (d, .inl (N.2 0, 80, .inl di)), (f, .inl (N.2 0, 80, .inl fo)), (nr, .inl (N.2 0, 8, .inl u))])) (F0 mg 14 ls []) := by
    intro dz
    induction dz using Nat.strongRecOn with
    | _ dz ih_14 =>
      intro k fd hdz hk hfd H locs ls hP hD hS hl
      subst hdz
      refine lv_iload hx hb dX0_largestApart_14 (lv_at hl 0 rfl) ?_
      refine lv_iload_n hx hb dX0_largestApart_16 rfl (lv_at hl 3 rfl) ?_
      refine ck_ic_gt (tgt := 64) hx hb dX0_largestApart_17 (by decide) (by omega) (by omega) (fun cz_4 => ?_) (fun cz_4 => ?_)
      · refine lv_iload_n hx hb dX0_largestApart_64 rfl (lv_at hl 2 rfl) ?_
        exact ck_iret hx hb hrt hlk (ne3) (by rw [hfd, (show k - 1 = b by omega), ckField, ← hb1]) hP hD hS ⟨Nat.le_of_ble_eq_true rfl, Nat.le_of_ble_eq_true rfl⟩ dX0_largestApart_65
      refine lv_iload hx hb dX0_largestApart_20 (lv_at hl 0 rfl) ?_
      refine lv_iload_n hx hb dX0_largestApart_22 rfl (lv_at hl 3 rfl) ?_
      refine lv_iconst (v := (-1)) hx hb dX0_largestApart_23 (by decide) ?_
      refine lv_ixor hx hb dX0_largestApart_24 ?_
      refine lv_iand hx hb dX0_largestApart_25 ?_
      refine lv_if_ne (tgt := 58) hx hb dX0_largestApart_26 (by decide) (fun cz_5 => ?_) (fun cz_5 => ?_)
      · refine lv_iinc (v := (nI (k + 1))) (lv' := [(5, .int (nI (k + 1))), (4, .int (nI (pop fd))), (3, .int (nI fd)), (2, .int (nI b)), (0, .ref a), (1, .int (nI mi))]) hx hb dX0_largestApart_58 hl (k := 0) rfl (nI_1 _) (by decide) rfl (fun ls hl => ?_)
        refine lv_goto (tgt := 14) hx hb dX0_largestApart_61 (by decide) ?_
        exact ih_14 _ (by omega) (k + 1) fd rfl (by omega) (ckBest_n hk.1 hfd (fun q => cz_5 q.1)) _ _ ls hP hD hS hl
      refine lv_iload hx hb dX0_largestApart_29 (lv_at hl 0 rfl) ?_
      refine ck_Si (As := [.int (nI k)]) (rest := []) (wr := [(a, .inr (0, [.ref fl, .ref wi, .ref nr])), (fl, .inr (1, [.ref t, .int (nI n)])), (t, .inl (N.2 0, 64, .inl tr)), (wi, .inr (8, [.ref d, .ref f])), (d, .inl (N.2 0, 80, .inl di)), (f, .inl (N.2 0, 80, .inl fo)), (nr, .inl (N.2 0, 8, .inl ne3))]) C0 hP hD hS (c_J6_bitCount_0f7a4 l N (nI k) ) myJ6_bitCount_0f7a4 k2_233 ⟨Nat.le_of_ble_eq_true rfl, Nat.le_of_ble_eq_true rfl⟩ [] [0, 1, 2, 3, 4, 5, 6] ⟨⟨rfl, rfl⟩, by decide, by decide, by decide⟩ rfl hl.1 rfl (Nat.le_of_ble_eq_true rfl) dX0_largestApart_31 ⟨Nat.le_of_ble_eq_true rfl, Nat.le_of_ble_eq_true rfl⟩ (fun r_6 u0 H locs hw0 hP hD hS => ?_)
      have hw_7 : r_6 = (ckBC (nI k)) := hw0
      subst hw_7
      have hP : va_P N.1 vwCl [(a, .inr (0, [.ref fl, .ref wi, .ref nr])), (fl, .inr (1, [.ref t, .int (nI n)])), (t, .inl (N.2 0, 64, .inl tr)), (wi, .inr (8, [.ref d, .ref f])), (d, .inl (N.2 0, 80, .inl di)), (f, .inl (N.2 0, 80, .inl fo)), (nr, .inl (N.2 0, 8, .inl ne3))] H := hP
      have hD : va_D Ag [(a, .inr (0, [.ref fl, .ref wi, .ref nr])), (fl, .inr (1, [.ref t, .int (nI n)])), (t, .inl (N.2 0, 64, .inl tr)), (wi, .inr (8, [.ref d, .ref f])), (d, .inl (N.2 0, 80, .inl di)), (f, .inl (N.2 0, 80, .inl fo)), (nr, .inl (N.2 0, 8, .inl ne3))] := hD
      refine ck_top (y := (nI (pop k))) (ck_bc k (by omega)) ?_
      refine lv_iload hx hb dX0_largestApart_34 (lv_at hl 1 rfl) ?_
      refine ck_ic_le (tgt := 58) hx hb dX0_largestApart_36 (by decide) (pop_lt _) (pop_lt _) (fun cz_8 => ?_) (fun cz_8 => ?_)
      · refine lv_iinc (v := (nI (k + 1))) (lv' := [(5, .int (nI (k + 1))), (4, .int (nI (pop fd))), (3, .int (nI fd)), (2, .int (nI b)), (0, .ref a), (1, .int (nI mi))]) hx hb dX0_largestApart_58 hl (k := 0) rfl (nI_1 _) (by decide) rfl (fun ls hl => ?_)
        refine lv_goto (tgt := 14) hx hb dX0_largestApart_61 (by decide) ?_
        exact ih_14 _ (by omega) (k + 1) fd rfl (by omega) (ckBest_n hk.1 hfd (fun q => absurd q.2.1 (Nat.not_lt.mpr cz_8))) _ _ ls hP hD hS hl
      refine lv_aload_n hx hb dX0_largestApart_39 rfl (lv_at hl 4 rfl) ?_
      refine lv_iload hx hb dX0_largestApart_40 (lv_at hl 0 rfl) ?_
      refine ck_Vi (As := [.int (nI k)]) (rest := []) (wr := []) C0 hP hD hS (c_X0_areApart l N a fl t wi d f nr tr n di fo ne3 kd ht dr k (fun f => bitsOf (fun g => fNear tr fo kd ht dr f g mi) f) (by omega) (by omega) hb2) myX0_areApart k2_239 ⟨Nat.le_of_ble_eq_true rfl, Nat.le_of_ble_eq_true rfl⟩ [0, 1, 2, 3, 4, 5, 6] [] ⟨⟨rfl, rfl⟩, by decide, by decide, by decide⟩ 0 rfl rfl rfl rfl hl.1 rfl (Nat.le_of_ble_eq_true rfl) dX0_largestApart_42 ⟨Nat.le_of_ble_eq_true rfl, Nat.le_of_ble_eq_true rfl⟩ (fun r_9 u0 H locs hw0 hP hD hS => ?_)
      have hw_10 : r_9 = (b2i (ckApart (fun f => bitsOf (fun g => fNear tr fo kd ht dr f g mi) f) n k)) := hw0
      subst hw_10
      have hP : va_P N.1 vwCl [(a, .inr (0, [.ref fl, .ref wi, .ref nr])), (fl, .inr (1, [.ref t, .int (nI n)])), (t, .inl (N.2 0, 64, .inl tr)), (wi, .inr (8, [.ref d, .ref f])), (d, .inl (N.2 0, 80, .inl di)), (f, .inl (N.2 0, 80, .inl fo)), (nr, .inl (N.2 0, 8, .inl ne3))] H := hP
      have hD : va_D Ag [(a, .inr (0, [.ref fl, .ref wi, .ref nr])), (fl, .inr (1, [.ref t, .int (nI n)])), (t, .inl (N.2 0, 64, .inl tr)), (wi, .inr (8, [.ref d, .ref f])), (d, .inl (N.2 0, 80, .inl di)), (f, .inl (N.2 0, 80, .inl fo)), (nr, .inl (N.2 0, 8, .inl ne3))] := hD
      refine ck_ifeq (b := ckApart (fun f => bitsOf (fun g => fNear tr fo kd ht dr f g mi) f) n k) (tgt := 58) hx hb dX0_largestApart_45 (by decide) (fun cz_11 => ?_) (fun cz_11 => ?_)
      · refine lv_iinc (v := (nI (k + 1))) (lv' := [(5, .int (nI (k + 1))), (4, .int (nI (pop fd))), (3, .int (nI fd)), (2, .int (nI b)), (0, .ref a), (1, .int (nI mi))]) hx hb dX0_largestApart_58 hl (k := 0) rfl (nI_1 _) (by decide) rfl (fun ls hl => ?_)
        refine lv_goto (tgt := 14) hx hb dX0_largestApart_61 (by decide) ?_
        exact ih_14 _ (by omega) (k + 1) fd rfl (by omega) (ckBest_n hk.1 hfd (fun q => absurd (cz_11.symm.trans q.2.2) (by decide))) _ _ ls hP hD hS hl
      refine lv_iload hx hb dX0_largestApart_48 (lv_at hl 0 rfl) ?_
      refine lv_istore_n (lv' := [(3, .int (nI k)), (5, .int (nI k)), (4, .int (nI (pop fd))), (2, .int (nI b)), (0, .ref a), (1, .int (nI mi))]) hx hb dX0_largestApart_50 rfl hl (by decide) rfl (fun ls hl => ?_)
      refine lv_iload hx hb dX0_largestApart_51 (lv_at hl 1 rfl) ?_
      refine ck_Si (As := [.int (nI k)]) (rest := []) (wr := [(a, .inr (0, [.ref fl, .ref wi, .ref nr])), (fl, .inr (1, [.ref t, .int (nI n)])), (t, .inl (N.2 0, 64, .inl tr)), (wi, .inr (8, [.ref d, .ref f])), (d, .inl (N.2 0, 80, .inl di)), (f, .inl (N.2 0, 80, .inl fo)), (nr, .inl (N.2 0, 8, .inl ne3))]) C0 hP hD hS (c_J6_bitCount_0f7a4 l N (nI k) ) myJ6_bitCount_0f7a4 k2_233 ⟨Nat.le_of_ble_eq_true rfl, Nat.le_of_ble_eq_true rfl⟩ [] [0, 1, 2, 3, 4, 5, 6] ⟨⟨rfl, rfl⟩, by decide, by decide, by decide⟩ rfl hl.1 rfl (Nat.le_of_ble_eq_true rfl) dX0_largestApart_53 ⟨Nat.le_of_ble_eq_true rfl, Nat.le_of_ble_eq_true rfl⟩ (fun r_12 u0 H locs hw0 hP hD hS => ?_)
      have hw_13 : r_12 = (ckBC (nI k)) := hw0
      subst hw_13
      have hP : va_P N.1 vwCl [(a, .inr (0, [.ref fl, .ref wi, .ref nr])), (fl, .inr (1, [.ref t, .int (nI n)])), (t, .inl (N.2 0, 64, .inl tr)), (wi, .inr (8, [.ref d, .ref f])), (d, .inl (N.2 0, 80, .inl di)), (f, .inl (N.2 0, 80, .inl fo)), (nr, .inl (N.2 0, 8, .inl ne3))] H := hP
      have hD : va_D Ag [(a, .inr (0, [.ref fl, .ref wi, .ref nr])), (fl, .inr (1, [.ref t, .int (nI n)])), (t, .inl (N.2 0, 64, .inl tr)), (wi, .inr (8, [.ref d, .ref f])), (d, .inl (N.2 0, 80, .inl di)), (f, .inl (N.2 0, 80, .inl fo)), (nr, .inl (N.2 0, 8, .inl ne3))] := hD
      refine ck_top (y := (nI (pop k))) (ck_bc k (by omega)) ?_
      refine lv_istore (lv' := [(4, .int (nI (pop k))), (3, .int (nI k)), (5, .int (nI k)), (2, .int (nI b)), (0, .ref a), (1, .int (nI mi))]) hx hb dX0_largestApart_56 hl (by decide) rfl (fun ls hl => ?_)
      refine lv_iinc (v := (nI (k + 1))) (lv' := [(5, .int (nI (k + 1))), (4, .int (nI (pop k))), (3, .int (nI k)), (2, .int (nI b)), (0, .ref a), (1, .int (nI mi))]) hx hb dX0_largestApart_58 hl (k := 2) rfl (nI_1 _) (by decide) rfl (fun ls hl => ?_)
      refine lv_goto (tgt := 14) hx hb dX0_largestApart_61 (by decide) ?_
      exact ih_14 _ (by omega) (k + 1) k rfl (by omega) (ckBest_y hk.1 hfd cz_5 cz_8 cz_11) _ _ ls hP hD hS hl
  exact lp_14 _ 1 0 rfl (by omega) rfl _ _ ls hP hD hS hl

