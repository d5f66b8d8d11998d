def feF (n : Nat) (w : Nat → List Nat) (x : Int32) : Int32 := if x < -1 then -100001 else match ckFew n w with
  | none => -100006
  | some l => if nI l.length ≤ x then -100006 else 0
def feR (n : Nat) (w : Nat → List Nat) (x : Int32) : Int32 := match ckFew n w with
  | none => 0
  | some l => if x < 0 then nI l.length else nI (l.getD (ix x) 0)
theorem ckFew_len {n : Nat} {w : Nat → List Nat} {l : List Nat} (h : ckFew n w = some l) : l.length ≤ 3 := by
  rw [ckFew] at h
  split at h
  · next h0 => cases h; have := ckPrn_len h0; omega
  · split at h
    · next h0 => cases h; have := ckPrn_len h0; omega
    · split at h
      · next h0 => cases h; have := ckPrn_len h0; omega
      · have := ckPrn_len h; omega
def folK (nu : Nat → Int32) : Nat → Option (Nat → List Nat)
  | 0 => some first0
  | k + 1 => match folK nu k with
    | none => none
    | some w => if ckOk w (ix (nu k) / 2) (decide (ix (nu k) % 2 = 0)) then some (ckStep w (ix (nu k) / 2) (decide (ix (nu k) % 2 = 0))) else none
theorem folK_none {nu : Nat → Int32} {k : Nat} (h : folK nu k = none) : ∀ {c : Nat}, k ≤ c → folK nu c = none := by
  intro c hc
  induction c with
  | zero => rw [Nat.le_zero.mp hc] at h; exact h
  | succ c ih =>
    by_cases hk : k = c + 1
    · rw [← hk]; exact h
    · rw [folK, ih (by omega)]
theorem ckIn_in {j a b : Nat} (h1 : a ≤ j) (h2 : j ≤ b) (hb : b < 2 ^ 31) : ckIn (nI j) (nI a) (nI b) = true := (ckIn_n (by omega) hb).mpr ⟨j, h1, h2, rfl⟩
theorem within_ix {nu : Nat → Int32} {c M : Nat} (hM : M < 2 ^ 31) (h : ckWithin nu c M = true) : ∀ k, k < c → nu k = nI (ix (nu k)) ∧ ix (nu k) ≤ M := by
  intro k hk
  obtain ⟨j, -, h2, h3⟩ := (ckIn_n (by decide) hM).mp (of_decide_eq_true h k hk)
  rw [h3, ix_nI (by omega)]
  exact ⟨rfl, h2⟩
def saO (b1 b2 c1 c2 : Nat) (nu1 nu2 : Nat → Int32) (n : Nat) : Int32 := if b1 = 0 ∨ b2 = 0 then -100002 else if (ckWithin nu1 c1 (2 * (n - 1) - 1) && ckWithin nu2 c2 (2 * (n - 1) - 1)) = true then (if ((folK nu1 c1).isSome && (folK nu2 c2).isSome) = true then 0 else -100005) else -100001
def saF (b1 b2 c1 c2 : Nat) (nu1 nu2 : Nat → Int32) (x : Int32) : Int32 := if ckIn x (nI 2) (nI 5) = true then saO b1 b2 c1 c2 nu1 nu2 (ix x) else -100001
def saW (o1 o2 : Option (Nat → List Nat)) (n : Nat) : Int32 := match o1, o2 with
  | some u, some v => b2i (decide (∀ q, q < n → u q = v q))
  | _, _ => 0
def saR (c1 c2 : Nat) (nu1 nu2 : Nat → Int32) (x : Int32) : Int32 := saW (folK nu1 c1) (folK nu2 c2) (ix x)
def shF (y z : Int32) : Int32 := if y = 0 ∨ y = nI 8 ∨ y = nI 16 ∨ y = nI 32 then (if z < 0 then -100003 else if z ≤ nI 40 then 0 else -100001) else -100001
def shC (y z : Int32) : Nat := if y = 0 then 0 else ix z
theorem shC_eq {y : Int32} {z0 : Nat} (hy : y = 0 ∨ y = nI 8 ∨ y = nI 16 ∨ y = nI 32) (hz : z0 < 2 ^ 31) : (if ix y = 0 then 0 else z0) = shC y (nI z0) := by
  rw [shC, ix_nI hz]
  rcases hy with rfl | rfl | rfl | rfl <;> rfl
def puF (b c : Nat) (y : Int32) : Int32 := if b = 0 then -100002 else if ckLt y c = true then 0 else -100001
def coO (c : Nat) (x y : Int32) : Bool := decide (0 ≤ x.toInt ∧ 0 ≤ y.toInt ∧ x.toInt + y.toInt ≤ (c : Int))
def coF (b1 b2 c1 c2 : Nat) (x y z : Int32) : Int32 := if b1 = 0 ∨ b2 = 0 then -100002 else if b1 = b2 then (if (coO c1 x z && coO c2 y z) = true then 0 else -100001) else -100004
theorem coO_t {c : Nat} {x y : Int32} (h : coO c x y = true) (hc : c < 2 ^ 31) : ∃ i k : Nat, x = nI i ∧ y = nI k ∧ i + k ≤ c := by
  obtain ⟨h1, h2, h3⟩ := of_decide_eq_true h
  have e0 : (0 : Int32).toInt = 0 := (by decide)
  obtain ⟨i, hi, rfl⟩ := nI_of (x := x) (by rw [i_lt, e0]; omega)
  obtain ⟨k, hk, rfl⟩ := nI_of (x := y) (by rw [i_lt, e0]; omega)
  rw [nI_toInt hi, nI_toInt hk] at h3
  exact ⟨i, k, rfl, rfl, by omega⟩
set_option maxHeartbeats 4000000 in
set_option maxRecDepth 100000 in
/-- X10_fewest -/
theorem c_X10_fewest (l : Launch) (N : ckN) (km : Nat) (sa : Nat) (hs : Nat) (shs : Nat) (ja : Nat) (uu : Nat) (tb : Nat) (ob : Nat) (fd : Int32) (a : Nat) (ra : Nat) (b : Nat) (lw : Nat) (gw : Nat) (sd : Nat) (tw : Nat) (sh : Nat) (wo : Nat) (lf : Nat → Int32) (gf : Nat → Int32) (n : Nat) (wk : Int32) (tl : Nat) (tg : Nat) (tlf : Nat → Int32) (tgf : Nat → Int32) (tn : Nat) (jj : Nat) (jl : Nat → Int32) (jn : Int32) (wu : Nat) (wf : Nat → Int32) (w : Nat → List Nat) (x : Int32) (hw : ckWd lf gf n w) (hgd : ckGood n w) (hn2 : 2 ≤ n) (hn : n ≤ 5) : ckI l yX10_fewest cX10_fewest 3 (some FieldType.int) { frames := 11, cells := 0, slots := 0, locals := 274 } N [.ref km, .int x] [(km, .inr (10, [.ref sa, .ref hs, .ref shs, .ref ja, .ref uu, .ref tb, .ref ob, .int fd])), (sa, .inr (6, [.ref a, .ref ra])), (ra, .inr (4, [.ref b, .ref sd, .ref tw, .ref sh, .ref wo, .int (nI n), .int wk])), (b, .inr (9, [.ref lw, .ref gw, .int (nI n)])), (lw, .inl (N.2 0, 5, .inl lf)), (gw, .inl (N.2 0, 300, .inl gf)), (tb, .inr (9, [.ref tl, .ref tg, .int (nI tn)])), (tl, .inl (N.2 0, 5, .inl tlf)), (tg, .inl (N.2 0, 300, .inl tgf)), (ja, .inr (3, [.ref jj, .int jn])), (jj, .inl (N.2 0, 180, .inl jl)), (uu, .inr (7, [.ref wu])), (wu, .inl (N.2 0, 3, .inl wf))] (fun (r : Int32) (u : Int32 × (Nat → Int32) × (Nat → Int32) × Nat × (Nat → Int32) × Int32 × (Nat → Int32)) => ckRd (feF n w x) (feR n w x) fd r u.1) (fun (u : Int32 × (Nat → Int32) × (Nat → Int32) × Nat × (Nat → Int32) × Int32 × (Nat → Int32)) => [(km, .inr (10, [.ref sa, .ref hs, .ref shs, .ref ja, .ref uu, .ref tb, .ref ob, .int u.1])), (sa, .inr (6, [.ref a, .ref ra])), (ra, .inr (4, [.ref b, .ref sd, .ref tw, .ref sh, .ref wo, .int (nI n), .int wk])), (b, .inr (9, [.ref lw, .ref gw, .int (nI n)])), (lw, .inl (N.2 0, 5, .inl lf)), (gw, .inl (N.2 0, 300, .inl gf)), (tb, .inr (9, [.ref tl, .ref tg, .int (nI u.2.2.2.1)])), (tl, .inl (N.2 0, 5, .inl u.2.1)), (tg, .inl (N.2 0, 300, .inl u.2.2.1)), (ja, .inr (3, [.ref jj, .int u.2.2.2.2.2.1])), (jj, .inl (N.2 0, 180, .inl u.2.2.2.2.1)), (uu, .inr (7, [.ref wu])), (wu, .inl (N.2 0, 3, .inl u.2.2.2.2.2.2))]) := by
  refine ckI.of (by decide) (Nat.le_of_ble_eq_true rfl) ?_
  intro pg eg sg mg blw mth cg Ag ls hx hb hrt hml hown hlk hin hg hE hA hP hD hS hl
  have hown : sg.vm.findClass RX10 = some mg.cls := hown
  have hl : lv_has ls 3 [(0, .ref km), (1, .int x)] := hl
  have C0 : ckC pg sg mg ([.ref km, .int x]).toArray cg cX10_fewest 3 RX10 N Ag := ⟨⟨hx, hb, hml, hown, hg⟩, hE, hA⟩
  generalize hHe : sg.heap = H at hP
  have hS : va_S Ag sg.heap H [] := hHe ▸ hS
  refine lv_iload_n hx hb dX10_fewest_0 rfl (lv_at hl 1 rfl) ?_
  refine lv_iconst (v := (-1)) hx hb dX10_fewest_1 (by decide) ?_
  refine lv_icmp_ge (tgt := 12) hx hb dX10_fewest_2 (by decide) (fun cz_1 => ?_) (fun cz_1 => ?_)
  · refine lv_aload_n hx hb dX10_fewest_12 rfl (lv_at hl 0 rfl) ?_
    refine va_get (ci := 10) (v := .ref tb) (C := RX10) (T := TX10) (N := 8) hx hb hg inX10 hown hE.1 hP 0 rfl rfl 5 (by decide) (hg _ k1_221) (fun _ h9 => h9) rfl dX10_fewest_13 ?_
    refine lv_aload_n hx hb dX10_fewest_16 rfl (lv_at hl 0 rfl) ?_
    refine va_get (ci := 10) (v := .ref sa) (C := RX10) (T := TX10) (N := 8) hx hb hg inX10 hown hE.1 hP 0 rfl rfl 0 (by decide) (hg _ k1_216) (fun _ h9 => h9) rfl dX10_fewest_17 ?_
    refine va_getN (ci := 6) (v := .ref ra) (C := RX6) (T := TX6) (N := 2) (host := "KiteMeet") hx hb hg inX6 hown hE.1 hP 1 rfl rfl 1 (by decide) (hE.nf 16 rfl _) (fun _ h9 => h9) rfl dX10_fewest_20 ?_
    refine va_getN (ci := 4) (v := .ref b) (C := RX4) (T := TX4) (N := 7) (host := "KiteMeet") hx hb hg inX4 hown hE.1 hP 2 rfl rfl 0 (by decide) (hE.nf 9 rfl _) (fun _ h9 => h9) rfl dX10_fewest_23 ?_
    refine ck_Vv (As := [.ref b]) (rest := []) (wr := [(km, .inr (10, [.ref sa, .ref hs, .ref shs, .ref ja, .ref uu, .ref tb, .ref ob, .int fd])), (sa, .inr (6, [.ref a, .ref ra])), (ra, .inr (4, [.ref b, .ref sd, .ref tw, .ref sh, .ref wo, .int (nI n), .int wk])), (ja, .inr (3, [.ref jj, .int jn])), (jj, .inl (N.2 0, 180, .inl jl)), (uu, .inr (7, [.ref wu])), (wu, .inl (N.2 0, 3, .inl wf))]) C0 hP hD hS (c_X9_takeFrom l N tb tl tg tlf tgf tn b lw gw lf gf n w hw (by omega)) myX9_takeFrom k3_109 ⟨Nat.le_of_ble_eq_true rfl, Nat.le_of_ble_eq_true rfl⟩ [6, 7, 8, 3, 4, 5] [0, 1, 2, 9, 10, 11, 12] ⟨⟨rfl, rfl⟩, by decide, by decide, by decide⟩ 6 rfl rfl rfl rfl hl.1 rfl (Nat.le_of_ble_eq_true rfl) dX10_fewest_26 ⟨Nat.le_of_ble_eq_true rfl, Nat.le_of_ble_eq_true rfl⟩ (fun u0 H locs hw0 hP hD hS => ?_)
    obtain ⟨lf3_3, gf3_4⟩ := u0
    have hw_5 : ckWd lf3_3 gf3_4 n w := hw0
    have hP : va_P N.1 vwCl [(km, .inr (10, [.ref sa, .ref hs, .ref shs, .ref ja, .ref uu, .ref tb, .ref ob, .int fd])), (sa, .inr (6, [.ref a, .ref ra])), (ra, .inr (4, [.ref b, .ref sd, .ref tw, .ref sh, .ref wo, .int (nI n), .int wk])), (ja, .inr (3, [.ref jj, .int jn])), (jj, .inl (N.2 0, 180, .inl jl)), (uu, .inr (7, [.ref wu])), (wu, .inl (N.2 0, 3, .inl wf)), (tb, .inr (9, [.ref tl, .ref tg, .int (nI n)])), (tl, .inl (N.2 0, 5, .inl lf3_3)), (tg, .inl (N.2 0, 300, .inl gf3_4)), (b, .inr (9, [.ref lw, .ref gw, .int (nI n)])), (lw, .inl (N.2 0, 5, .inl lf)), (gw, .inl (N.2 0, 300, .inl gf))] H := hP
    have hD : va_D Ag [(km, .inr (10, [.ref sa, .ref hs, .ref shs, .ref ja, .ref uu, .ref tb, .ref ob, .int fd])), (sa, .inr (6, [.ref a, .ref ra])), (ra, .inr (4, [.ref b, .ref sd, .ref tw, .ref sh, .ref wo, .int (nI n), .int wk])), (ja, .inr (3, [.ref jj, .int jn])), (jj, .inl (N.2 0, 180, .inl jl)), (uu, .inr (7, [.ref wu])), (wu, .inl (N.2 0, 3, .inl wf)), (tb, .inr (9, [.ref tl, .ref tg, .int (nI n)])), (tl, .inl (N.2 0, 5, .inl lf3_3)), (tg, .inl (N.2 0, 300, .inl gf3_4)), (b, .inr (9, [.ref lw, .ref gw, .int (nI n)])), (lw, .inl (N.2 0, 5, .inl lf)), (gw, .inl (N.2 0, 300, .inl gf))] := hD
    have htw := hw_5
    refine lv_aload_n hx hb dX10_fewest_29 rfl (lv_at hl 0 rfl) ?_
    refine va_get (ci := 10) (v := .ref uu) (C := RX10) (T := TX10) (N := 8) hx hb hg inX10 hown hE.1 hP 0 rfl rfl 4 (by decide) (hg _ k1_220) (fun _ h9 => h9) rfl dX10_fewest_30 ?_
    refine lv_aload_n hx hb dX10_fewest_33 rfl (lv_at hl 0 rfl) ?_
    refine va_get (ci := 10) (v := .ref tb) (C := RX10) (T := TX10) (N := 8) hx hb hg inX10 hown hE.1 hP 0 rfl rfl 5 (by decide) (hg _ k1_221) (fun _ h9 => h9) rfl dX10_fewest_34 ?_
    refine lv_aload_n hx hb dX10_fewest_37 rfl (lv_at hl 0 rfl) ?_
    refine va_get (ci := 10) (v := .ref ja) (C := RX10) (T := TX10) (N := 8) hx hb hg inX10 hown hE.1 hP 0 rfl rfl 3 (by decide) (hg _ k1_219) (fun _ h9 => h9) rfl dX10_fewest_38 ?_
    refine ck_Vi (As := [.ref tb, .ref ja]) (rest := []) (wr := [(km, .inr (10, [.ref sa, .ref hs, .ref shs, .ref ja, .ref uu, .ref tb, .ref ob, .int fd])), (sa, .inr (6, [.ref a, .ref ra])), (ra, .inr (4, [.ref b, .ref sd, .ref tw, .ref sh, .ref wo, .int (nI n), .int wk])), (b, .inr (9, [.ref lw, .ref gw, .int (nI n)])), (lw, .inl (N.2 0, 5, .inl lf)), (gw, .inl (N.2 0, 300, .inl gf))]) C0 hP hD hS (c_X7_shortest l N uu wu wf tb tl tg lf3_3 gf3_4 n ja jj jl jn w htw hgd (by omega) (by omega)) myX7_shortest k3_110 ⟨Nat.le_of_ble_eq_true rfl, Nat.le_of_ble_eq_true rfl⟩ [5, 6, 7, 8, 9, 3, 4] [0, 1, 2, 10, 11, 12] ⟨⟨rfl, rfl⟩, by decide, by decide, by decide⟩ 5 rfl rfl rfl rfl hl.1 rfl (Nat.le_of_ble_eq_true rfl) dX10_fewest_41 ⟨Nat.le_of_ble_eq_true rfl, Nat.le_of_ble_eq_true rfl⟩ (fun r_6 u0 H locs hw0 hP hD hS => ?_)
    obtain ⟨wf_a, lf2_7, gf2_8, jl2_9, jn2_10⟩ := u0
    have hw_11 : (r_6 = (ckFewN n w)) ∧ (ckWd lf2_7 gf2_8 n w ∧ ∀ l, ckFew n w = some l → ∀ i, i < l.length → wf_a i = nI (l.getD i 0)) := hw0
    obtain ⟨hv_12, hw_11⟩ := hw_11
    subst hv_12
    have hP : va_P N.1 vwCl [(km, .inr (10, [.ref sa, .ref hs, .ref shs, .ref ja, .ref uu, .ref tb, .ref ob, .int fd])), (sa, .inr (6, [.ref a, .ref ra])), (ra, .inr (4, [.ref b, .ref sd, .ref tw, .ref sh, .ref wo, .int (nI n), .int wk])), (b, .inr (9, [.ref lw, .ref gw, .int (nI n)])), (lw, .inl (N.2 0, 5, .inl lf)), (gw, .inl (N.2 0, 300, .inl gf)), (uu, .inr (7, [.ref wu])), (wu, .inl (N.2 0, 3, .inl wf_a)), (tb, .inr (9, [.ref tl, .ref tg, .int (nI n)])), (tl, .inl (N.2 0, 5, .inl lf2_7)), (tg, .inl (N.2 0, 300, .inl gf2_8)), (ja, .inr (3, [.ref jj, .int jn2_10])), (jj, .inl (N.2 0, 180, .inl jl2_9))] H := hP
    have hD : va_D Ag [(km, .inr (10, [.ref sa, .ref hs, .ref shs, .ref ja, .ref uu, .ref tb, .ref ob, .int fd])), (sa, .inr (6, [.ref a, .ref ra])), (ra, .inr (4, [.ref b, .ref sd, .ref tw, .ref sh, .ref wo, .int (nI n), .int wk])), (b, .inr (9, [.ref lw, .ref gw, .int (nI n)])), (lw, .inl (N.2 0, 5, .inl lf)), (gw, .inl (N.2 0, 300, .inl gf)), (uu, .inr (7, [.ref wu])), (wu, .inl (N.2 0, 3, .inl wf_a)), (tb, .inr (9, [.ref tl, .ref tg, .int (nI n)])), (tl, .inl (N.2 0, 5, .inl lf2_7)), (tg, .inl (N.2 0, 300, .inl gf2_8)), (ja, .inr (3, [.ref jj, .int jn2_10])), (jj, .inl (N.2 0, 180, .inl jl2_9))] := hD
    obtain ⟨-, hwl⟩ := hw_11
    rcases hfe : ckFew n w with _ | l1
    · have hfn : ckFewN n w = -1 := by rw [ckFewN, hfe]
      refine ck_top (y := (-1)) hfn ?_
      refine lv_istore_n (lv' := [(2, .int (-1)), (0, .ref km), (1, .int x)]) hx hb dX10_fewest_44 rfl hl (by decide) rfl (fun ls hl => ?_)
      refine lv_iload_n hx hb dX10_fewest_45 rfl (lv_at hl 0 rfl) ?_
      refine lv_if_lt (tgt := 54) hx hb dX10_fewest_46 (by decide) (fun cz_13 => ?_) (fun cz_13 => absurd cz_13 (by decide))
      refine lv_aload_n hx hb dX10_fewest_54 rfl (lv_at hl 1 rfl) ?_
      refine lv_ldc (own := RX10) (v := (-100006)) hx hb hown (hg _ k2_182) dX10_fewest_55 ?_
      refine ck_Vi (As := [.int (-100006)]) (rest := []) (wr := [(sa, .inr (6, [.ref a, .ref ra])), (ra, .inr (4, [.ref b, .ref sd, .ref tw, .ref sh, .ref wo, .int (nI n), .int wk])), (b, .inr (9, [.ref lw, .ref gw, .int (nI n)])), (lw, .inl (N.2 0, 5, .inl lf)), (gw, .inl (N.2 0, 300, .inl gf)), (uu, .inr (7, [.ref wu])), (wu, .inl (N.2 0, 3, .inl wf_a)), (tb, .inr (9, [.ref tl, .ref tg, .int (nI n)])), (tl, .inl (N.2 0, 5, .inl lf2_7)), (tg, .inl (N.2 0, 300, .inl gf2_8)), (ja, .inr (3, [.ref jj, .int jn2_10])), (jj, .inl (N.2 0, 180, .inl jl2_9))]) C0 hP hD hS (c_X10_finding l N km sa hs shs ja uu tb ob fd (-100006) ) myX10_finding k2_15 ⟨Nat.le_of_ble_eq_true rfl, Nat.le_of_ble_eq_true rfl⟩ [0] [1, 2, 3, 4, 5, 6, 7, 8, 9, 10, 11, 12] ⟨⟨rfl, rfl⟩, by decide, by decide, by decide⟩ 0 rfl rfl rfl rfl hl.1 rfl (Nat.le_of_ble_eq_true rfl) dX10_fewest_57 ⟨Nat.le_of_ble_eq_true rfl, Nat.le_of_ble_eq_true rfl⟩ (fun r_14 u0 H locs hw0 hP hD hS => ?_)
      have hw_15 : r_14 = (-100006) := hw0
      subst hw_15
      have hP : va_P N.1 vwCl [(sa, .inr (6, [.ref a, .ref ra])), (ra, .inr (4, [.ref b, .ref sd, .ref tw, .ref sh, .ref wo, .int (nI n), .int wk])), (b, .inr (9, [.ref lw, .ref gw, .int (nI n)])), (lw, .inl (N.2 0, 5, .inl lf)), (gw, .inl (N.2 0, 300, .inl gf)), (uu, .inr (7, [.ref wu])), (wu, .inl (N.2 0, 3, .inl wf_a)), (tb, .inr (9, [.ref tl, .ref tg, .int (nI n)])), (tl, .inl (N.2 0, 5, .inl lf2_7)), (tg, .inl (N.2 0, 300, .inl gf2_8)), (ja, .inr (3, [.ref jj, .int jn2_10])), (jj, .inl (N.2 0, 180, .inl jl2_9)), (km, .inr (10, [.ref sa, .ref hs, .ref shs, .ref ja, .ref uu, .ref tb, .ref ob, .int (fd + nI 1)]))] H := hP
      have hD : va_D Ag [(sa, .inr (6, [.ref a, .ref ra])), (ra, .inr (4, [.ref b, .ref sd, .ref tw, .ref sh, .ref wo, .int (nI n), .int wk])), (b, .inr (9, [.ref lw, .ref gw, .int (nI n)])), (lw, .inl (N.2 0, 5, .inl lf)), (gw, .inl (N.2 0, 300, .inl gf)), (uu, .inr (7, [.ref wu])), (wu, .inl (N.2 0, 3, .inl wf_a)), (tb, .inr (9, [.ref tl, .ref tg, .int (nI n)])), (tl, .inl (N.2 0, 5, .inl lf2_7)), (tg, .inl (N.2 0, 300, .inl gf2_8)), (ja, .inr (3, [.ref jj, .int jn2_10])), (jj, .inl (N.2 0, 180, .inl jl2_9)), (km, .inr (10, [.ref sa, .ref hs, .ref shs, .ref ja, .ref uu, .ref tb, .ref ob, .int (fd + nI 1)]))] := hD
      exact ck_iret hx hb hrt hlk ⟨(fd + nI 1), lf2_7, gf2_8, n, jl2_9, jn2_10, wf_a⟩ (ckRd_f (by rw [feF, if_neg (by have z := cz_1; rw [i_le] at z; rw [i_lt]; omega), hfe]) (by decide)) (hP.sub [12, 0, 1, 2, 3, 4, 7, 8, 9, 10, 11, 5, 6] rfl) (hD.sub [12, 0, 1, 2, 3, 4, 7, 8, 9, 10, 11, 5, 6] (by decide) rfl) hS ⟨Nat.le_of_ble_eq_true rfl, Nat.le_of_ble_eq_true rfl⟩ dX10_fewest_60
    · have hfn : ckFewN n w = nI l1.length := by rw [ckFewN, hfe]
      have hl3 := ckFew_len hfe
      refine ck_top (y := (nI l1.length)) hfn ?_
      refine lv_istore_n (lv' := [(2, .int (nI l1.length)), (0, .ref km), (1, .int x)]) hx hb dX10_fewest_44 rfl hl (by decide) rfl (fun ls hl => ?_)
      refine lv_iload_n hx hb dX10_fewest_45 rfl (lv_at hl 0 rfl) ?_
      refine lv_if_lt (tgt := 54) hx hb dX10_fewest_46 (by decide) (fun cz_16 => absurd cz_16 (nI_pos (by omega))) (fun cz_16 => ?_)
      refine lv_iload_n hx hb dX10_fewest_49 rfl (lv_at hl 2 rfl) ?_
      refine lv_iload_n hx hb dX10_fewest_50 rfl (lv_at hl 0 rfl) ?_
      refine lv_icmp_lt (tgt := 61) hx hb dX10_fewest_51 (by decide) (fun cz_17 => ?_) (fun cz_17 => ?_)
      · have hlt := cz_17
        refine lv_iload_n hx hb dX10_fewest_61 rfl (lv_at hl 2 rfl) ?_
        refine lv_if_ge (tgt := 69) hx hb dX10_fewest_62 (by decide) (fun cz_18 => ?_) (fun cz_18 => ?_)
        · obtain ⟨k1, hk1, rfl⟩ := nI_of (x := x) (by have z := cz_18; rw [i_le] at z; rw [i_lt]; omega)
          have hk2 : k1 < l1.length := (nI_ltI hk1 (by omega)).mp hlt
          refine lv_aload_n hx hb dX10_fewest_69 rfl (lv_at hl 1 rfl) ?_
          refine va_get (ci := 10) (v := .ref uu) (C := RX10) (T := TX10) (N := 8) hx hb hg inX10 hown hE.1 hP 0 rfl rfl 4 (by decide) (hg _ k1_220) (fun _ h9 => h9) rfl dX10_fewest_70 ?_
          refine va_getN (ci := 7) (v := .ref wu) (C := RX7) (T := TX7) (N := 1) (host := "KiteMeet") hx hb hg inX7 hown hE.1 hP 6 rfl rfl 0 (by decide) (hE.nf 20 rfl _) (fun _ h9 => h9) rfl dX10_fewest_73 ?_
          refine lv_iload_n hx hb dX10_fewest_76 rfl (lv_at hl 2 rfl) ?_
          refine ck_iald hx hb hE hP 7 rfl (by omega) (by decide) dX10_fewest_77 ?_
          refine ck_top (y := (nI (l1.getD k1 0))) (hwl l1 hfe k1 hk2) ?_
          exact ck_iret hx hb hrt hlk ⟨fd, lf2_7, gf2_8, n, jl2_9, jn2_10, wf_a⟩ (ckRd_ok (by rw [feF, if_neg (by have z := cz_1; rw [i_le] at z; rw [i_lt]; omega), hfe]; exact if_neg (by have z := hlt; rw [i_lt] at z; rw [i_le]; omega)) (by rw [feR, hfe]; show _ = if nI k1 < 0 then _ else _; rw [if_neg (nI_pos (by omega)), ix_nI (by omega)])) (hP.sub [0, 1, 2, 3, 4, 5, 8, 9, 10, 11, 12, 6, 7] rfl) (hD.sub [0, 1, 2, 3, 4, 5, 8, 9, 10, 11, 12, 6, 7] (by decide) rfl) hS ⟨Nat.le_of_ble_eq_true rfl, Nat.le_of_ble_eq_true rfl⟩ dX10_fewest_78
        refine lv_iload_n hx hb dX10_fewest_65 rfl (lv_at hl 0 rfl) ?_
        refine lv_goto (tgt := 78) hx hb dX10_fewest_66 (by decide) ?_
        exact ck_iret hx hb hrt hlk ⟨fd, lf2_7, gf2_8, n, jl2_9, jn2_10, wf_a⟩ (ckRd_ok (by rw [feF, if_neg (by have z := cz_1; rw [i_le] at z; rw [i_lt]; omega), hfe]; exact if_neg (by have z := hlt; rw [i_lt] at z; rw [i_le]; omega)) (by rw [feR, hfe]; exact (if_pos (by have z := cz_18; rw [i_le] at z; rw [i_lt]; omega)).symm)) (hP.sub [0, 1, 2, 3, 4, 5, 8, 9, 10, 11, 12, 6, 7] rfl) (hD.sub [0, 1, 2, 3, 4, 5, 8, 9, 10, 11, 12, 6, 7] (by decide) rfl) hS ⟨Nat.le_of_ble_eq_true rfl, Nat.le_of_ble_eq_true rfl⟩ dX10_fewest_78
      refine lv_aload_n hx hb dX10_fewest_54 rfl (lv_at hl 1 rfl) ?_
      refine lv_ldc (own := RX10) (v := (-100006)) hx hb hown (hg _ k2_182) dX10_fewest_55 ?_
      refine ck_Vi (As := [.int (-100006)]) (rest := []) (wr := [(sa, .inr (6, [.ref a, .ref ra])), (ra, .inr (4, [.ref b, .ref sd, .ref tw, .ref sh, .ref wo, .int (nI n), .int wk])), (b, .inr (9, [.ref lw, .ref gw, .int (nI n)])), (lw, .inl (N.2 0, 5, .inl lf)), (gw, .inl (N.2 0, 300, .inl gf)), (uu, .inr (7, [.ref wu])), (wu, .inl (N.2 0, 3, .inl wf_a)), (tb, .inr (9, [.ref tl, .ref tg, .int (nI n)])), (tl, .inl (N.2 0, 5, .inl lf2_7)), (tg, .inl (N.2 0, 300, .inl gf2_8)), (ja, .inr (3, [.ref jj, .int jn2_10])), (jj, .inl (N.2 0, 180, .inl jl2_9))]) C0 hP hD hS (c_X10_finding l N km sa hs shs ja uu tb ob fd (-100006) ) myX10_finding k2_15 ⟨Nat.le_of_ble_eq_true rfl, Nat.le_of_ble_eq_true rfl⟩ [0] [1, 2, 3, 4, 5, 6, 7, 8, 9, 10, 11, 12] ⟨⟨rfl, rfl⟩, by decide, by decide, by decide⟩ 0 rfl rfl rfl rfl hl.1 rfl (Nat.le_of_ble_eq_true rfl) dX10_fewest_57 ⟨Nat.le_of_ble_eq_true rfl, Nat.le_of_ble_eq_true rfl⟩ (fun r_19 u0 H locs hw0 hP hD hS => ?_)
      have hw_20 : r_19 = (-100006) := hw0
      subst hw_20
      have hP : va_P N.1 vwCl [(sa, .inr (6, [.ref a, .ref ra])), (ra, .inr (4, [.ref b, .ref sd, .ref tw, .ref sh, .ref wo, .int (nI n), .int wk])), (b, .inr (9, [.ref lw, .ref gw, .int (nI n)])), (lw, .inl (N.2 0, 5, .inl lf)), (gw, .inl (N.2 0, 300, .inl gf)), (uu, .inr (7, [.ref wu])), (wu, .inl (N.2 0, 3, .inl wf_a)), (tb, .inr (9, [.ref tl, .ref tg, .int (nI n)])), (tl, .inl (N.2 0, 5, .inl lf2_7)), (tg, .inl (N.2 0, 300, .inl gf2_8)), (ja, .inr (3, [.ref jj, .int jn2_10])), (jj, .inl (N.2 0, 180, .inl jl2_9)), (km, .inr (10, [.ref sa, .ref hs, .ref shs, .ref ja, .ref uu, .ref tb, .ref ob, .int (fd + nI 1)]))] H := hP
      have hD : va_D Ag [(sa, .inr (6, [.ref a, .ref ra])), (ra, .inr (4, [.ref b, .ref sd, .ref tw, .ref sh, .ref wo, .int (nI n), .int wk])), (b, .inr (9, [.ref lw, .ref gw, .int (nI n)])), (lw, .inl (N.2 0, 5, .inl lf)), (gw, .inl (N.2 0, 300, .inl gf)), (uu, .inr (7, [.ref wu])), (wu, .inl (N.2 0, 3, .inl wf_a)), (tb, .inr (9, [.ref tl, .ref tg, .int (nI n)])), (tl, .inl (N.2 0, 5, .inl lf2_7)), (tg, .inl (N.2 0, 300, .inl gf2_8)), (ja, .inr (3, [.ref jj, .int jn2_10])), (jj, .inl (N.2 0, 180, .inl jl2_9)), (km, .inr (10, [.ref sa, .ref hs, .ref shs, .ref ja, .ref uu, .ref tb, .ref ob, .int (fd + nI 1)]))] := hD
      exact ck_iret hx hb hrt hlk ⟨(fd + nI 1), lf2_7, gf2_8, n, jl2_9, jn2_10, wf_a⟩ (ckRd_f (by rw [feF, if_neg (by have z := cz_1; rw [i_le] at z; rw [i_lt]; omega), hfe]; exact if_pos (by have z := cz_17; rw [i_lt] at z; rw [i_le]; omega)) (by decide)) (hP.sub [12, 0, 1, 2, 3, 4, 7, 8, 9, 10, 11, 5, 6] rfl) (hD.sub [12, 0, 1, 2, 3, 4, 7, 8, 9, 10, 11, 5, 6] (by decide) rfl) hS ⟨Nat.le_of_ble_eq_true rfl, Nat.le_of_ble_eq_true rfl⟩ dX10_fewest_60
  refine lv_aload_n hx hb dX10_fewest_5 rfl (lv_at hl 0 rfl) ?_
  refine lv_ldc (own := RX10) (v := (-100001)) hx hb hown (hg _ k2_14) dX10_fewest_6 ?_
  refine ck_Vi (As := [.int (-100001)]) (rest := []) (wr := [(sa, .inr (6, [.ref a, .ref ra])), (ra, .inr (4, [.ref b, .ref sd, .ref tw, .ref sh, .ref wo, .int (nI n), .int wk])), (b, .inr (9, [.ref lw, .ref gw, .int (nI n)])), (lw, .inl (N.2 0, 5, .inl lf)), (gw, .inl (N.2 0, 300, .inl gf)), (tb, .inr (9, [.ref tl, .ref tg, .int (nI tn)])), (tl, .inl (N.2 0, 5, .inl tlf)), (tg, .inl (N.2 0, 300, .inl tgf)), (ja, .inr (3, [.ref jj, .int jn])), (jj, .inl (N.2 0, 180, .inl jl)), (uu, .inr (7, [.ref wu])), (wu, .inl (N.2 0, 3, .inl wf))]) C0 hP hD hS (c_X10_finding l N km sa hs shs ja uu tb ob fd (-100001) ) myX10_finding k2_15 ⟨Nat.le_of_ble_eq_true rfl, Nat.le_of_ble_eq_true rfl⟩ [0] [1, 2, 3, 4, 5, 6, 7, 8, 9, 10, 11, 12] ⟨⟨rfl, rfl⟩, by decide, by decide, by decide⟩ 0 rfl rfl rfl rfl hl.1 rfl (Nat.le_of_ble_eq_true rfl) dX10_fewest_8 ⟨Nat.le_of_ble_eq_true rfl, Nat.le_of_ble_eq_true rfl⟩ (fun r_21 u0 H locs hw0 hP hD hS => ?_)
  have hw_22 : r_21 = (-100001) := hw0
  subst hw_22
  have hP : va_P N.1 vwCl [(sa, .inr (6, [.ref a, .ref ra])), (ra, .inr (4, [.ref b, .ref sd, .ref tw, .ref sh, .ref wo, .int (nI n), .int wk])), (b, .inr (9, [.ref lw, .ref gw, .int (nI n)])), (lw, .inl (N.2 0, 5, .inl lf)), (gw, .inl (N.2 0, 300, .inl gf)), (tb, .inr (9, [.ref tl, .ref tg, .int (nI tn)])), (tl, .inl (N.2 0, 5, .inl tlf)), (tg, .inl (N.2 0, 300, .inl tgf)), (ja, .inr (3, [.ref jj, .int jn])), (jj, .inl (N.2 0, 180, .inl jl)), (uu, .inr (7, [.ref wu])), (wu, .inl (N.2 0, 3, .inl wf)), (km, .inr (10, [.ref sa, .ref hs, .ref shs, .ref ja, .ref uu, .ref tb, .ref ob, .int (fd + nI 1)]))] H := hP
  have hD : va_D Ag [(sa, .inr (6, [.ref a, .ref ra])), (ra, .inr (4, [.ref b, .ref sd, .ref tw, .ref sh, .ref wo, .int (nI n), .int wk])), (b, .inr (9, [.ref lw, .ref gw, .int (nI n)])), (lw, .inl (N.2 0, 5, .inl lf)), (gw, .inl (N.2 0, 300, .inl gf)), (tb, .inr (9, [.ref tl, .ref tg, .int (nI tn)])), (tl, .inl (N.2 0, 5, .inl tlf)), (tg, .inl (N.2 0, 300, .inl tgf)), (ja, .inr (3, [.ref jj, .int jn])), (jj, .inl (N.2 0, 180, .inl jl)), (uu, .inr (7, [.ref wu])), (wu, .inl (N.2 0, 3, .inl wf)), (km, .inr (10, [.ref sa, .ref hs, .ref shs, .ref ja, .ref uu, .ref tb, .ref ob, .int (fd + nI 1)]))] := hD
  exact ck_iret hx hb hrt hlk ⟨(fd + nI 1), tlf, tgf, tn, jl, jn, wf⟩ (ckRd_f (by rw [feF, if_pos (by have z := cz_1; rw [i_le] at z; rw [i_lt]; omega)]) (by decide)) (hP.sub [12, 0, 1, 2, 3, 4, 5, 6, 7, 8, 9, 10, 11] rfl) (hD.sub [12, 0, 1, 2, 3, 4, 5, 6, 7, 8, 9, 10, 11] (by decide) rfl) hS ⟨Nat.le_of_ble_eq_true rfl, Nat.le_of_ble_eq_true rfl⟩ dX10_fewest_11
set_option maxHeartbeats 4000000 in
set_option maxRecDepth 100000 in
/-- X10_follow -/
theorem c_X10_follow (l : Launch) (N : ckN) (km : Nat) (sa : Nat) (hs : Nat) (shs : Nat) (ja : Nat) (uu : Nat) (tb : Nat) (ob : Nat) (fd : Int32) (b : Nat) (lw : Nat) (gw : Nat) (lf : Nat → Int32) (gf : Nat → Int32) (n0 : Nat) (jj : Nat) (jl : Nat → Int32) (jn : Int32) (q : Nat) (m : Nat) (bt : Nat) (ct : Nat) (nu : Nat → Int32) (n : Nat) (hn2 : 2 ≤ n) (hn : n ≤ 5) (hct : ct ≤ 40) (hnu : ∀ k, k < ct → nu k = nI (ix (nu k)) ∧ ix (nu k) ≤ 2 * (n - 1) - 1) : ckI l yX10_follow cX10_follow 5 (some FieldType.boolean) { frames := 7, cells := 0, slots := 0, locals := 170 } N [.ref km, .ref b, .int (nI n), .ref q] [(km, .inr (10, [.ref sa, .ref hs, .ref shs, .ref ja, .ref uu, .ref tb, .ref ob, .int fd])), (b, .inr (9, [.ref lw, .ref gw, .int (nI n0)])), (lw, .inl (N.2 0, 5, .inl lf)), (gw, .inl (N.2 0, 300, .inl gf)), (ja, .inr (3, [.ref jj, .int jn])), (jj, .inl (N.2 0, 180, .inl jl)), (q, .inr (5, [.ref m, .int (nI bt), .int (nI ct)])), (m, .inl (N.2 0, 40, .inl nu))] (fun (r : Int32) (u : (Nat → Int32) × (Nat → Int32) × (Nat → Int32) × Int32) => (r = (b2i ((folK nu ct).isSome))) ∧ (∀ wz, folK nu ct = some wz → ckWd u.1 u.2.1 n wz)) (fun (u : (Nat → Int32) × (Nat → Int32) × (Nat → Int32) × Int32) => [(km, .inr (10, [.ref sa, .ref hs, .ref shs, .ref ja, .ref uu, .ref tb, .ref ob, .int fd])), (b, .inr (9, [.ref lw, .ref gw, .int (nI n)])), (lw, .inl (N.2 0, 5, .inl u.1)), (gw, .inl (N.2 0, 300, .inl u.2.1)), (ja, .inr (3, [.ref jj, .int u.2.2.2])), (jj, .inl (N.2 0, 180, .inl u.2.2.1)), (q, .inr (5, [.ref m, .int (nI bt), .int (nI ct)])), (m, .inl (N.2 0, 40, .inl nu))]) := by
  refine ckI.of (by decide) (Nat.le_of_ble_eq_true rfl) ?_
  intro pg eg sg mg blw mth cg Ag ls hx hb hrt hml hown hlk hin hg hE hA hP hD hS hl
  have hown : sg.vm.findClass RX10 = some mg.cls := hown
  have hl : lv_has ls 5 [(0, .ref km), (1, .ref b), (2, .int (nI n)), (3, .ref q)] := hl
  have C0 : ckC pg sg mg ([.ref km, .ref b, .int (nI n), .ref q]).toArray cg cX10_follow 5 RX10 N Ag := ⟨⟨hx, hb, hml, hown, hg⟩, hE, hA⟩
  generalize hHe : sg.heap = H at hP
  have hS : va_S Ag sg.heap H [] := hHe ▸ hS
  refine lv_aload_n hx hb dX10_follow_0 rfl (lv_at hl 1 rfl) ?_
  refine lv_iload_n hx hb dX10_follow_1 rfl (lv_at hl 2 rfl) ?_
  refine ck_Vv (As := [.int (nI n)]) (rest := []) (wr := [(km, .inr (10, [.ref sa, .ref hs, .ref shs, .ref ja, .ref uu, .ref tb, .ref ob, .int fd])), (ja, .inr (3, [.ref jj, .int jn])), (jj, .inl (N.2 0, 180, .inl jl)), (q, .inr (5, [.ref m, .int (nI bt), .int (nI ct)])), (m, .inl (N.2 0, 40, .inl nu))]) C0 hP hD hS (c_X9_begin l N b lw gw lf gf n0 n (by omega)) myX9_begin k3_166 ⟨Nat.le_of_ble_eq_true rfl, Nat.le_of_ble_eq_true rfl⟩ [1, 2, 3] [0, 4, 5, 6, 7] ⟨⟨rfl, rfl⟩, by decide, by decide, by decide⟩ 1 rfl rfl rfl rfl hl.1 rfl (Nat.le_of_ble_eq_true rfl) dX10_follow_2 ⟨Nat.le_of_ble_eq_true rfl, Nat.le_of_ble_eq_true rfl⟩ (fun u0 H locs hw0 hP hD hS => ?_)
  obtain ⟨lf2_2, gf2_3⟩ := u0
  have hw_4 : ckWd lf2_2 gf2_3 n first0 := hw0
  have hP : va_P N.1 vwCl [(km, .inr (10, [.ref sa, .ref hs, .ref shs, .ref ja, .ref uu, .ref tb, .ref ob, .int fd])), (ja, .inr (3, [.ref jj, .int jn])), (jj, .inl (N.2 0, 180, .inl jl)), (q, .inr (5, [.ref m, .int (nI bt), .int (nI ct)])), (m, .inl (N.2 0, 40, .inl nu)), (b, .inr (9, [.ref lw, .ref gw, .int (nI n)])), (lw, .inl (N.2 0, 5, .inl lf2_2)), (gw, .inl (N.2 0, 300, .inl gf2_3))] H := hP
  have hD : va_D Ag [(km, .inr (10, [.ref sa, .ref hs, .ref shs, .ref ja, .ref uu, .ref tb, .ref ob, .int fd])), (ja, .inr (3, [.ref jj, .int jn])), (jj, .inl (N.2 0, 180, .inl jl)), (q, .inr (5, [.ref m, .int (nI bt), .int (nI ct)])), (m, .inl (N.2 0, 40, .inl nu)), (b, .inr (9, [.ref lw, .ref gw, .int (nI n)])), (lw, .inl (N.2 0, 5, .inl lf2_2)), (gw, .inl (N.2 0, 300, .inl gf2_3))] := hD
  have hw0 := hw_4
  refine lv_iconst (v := (nI 0)) hx hb dX10_follow_5 (by decide) ?_
  refine lv_istore (lv' := [(4, .int (nI 0)), (0, .ref km), (1, .ref b), (2, .int (nI n)), (3, .ref q)]) hx hb dX10_follow_6 hl (by decide) rfl (fun ls hl => ?_)
  have lp_8 : ∀ (dz : Nat) (k : Nat) (lf1 : Nat → Int32) (gf1 : Nat → Int32) (jl1 : Nat → Int32) (jn1 : Int32) (w1 : Nat → List Nat) (hdz : ct - k = dz) (hk : k ≤ ct) (hfo : folK nu k = some w1) (hw1 : ckWd lf1 gf1 n w1) (H : Heap) (locs : List Loc) (ls : Array Slot), va_P N.1 vwCl [(km, .inr (10, [.ref sa, .ref hs, .ref shs, .ref ja, .ref uu, .ref tb, .ref ob, .int fd])), (b, .inr (9, [.ref lw, .ref gw, .int (nI n)])), (lw, .inl (N.2 0, 5, .inl lf1)), (gw, .inl (N.2 0, 300, .inl gf1)), (ja, .inr (3, [.ref jj, .int jn1])), (jj, .inl (N.2 0, 180, .inl jl1)), (q, .inr (5, [.ref m, .int (nI bt), .int (nI ct)])), (m, .inl (N.2 0, 40, .inl nu))] H → va_D Ag [(km, .inr (10, [.ref sa, .ref hs, .ref shs, .ref ja, .ref uu, .ref tb, .ref ob, .int fd])), (b, .inr (9, [.ref lw, .ref gw, .int (nI n)])), (lw, .inl (N.2 0, 5, .inl lf1)), (gw, .inl (N.2 0, 300, .inl gf1)), (ja, .inr (3, [.ref jj, .int jn1])), (jj, .inl (N.2 0, 180, .inl jl1)), (q, .inr (5, [.ref m, .int (nI bt), .int (nI ct)])), (m, .inl (N.2 0, 40, .inl nu))] → va_S Ag sg.heap H locs → lv_has ls 5 [(4, .int (nI k)), (0, .ref km), (1, .ref b), (2, .int (nI n)), (3, .ref q)] → W pg l eg { frames := 7, cells := 0, slots := 0, locals := 170 } sg mg ([.ref km, .ref b, .int (nI n), .ref q]).toArray blw mth cg H locs 0 0 (ckQi N Ag blw sg ([.ref km, .ref b, .int (nI n), .ref q]).toArray { frames := 7, cells := 0, slots := 0, locals := 170 } (fun (r : Int32) (u : (Nat → Int32) × (Nat → Int32) × (Nat → Int32) × Int32) => (r = (b2i ((folK nu ct).isSome))) ∧ (∀ wz, folK nu ct = some wz → ckWd u.1 u.2.1 n wz)) (fun (u : (Nat → Int32) × (Nat → Int32) × (Nat → Int32) × Int32) => [(km, .inr (10, [.ref sa, .ref hs, .ref shs, .ref ja, .ref uu, .ref tb, .ref ob, .int fd])), (b, .inr (9, [.ref lw, .ref gw, .int (nI n)])), (lw, .inl (N.2 0, 5, .inl u.1)), (gw, .inl (N.2 0, 300, .inl u.2.1)), (ja, .inr (3, [.ref jj, .int u.2.2.2])), (jj, .inl (N.2 0, 180, .inl u.2.2.1)), (q, .inr (5, [.ref m, .int (nI bt), .int (nI ct)])), (m, .inl (N.2 0, 40, .inl nu))])) (F0 mg 8 ls []) := by
    intro dz
    induction dz using Nat.strongRecOn with
    | _ dz ih_8 =>
      intro k lf1 gf1 jl1 jn1 w1 hdz hk hfo hw1 H locs ls hP hD hS hl
      subst hdz
      refine lv_iload hx hb dX10_follow_8 (lv_at hl 0 rfl) ?_
      refine lv_aload_n hx hb dX10_follow_10 rfl (lv_at hl 4 rfl) ?_
      refine va_getN (ci := 5) (v := .int (nI ct)) (C := RX5) (T := TX5) (N := 3) (host := "KiteMeet") hx hb hg inX5 hown hE.1 hP 6 rfl rfl 2 (by decide) (hE.nf 23 rfl _) (fun _ h9 => h9) rfl dX10_follow_11 ?_
      refine ck_ic_ge (tgt := 56) hx hb dX10_follow_14 (by decide) (by omega) (by omega) (fun cz_5 => ?_) (fun cz_5 => ?_)
      · refine lv_iconst (v := (nI 1)) hx hb dX10_follow_56 (by decide) ?_
        refine ck_top (y := (b2i true)) (by decide) ?_
        exact ck_zret (b := true) hx hb hrt hlk ⟨lf1, gf1, jl1, jn1⟩ (by have e : k = ct := (by omega); subst e; exact ⟨congrArg b2i (by rw [hfo]; rfl), fun u hu => (by rw [hfo] at hu; cases hu; exact hw1)⟩) hP hD hS ⟨Nat.le_of_ble_eq_true rfl, Nat.le_of_ble_eq_true rfl⟩ dX10_follow_57
      have hq := (hnu k (by omega)).2
      refine lv_aload_n hx hb dX10_follow_17 rfl (lv_at hl 2 rfl) ?_
      refine lv_aload_n hx hb dX10_follow_18 rfl (lv_at hl 4 rfl) ?_
      refine va_getN (ci := 5) (v := .ref m) (C := RX5) (T := TX5) (N := 3) (host := "KiteMeet") hx hb hg inX5 hown hE.1 hP 6 rfl rfl 0 (by decide) (hE.nf 21 rfl _) (fun _ h9 => h9) rfl dX10_follow_19 ?_
      refine lv_iload hx hb dX10_follow_22 (lv_at hl 0 rfl) ?_
      refine ck_iald hx hb hE hP 7 rfl (by omega) (by decide) dX10_follow_24 ?_
      refine ck_top (y := (nI (ix (nu k)))) (hnu k (by omega)).1 ?_
      refine ck_Si (As := [.int (nI (ix (nu k)))]) (rest := [.ref b]) (wr := [(km, .inr (10, [.ref sa, .ref hs, .ref shs, .ref ja, .ref uu, .ref tb, .ref ob, .int fd])), (b, .inr (9, [.ref lw, .ref gw, .int (nI n)])), (lw, .inl (N.2 0, 5, .inl lf1)), (gw, .inl (N.2 0, 300, .inl gf1)), (ja, .inr (3, [.ref jj, .int jn1])), (jj, .inl (N.2 0, 180, .inl jl1)), (q, .inr (5, [.ref m, .int (nI bt), .int (nI ct)])), (m, .inl (N.2 0, 40, .inl nu))]) C0 hP hD hS (c_X10_placeOf l N (ix (nu k)) (by omega)) myX10_placeOf k3_167 ⟨Nat.le_of_ble_eq_true rfl, Nat.le_of_ble_eq_true rfl⟩ [] [0, 1, 2, 3, 4, 5, 6, 7] ⟨⟨rfl, rfl⟩, by decide, by decide, by decide⟩ rfl hl.1 rfl (Nat.le_of_ble_eq_true rfl) dX10_follow_25 ⟨Nat.le_of_ble_eq_true rfl, Nat.le_of_ble_eq_true rfl⟩ (fun r_6 u0 H locs hw0 hP hD hS => ?_)
      have hw_7 : r_6 = (nI ((ix (nu k)) / 2)) := hw0
      subst hw_7
      have hP : va_P N.1 vwCl [(km, .inr (10, [.ref sa, .ref hs, .ref shs, .ref ja, .ref uu, .ref tb, .ref ob, .int fd])), (b, .inr (9, [.ref lw, .ref gw, .int (nI n)])), (lw, .inl (N.2 0, 5, .inl lf1)), (gw, .inl (N.2 0, 300, .inl gf1)), (ja, .inr (3, [.ref jj, .int jn1])), (jj, .inl (N.2 0, 180, .inl jl1)), (q, .inr (5, [.ref m, .int (nI bt), .int (nI ct)])), (m, .inl (N.2 0, 40, .inl nu))] H := hP
      have hD : va_D Ag [(km, .inr (10, [.ref sa, .ref hs, .ref shs, .ref ja, .ref uu, .ref tb, .ref ob, .int fd])), (b, .inr (9, [.ref lw, .ref gw, .int (nI n)])), (lw, .inl (N.2 0, 5, .inl lf1)), (gw, .inl (N.2 0, 300, .inl gf1)), (ja, .inr (3, [.ref jj, .int jn1])), (jj, .inl (N.2 0, 180, .inl jl1)), (q, .inr (5, [.ref m, .int (nI bt), .int (nI ct)])), (m, .inl (N.2 0, 40, .inl nu))] := hD
      refine lv_aload_n hx hb dX10_follow_28 rfl (lv_at hl 4 rfl) ?_
      refine va_getN (ci := 5) (v := .ref m) (C := RX5) (T := TX5) (N := 3) (host := "KiteMeet") hx hb hg inX5 hown hE.1 hP 6 rfl rfl 0 (by decide) (hE.nf 21 rfl _) (fun _ h9 => h9) rfl dX10_follow_29 ?_
      refine lv_iload hx hb dX10_follow_32 (lv_at hl 0 rfl) ?_
      refine ck_iald hx hb hE hP 7 rfl (by omega) (by decide) dX10_follow_34 ?_
      refine ck_top (y := (nI (ix (nu k)))) (hnu k (by omega)).1 ?_
      refine ck_Si (As := [.int (nI (ix (nu k)))]) (rest := [.int (nI ((ix (nu k)) / 2)), .ref b]) (wr := [(km, .inr (10, [.ref sa, .ref hs, .ref shs, .ref ja, .ref uu, .ref tb, .ref ob, .int fd])), (b, .inr (9, [.ref lw, .ref gw, .int (nI n)])), (lw, .inl (N.2 0, 5, .inl lf1)), (gw, .inl (N.2 0, 300, .inl gf1)), (ja, .inr (3, [.ref jj, .int jn1])), (jj, .inl (N.2 0, 180, .inl jl1)), (q, .inr (5, [.ref m, .int (nI bt), .int (nI ct)])), (m, .inl (N.2 0, 40, .inl nu))]) C0 hP hD hS (c_X10_isFront l N (ix (nu k)) (by omega)) myX10_isFront k3_168 ⟨Nat.le_of_ble_eq_true rfl, Nat.le_of_ble_eq_true rfl⟩ [] [0, 1, 2, 3, 4, 5, 6, 7] ⟨⟨rfl, rfl⟩, by decide, by decide, by decide⟩ rfl hl.1 rfl (Nat.le_of_ble_eq_true rfl) dX10_follow_35 ⟨Nat.le_of_ble_eq_true rfl, Nat.le_of_ble_eq_true rfl⟩ (fun r_8 u0 H locs hw0 hP hD hS => ?_)
      have hw_9 : r_8 = (b2i (decide ((ix (nu k)) % 2 = 0))) := hw0
      subst hw_9
      have hP : va_P N.1 vwCl [(km, .inr (10, [.ref sa, .ref hs, .ref shs, .ref ja, .ref uu, .ref tb, .ref ob, .int fd])), (b, .inr (9, [.ref lw, .ref gw, .int (nI n)])), (lw, .inl (N.2 0, 5, .inl lf1)), (gw, .inl (N.2 0, 300, .inl gf1)), (ja, .inr (3, [.ref jj, .int jn1])), (jj, .inl (N.2 0, 180, .inl jl1)), (q, .inr (5, [.ref m, .int (nI bt), .int (nI ct)])), (m, .inl (N.2 0, 40, .inl nu))] H := hP
      have hD : va_D Ag [(km, .inr (10, [.ref sa, .ref hs, .ref shs, .ref ja, .ref uu, .ref tb, .ref ob, .int fd])), (b, .inr (9, [.ref lw, .ref gw, .int (nI n)])), (lw, .inl (N.2 0, 5, .inl lf1)), (gw, .inl (N.2 0, 300, .inl gf1)), (ja, .inr (3, [.ref jj, .int jn1])), (jj, .inl (N.2 0, 180, .inl jl1)), (q, .inr (5, [.ref m, .int (nI bt), .int (nI ct)])), (m, .inl (N.2 0, 40, .inl nu))] := hD
      refine lv_aload_n hx hb dX10_follow_38 rfl (lv_at hl 1 rfl) ?_
      refine va_get (ci := 10) (v := .ref ja) (C := RX10) (T := TX10) (N := 8) hx hb hg inX10 hown hE.1 hP 0 rfl rfl 3 (by decide) (hg _ k1_219) (fun _ h9 => h9) rfl dX10_follow_39 ?_
      refine ck_Vi (As := [.int (nI ((ix (nu k)) / 2)), .int (b2i (decide ((ix (nu k)) % 2 = 0))), .ref ja]) (rest := []) (wr := [(km, .inr (10, [.ref sa, .ref hs, .ref shs, .ref ja, .ref uu, .ref tb, .ref ob, .int fd])), (q, .inr (5, [.ref m, .int (nI bt), .int (nI ct)])), (m, .inl (N.2 0, 40, .inl nu))]) C0 hP hD hS (c_X9_pass l N ja jj jl1 b lw gw lf1 gf1 n jn1 w1 ((ix (nu k)) / 2) (decide ((ix (nu k)) % 2 = 0)) hw1 (by omega) (by omega)) myX9_pass k3_169 ⟨Nat.le_of_ble_eq_true rfl, Nat.le_of_ble_eq_true rfl⟩ [1, 2, 3, 4, 5] [0, 6, 7] ⟨⟨rfl, rfl⟩, by decide, by decide, by decide⟩ 1 rfl rfl rfl rfl hl.1 rfl (Nat.le_of_ble_eq_true rfl) dX10_follow_42 ⟨Nat.le_of_ble_eq_true rfl, Nat.le_of_ble_eq_true rfl⟩ (fun r_10 u0 H locs hw0 hP hD hS => ?_)
      obtain ⟨lf2_11, gf2_12, jl2_13, jn2_14⟩ := u0
      have hw_15 : (r_10 = (b2i (ckOk w1 ((ix (nu k)) / 2) (decide ((ix (nu k)) % 2 = 0))))) ∧ (ckWd lf2_11 gf2_12 n (if ckOk w1 ((ix (nu k)) / 2) (decide ((ix (nu k)) % 2 = 0)) then ckStep w1 ((ix (nu k)) / 2) (decide ((ix (nu k)) % 2 = 0)) else w1)) := hw0
      obtain ⟨hv_16, hw_15⟩ := hw_15
      subst hv_16
      have hP : va_P N.1 vwCl [(km, .inr (10, [.ref sa, .ref hs, .ref shs, .ref ja, .ref uu, .ref tb, .ref ob, .int fd])), (q, .inr (5, [.ref m, .int (nI bt), .int (nI ct)])), (m, .inl (N.2 0, 40, .inl nu)), (b, .inr (9, [.ref lw, .ref gw, .int (nI n)])), (lw, .inl (N.2 0, 5, .inl lf2_11)), (gw, .inl (N.2 0, 300, .inl gf2_12)), (ja, .inr (3, [.ref jj, .int jn2_14])), (jj, .inl (N.2 0, 180, .inl jl2_13))] H := hP
      have hD : va_D Ag [(km, .inr (10, [.ref sa, .ref hs, .ref shs, .ref ja, .ref uu, .ref tb, .ref ob, .int fd])), (q, .inr (5, [.ref m, .int (nI bt), .int (nI ct)])), (m, .inl (N.2 0, 40, .inl nu)), (b, .inr (9, [.ref lw, .ref gw, .int (nI n)])), (lw, .inl (N.2 0, 5, .inl lf2_11)), (gw, .inl (N.2 0, 300, .inl gf2_12)), (ja, .inr (3, [.ref jj, .int jn2_14])), (jj, .inl (N.2 0, 180, .inl jl2_13))] := hD
      have hpw := hw_15
      refine ck_ifne (b := ckOk w1 ((ix (nu k)) / 2) (decide ((ix (nu k)) % 2 = 0))) (tgt := 50) hx hb dX10_follow_45 (by decide) (fun cz_17 => ?_) (fun cz_17 => ?_)
      · refine lv_iinc (v := (nI (k + 1))) (lv' := [(4, .int (nI (k + 1))), (0, .ref km), (1, .ref b), (2, .int (nI n)), (3, .ref q)]) hx hb dX10_follow_50 hl (k := 0) rfl (nI_1 _) (by decide) rfl (fun ls hl => ?_)
        refine lv_goto (tgt := 8) hx hb dX10_follow_53 (by decide) ?_
        exact ih_8 _ (by omega) (k + 1) lf2_11 gf2_12 jl2_13 jn2_14 (ckStep w1 (ix (nu k) / 2) (decide (ix (nu k) % 2 = 0))) rfl (by omega) (by rw [folK, hfo]; exact if_pos cz_17) (by rw [if_pos cz_17] at hpw; exact hpw) _ _ ls (hP.sub [0, 3, 4, 5, 6, 7, 1, 2] rfl) (hD.sub [0, 3, 4, 5, 6, 7, 1, 2] (by decide) rfl) hS hl
      refine lv_iconst (v := (nI 0)) hx hb dX10_follow_48 (by decide) ?_
      refine ck_top (y := (b2i false)) (by decide) ?_
      exact ck_zret (b := false) hx hb hrt hlk ⟨lf2_11, gf2_12, jl2_13, jn2_14⟩ (by have e : folK nu ct = none := folK_none (k := k + 1) (by rw [folK, hfo]; exact if_neg (by rw [cz_17]; decide)) (by omega); exact ⟨congrArg b2i (by rw [e]; rfl), fun u hu => (by rw [e] at hu; cases hu)⟩) (hP.sub [0, 3, 4, 5, 6, 7, 1, 2] rfl) (hD.sub [0, 3, 4, 5, 6, 7, 1, 2] (by decide) rfl) hS ⟨Nat.le_of_ble_eq_true rfl, Nat.le_of_ble_eq_true rfl⟩ dX10_follow_49
  exact lp_8 _ 0 lf2_2 gf2_3 jl jn first0 rfl (by omega) rfl hw0 _ _ ls (hP.sub [0, 5, 6, 7, 1, 2, 3, 4] rfl) (hD.sub [0, 5, 6, 7, 1, 2, 3, 4] (by decide) rfl) hS hl
set_option maxHeartbeats 4000000 in
set_option maxRecDepth 100000 in
/-- X10_same -/
theorem c_X10_same_d (l : Launch) (N : ckN) (km : Nat) (sa : Nat) (hs : Nat) (shs : Nat) (ja : Nat) (uu : Nat) (tb : Nat) (ob : Nat) (fd : Int32) (shf : Nat → Option Nat) (s1 : Nat) (s2 : Nat) (q1 : Nat) (m1 : Nat) (bt1 : Nat) (ct1 : Nat) (nu1 : Nat → Int32) (q2 : Nat) (m2 : Nat) (bt2 : Nat) (ct2 : Nat) (nu2 : Nat → Int32) (tl : Nat) (tg : Nat) (tlf : Nat → Int32) (tgf : Nat → Int32) (tn : Nat) (ol : Nat) (og : Nat) (olf : Nat → Int32) (ogf : Nat → Int32) (on : Nat) (jj : Nat) (jl : Nat → Int32) (jn : Int32) (x : Int32) (hs1 : s1 < 4) (hq1 : shf s1 = some q1) (hc1 : ct1 ≤ 40) (hb1 : bt1 < 2 ^ 31) (hs2 : s2 < 4) (hq2 : shf s2 = some q2) (hc2 : ct2 ≤ 40) (hb2 : bt2 < 2 ^ 31) : ckI l yX10_same cX10_same 5 (some FieldType.int) { frames := 8, cells := 0, slots := 0, locals := 194 } N [.ref km, .int x, .int (nI s1), .int (nI s2)] [(km, .inr (10, [.ref sa, .ref hs, .ref shs, .ref ja, .ref uu, .ref tb, .ref ob, .int fd])), (shs, .inl (N.2 1, 4, .inr (.inr (.inr (.inr shf))))), (q1, .inr (5, [.ref m1, .int (nI bt1), .int (nI ct1)])), (m1, .inl (N.2 0, 40, .inl nu1)), (q2, .inr (5, [.ref m2, .int (nI bt2), .int (nI ct2)])), (m2, .inl (N.2 0, 40, .inl nu2)), (tb, .inr (9, [.ref tl, .ref tg, .int (nI tn)])), (tl, .inl (N.2 0, 5, .inl tlf)), (tg, .inl (N.2 0, 300, .inl tgf)), (ob, .inr (9, [.ref ol, .ref og, .int (nI on)])), (ol, .inl (N.2 0, 5, .inl olf)), (og, .inl (N.2 0, 300, .inl ogf)), (ja, .inr (3, [.ref jj, .int jn])), (jj, .inl (N.2 0, 180, .inl jl))] (fun (r : Int32) (u : Int32 × (Nat → Int32) × (Nat → Int32) × Nat × (Nat → Int32) × (Nat → Int32) × Nat × (Nat → Int32) × Int32) => ckRd (saF bt1 bt2 ct1 ct2 nu1 nu2 x) (saR ct1 ct2 nu1 nu2 x) fd r u.1) (fun (u : Int32 × (Nat → Int32) × (Nat → Int32) × Nat × (Nat → Int32) × (Nat → Int32) × Nat × (Nat → Int32) × Int32) => [(km, .inr (10, [.ref sa, .ref hs, .ref shs, .ref ja, .ref uu, .ref tb, .ref ob, .int u.1])), (shs, .inl (N.2 1, 4, .inr (.inr (.inr (.inr shf))))), (q1, .inr (5, [.ref m1, .int (nI bt1), .int (nI ct1)])), (m1, .inl (N.2 0, 40, .inl nu1)), (q2, .inr (5, [.ref m2, .int (nI bt2), .int (nI ct2)])), (m2, .inl (N.2 0, 40, .inl nu2)), (tb, .inr (9, [.ref tl, .ref tg, .int (nI u.2.2.2.1)])), (tl, .inl (N.2 0, 5, .inl u.2.1)), (tg, .inl (N.2 0, 300, .inl u.2.2.1)), (ob, .inr (9, [.ref ol, .ref og, .int (nI u.2.2.2.2.2.2.1)])), (ol, .inl (N.2 0, 5, .inl u.2.2.2.2.1)), (og, .inl (N.2 0, 300, .inl u.2.2.2.2.2.1)), (ja, .inr (3, [.ref jj, .int u.2.2.2.2.2.2.2.2])), (jj, .inl (N.2 0, 180, .inl u.2.2.2.2.2.2.2.1))]) := by
  refine ckI.of (by decide) (Nat.le_of_ble_eq_true rfl) ?_
  intro pg eg sg mg blw mth cg Ag ls hx hb hrt hml hown hlk hin hg hE hA hP hD hS hl
  have hown : sg.vm.findClass RX10 = some mg.cls := hown
  have hl : lv_has ls 5 [(0, .ref km), (1, .int x), (2, .int (nI s1)), (3, .int (nI s2))] := hl
  have C0 : ckC pg sg mg ([.ref km, .int x, .int (nI s1), .int (nI s2)]).toArray cg cX10_same 5 RX10 N Ag := ⟨⟨hx, hb, hml, hown, hg⟩, hE, hA⟩
  generalize hHe : sg.heap = H at hP
  have hS : va_S Ag sg.heap H [] := hHe ▸ hS
  have hk1 : ckIn (nI s1) (nI 0) (nI 3) = true := ckIn_in (by omega) (by omega) (by decide)
  have hk2 : ckIn (nI s2) (nI 0) (nI 3) = true := ckIn_in (by omega) (by omega) (by decide)
  refine lv_iload_n hx hb dX10_same_0 rfl (lv_at hl 1 rfl) ?_
  refine ck_Si (As := [.int x]) (rest := []) (wr := [(km, .inr (10, [.ref sa, .ref hs, .ref shs, .ref ja, .ref uu, .ref tb, .ref ob, .int fd])), (shs, .inl (N.2 1, 4, .inr (.inr (.inr (.inr shf))))), (q1, .inr (5, [.ref m1, .int (nI bt1), .int (nI ct1)])), (m1, .inl (N.2 0, 40, .inl nu1)), (q2, .inr (5, [.ref m2, .int (nI bt2), .int (nI ct2)])), (m2, .inl (N.2 0, 40, .inl nu2)), (tb, .inr (9, [.ref tl, .ref tg, .int (nI tn)])), (tl, .inl (N.2 0, 5, .inl tlf)), (tg, .inl (N.2 0, 300, .inl tgf)), (ob, .inr (9, [.ref ol, .ref og, .int (nI on)])), (ol, .inl (N.2 0, 5, .inl olf)), (og, .inl (N.2 0, 300, .inl ogf)), (ja, .inr (3, [.ref jj, .int jn])), (jj, .inl (N.2 0, 180, .inl jl))]) C0 hP hD hS (c_X10_isRowSize l N x ) myX10_isRowSize k3_12 ⟨Nat.le_of_ble_eq_true rfl, Nat.le_of_ble_eq_true rfl⟩ [] [0, 1, 2, 3, 4, 5, 6, 7, 8, 9, 10, 11, 12, 13] ⟨⟨rfl, rfl⟩, by decide, by decide, by decide⟩ rfl hl.1 rfl (Nat.le_of_ble_eq_true rfl) dX10_same_1 ⟨Nat.le_of_ble_eq_true rfl, Nat.le_of_ble_eq_true rfl⟩ (fun r_1 u0 H locs hw0 hP hD hS => ?_)
  have hw_2 : r_1 = (b2i (ckIn x (nI 2) (nI 5))) := hw0
  subst hw_2
  have hP : va_P N.1 vwCl [(km, .inr (10, [.ref sa, .ref hs, .ref shs, .ref ja, .ref uu, .ref tb, .ref ob, .int fd])), (shs, .inl (N.2 1, 4, .inr (.inr (.inr (.inr shf))))), (q1, .inr (5, [.ref m1, .int (nI bt1), .int (nI ct1)])), (m1, .inl (N.2 0, 40, .inl nu1)), (q2, .inr (5, [.ref m2, .int (nI bt2), .int (nI ct2)])), (m2, .inl (N.2 0, 40, .inl nu2)), (tb, .inr (9, [.ref tl, .ref tg, .int (nI tn)])), (tl, .inl (N.2 0, 5, .inl tlf)), (tg, .inl (N.2 0, 300, .inl tgf)), (ob, .inr (9, [.ref ol, .ref og, .int (nI on)])), (ol, .inl (N.2 0, 5, .inl olf)), (og, .inl (N.2 0, 300, .inl ogf)), (ja, .inr (3, [.ref jj, .int jn])), (jj, .inl (N.2 0, 180, .inl jl))] H := hP
  have hD : va_D Ag [(km, .inr (10, [.ref sa, .ref hs, .ref shs, .ref ja, .ref uu, .ref tb, .ref ob, .int fd])), (shs, .inl (N.2 1, 4, .inr (.inr (.inr (.inr shf))))), (q1, .inr (5, [.ref m1, .int (nI bt1), .int (nI ct1)])), (m1, .inl (N.2 0, 40, .inl nu1)), (q2, .inr (5, [.ref m2, .int (nI bt2), .int (nI ct2)])), (m2, .inl (N.2 0, 40, .inl nu2)), (tb, .inr (9, [.ref tl, .ref tg, .int (nI tn)])), (tl, .inl (N.2 0, 5, .inl tlf)), (tg, .inl (N.2 0, 300, .inl tgf)), (ob, .inr (9, [.ref ol, .ref og, .int (nI on)])), (ol, .inl (N.2 0, 5, .inl olf)), (og, .inl (N.2 0, 300, .inl ogf)), (ja, .inr (3, [.ref jj, .int jn])), (jj, .inl (N.2 0, 180, .inl jl))] := hD
  refine ck_ifeq (b := ckIn x (nI 2) (nI 5)) (tgt := 21) hx hb dX10_same_4 (by decide) (fun cz_3 => ?_) (fun cz_3 => ?_)
  · refine lv_aload_n hx hb dX10_same_21 rfl (lv_at hl 0 rfl) ?_
    refine lv_ldc (own := RX10) (v := (-100001)) hx hb hown (hg _ k2_14) dX10_same_22 ?_
    refine ck_Vi (As := [.int (-100001)]) (rest := []) (wr := [(shs, .inl (N.2 1, 4, .inr (.inr (.inr (.inr shf))))), (q1, .inr (5, [.ref m1, .int (nI bt1), .int (nI ct1)])), (m1, .inl (N.2 0, 40, .inl nu1)), (q2, .inr (5, [.ref m2, .int (nI bt2), .int (nI ct2)])), (m2, .inl (N.2 0, 40, .inl nu2)), (tb, .inr (9, [.ref tl, .ref tg, .int (nI tn)])), (tl, .inl (N.2 0, 5, .inl tlf)), (tg, .inl (N.2 0, 300, .inl tgf)), (ob, .inr (9, [.ref ol, .ref og, .int (nI on)])), (ol, .inl (N.2 0, 5, .inl olf)), (og, .inl (N.2 0, 300, .inl ogf)), (ja, .inr (3, [.ref jj, .int jn])), (jj, .inl (N.2 0, 180, .inl jl))]) C0 hP hD hS (c_X10_finding l N km sa hs shs ja uu tb ob fd (-100001) ) myX10_finding k2_15 ⟨Nat.le_of_ble_eq_true rfl, Nat.le_of_ble_eq_true rfl⟩ [0] [1, 2, 3, 4, 5, 6, 7, 8, 9, 10, 11, 12, 13] ⟨⟨rfl, rfl⟩, by decide, by decide, by decide⟩ 0 rfl rfl rfl rfl hl.1 rfl (Nat.le_of_ble_eq_true rfl) dX10_same_24 ⟨Nat.le_of_ble_eq_true rfl, Nat.le_of_ble_eq_true rfl⟩ (fun r_4 u0 H locs hw0 hP hD hS => ?_)
    have hw_5 : r_4 = (-100001) := hw0
    subst hw_5
    have hP : va_P N.1 vwCl [(shs, .inl (N.2 1, 4, .inr (.inr (.inr (.inr shf))))), (q1, .inr (5, [.ref m1, .int (nI bt1), .int (nI ct1)])), (m1, .inl (N.2 0, 40, .inl nu1)), (q2, .inr (5, [.ref m2, .int (nI bt2), .int (nI ct2)])), (m2, .inl (N.2 0, 40, .inl nu2)), (tb, .inr (9, [.ref tl, .ref tg, .int (nI tn)])), (tl, .inl (N.2 0, 5, .inl tlf)), (tg, .inl (N.2 0, 300, .inl tgf)), (ob, .inr (9, [.ref ol, .ref og, .int (nI on)])), (ol, .inl (N.2 0, 5, .inl olf)), (og, .inl (N.2 0, 300, .inl ogf)), (ja, .inr (3, [.ref jj, .int jn])), (jj, .inl (N.2 0, 180, .inl jl)), (km, .inr (10, [.ref sa, .ref hs, .ref shs, .ref ja, .ref uu, .ref tb, .ref ob, .int (fd + nI 1)]))] H := hP
    have hD : va_D Ag [(shs, .inl (N.2 1, 4, .inr (.inr (.inr (.inr shf))))), (q1, .inr (5, [.ref m1, .int (nI bt1), .int (nI ct1)])), (m1, .inl (N.2 0, 40, .inl nu1)), (q2, .inr (5, [.ref m2, .int (nI bt2), .int (nI ct2)])), (m2, .inl (N.2 0, 40, .inl nu2)), (tb, .inr (9, [.ref tl, .ref tg, .int (nI tn)])), (tl, .inl (N.2 0, 5, .inl tlf)), (tg, .inl (N.2 0, 300, .inl tgf)), (ob, .inr (9, [.ref ol, .ref og, .int (nI on)])), (ol, .inl (N.2 0, 5, .inl olf)), (og, .inl (N.2 0, 300, .inl ogf)), (ja, .inr (3, [.ref jj, .int jn])), (jj, .inl (N.2 0, 180, .inl jl)), (km, .inr (10, [.ref sa, .ref hs, .ref shs, .ref ja, .ref uu, .ref tb, .ref ob, .int (fd + nI 1)]))] := hD
    exact ck_iret hx hb hrt hlk ⟨(fd + nI 1), tlf, tgf, tn, olf, ogf, on, jl, jn⟩ (ckRd_f (by simp [saF, saO, cz_3]) (by decide)) (hP.sub [13, 0, 1, 2, 3, 4, 5, 6, 7, 8, 9, 10, 11, 12] rfl) (hD.sub [13, 0, 1, 2, 3, 4, 5, 6, 7, 8, 9, 10, 11, 12] (by decide) rfl) hS ⟨Nat.le_of_ble_eq_true rfl, Nat.le_of_ble_eq_true rfl⟩ dX10_same_27
  refine lv_iload_n hx hb dX10_same_7 rfl (lv_at hl 2 rfl) ?_
  refine ck_Si (As := [.int (nI s1)]) (rest := []) (wr := [(km, .inr (10, [.ref sa, .ref hs, .ref shs, .ref ja, .ref uu, .ref tb, .ref ob, .int fd])), (shs, .inl (N.2 1, 4, .inr (.inr (.inr (.inr shf))))), (q1, .inr (5, [.ref m1, .int (nI bt1), .int (nI ct1)])), (m1, .inl (N.2 0, 40, .inl nu1)), (q2, .inr (5, [.ref m2, .int (nI bt2), .int (nI ct2)])), (m2, .inl (N.2 0, 40, .inl nu2)), (tb, .inr (9, [.ref tl, .ref tg, .int (nI tn)])), (tl, .inl (N.2 0, 5, .inl tlf)), (tg, .inl (N.2 0, 300, .inl tgf)), (ob, .inr (9, [.ref ol, .ref og, .int (nI on)])), (ol, .inl (N.2 0, 5, .inl olf)), (og, .inl (N.2 0, 300, .inl ogf)), (ja, .inr (3, [.ref jj, .int jn])), (jj, .inl (N.2 0, 180, .inl jl))]) C0 hP hD hS (c_X10_isSheet l N (nI s1) ) myX10_isSheet k3_149 ⟨Nat.le_of_ble_eq_true rfl, Nat.le_of_ble_eq_true rfl⟩ [] [0, 1, 2, 3, 4, 5, 6, 7, 8, 9, 10, 11, 12, 13] ⟨⟨rfl, rfl⟩, by decide, by decide, by decide⟩ rfl hl.1 rfl (Nat.le_of_ble_eq_true rfl) dX10_same_8 ⟨Nat.le_of_ble_eq_true rfl, Nat.le_of_ble_eq_true rfl⟩ (fun r_6 u0 H locs hw0 hP hD hS => ?_)
  have hw_7 : r_6 = (b2i (ckIn (nI s1) (nI 0) (nI 3))) := hw0
  subst hw_7
  have hP : va_P N.1 vwCl [(km, .inr (10, [.ref sa, .ref hs, .ref shs, .ref ja, .ref uu, .ref tb, .ref ob, .int fd])), (shs, .inl (N.2 1, 4, .inr (.inr (.inr (.inr shf))))), (q1, .inr (5, [.ref m1, .int (nI bt1), .int (nI ct1)])), (m1, .inl (N.2 0, 40, .inl nu1)), (q2, .inr (5, [.ref m2, .int (nI bt2), .int (nI ct2)])), (m2, .inl (N.2 0, 40, .inl nu2)), (tb, .inr (9, [.ref tl, .ref tg, .int (nI tn)])), (tl, .inl (N.2 0, 5, .inl tlf)), (tg, .inl (N.2 0, 300, .inl tgf)), (ob, .inr (9, [.ref ol, .ref og, .int (nI on)])), (ol, .inl (N.2 0, 5, .inl olf)), (og, .inl (N.2 0, 300, .inl ogf)), (ja, .inr (3, [.ref jj, .int jn])), (jj, .inl (N.2 0, 180, .inl jl))] H := hP
  have hD : va_D Ag [(km, .inr (10, [.ref sa, .ref hs, .ref shs, .ref ja, .ref uu, .ref tb, .ref ob, .int fd])), (shs, .inl (N.2 1, 4, .inr (.inr (.inr (.inr shf))))), (q1, .inr (5, [.ref m1, .int (nI bt1), .int (nI ct1)])), (m1, .inl (N.2 0, 40, .inl nu1)), (q2, .inr (5, [.ref m2, .int (nI bt2), .int (nI ct2)])), (m2, .inl (N.2 0, 40, .inl nu2)), (tb, .inr (9, [.ref tl, .ref tg, .int (nI tn)])), (tl, .inl (N.2 0, 5, .inl tlf)), (tg, .inl (N.2 0, 300, .inl tgf)), (ob, .inr (9, [.ref ol, .ref og, .int (nI on)])), (ol, .inl (N.2 0, 5, .inl olf)), (og, .inl (N.2 0, 300, .inl ogf)), (ja, .inr (3, [.ref jj, .int jn])), (jj, .inl (N.2 0, 180, .inl jl))] := hD
  refine ck_ifeq (b := ckIn (nI s1) (nI 0) (nI 3)) (tgt := 21) hx hb dX10_same_11 (by decide) (fun cz_8 => absurd cz_8 (by rw [hk1]; decide)) (fun cz_8 => ?_)
  refine lv_iload_n hx hb dX10_same_14 rfl (lv_at hl 3 rfl) ?_
  refine ck_Si (As := [.int (nI s2)]) (rest := []) (wr := [(km, .inr (10, [.ref sa, .ref hs, .ref shs, .ref ja, .ref uu, .ref tb, .ref ob, .int fd])), (shs, .inl (N.2 1, 4, .inr (.inr (.inr (.inr shf))))), (q1, .inr (5, [.ref m1, .int (nI bt1), .int (nI ct1)])), (m1, .inl (N.2 0, 40, .inl nu1)), (q2, .inr (5, [.ref m2, .int (nI bt2), .int (nI ct2)])), (m2, .inl (N.2 0, 40, .inl nu2)), (tb, .inr (9, [.ref tl, .ref tg, .int (nI tn)])), (tl, .inl (N.2 0, 5, .inl tlf)), (tg, .inl (N.2 0, 300, .inl tgf)), (ob, .inr (9, [.ref ol, .ref og, .int (nI on)])), (ol, .inl (N.2 0, 5, .inl olf)), (og, .inl (N.2 0, 300, .inl ogf)), (ja, .inr (3, [.ref jj, .int jn])), (jj, .inl (N.2 0, 180, .inl jl))]) C0 hP hD hS (c_X10_isSheet l N (nI s2) ) myX10_isSheet k3_149 ⟨Nat.le_of_ble_eq_true rfl, Nat.le_of_ble_eq_true rfl⟩ [] [0, 1, 2, 3, 4, 5, 6, 7, 8, 9, 10, 11, 12, 13] ⟨⟨rfl, rfl⟩, by decide, by decide, by decide⟩ rfl hl.1 rfl (Nat.le_of_ble_eq_true rfl) dX10_same_15 ⟨Nat.le_of_ble_eq_true rfl, Nat.le_of_ble_eq_true rfl⟩ (fun r_9 u0 H locs hw0 hP hD hS => ?_)
  have hw_10 : r_9 = (b2i (ckIn (nI s2) (nI 0) (nI 3))) := hw0
  subst hw_10
  have hP : va_P N.1 vwCl [(km, .inr (10, [.ref sa, .ref hs, .ref shs, .ref ja, .ref uu, .ref tb, .ref ob, .int fd])), (shs, .inl (N.2 1, 4, .inr (.inr (.inr (.inr shf))))), (q1, .inr (5, [.ref m1, .int (nI bt1), .int (nI ct1)])), (m1, .inl (N.2 0, 40, .inl nu1)), (q2, .inr (5, [.ref m2, .int (nI bt2), .int (nI ct2)])), (m2, .inl (N.2 0, 40, .inl nu2)), (tb, .inr (9, [.ref tl, .ref tg, .int (nI tn)])), (tl, .inl (N.2 0, 5, .inl tlf)), (tg, .inl (N.2 0, 300, .inl tgf)), (ob, .inr (9, [.ref ol, .ref og, .int (nI on)])), (ol, .inl (N.2 0, 5, .inl olf)), (og, .inl (N.2 0, 300, .inl ogf)), (ja, .inr (3, [.ref jj, .int jn])), (jj, .inl (N.2 0, 180, .inl jl))] H := hP
  have hD : va_D Ag [(km, .inr (10, [.ref sa, .ref hs, .ref shs, .ref ja, .ref uu, .ref tb, .ref ob, .int fd])), (shs, .inl (N.2 1, 4, .inr (.inr (.inr (.inr shf))))), (q1, .inr (5, [.ref m1, .int (nI bt1), .int (nI ct1)])), (m1, .inl (N.2 0, 40, .inl nu1)), (q2, .inr (5, [.ref m2, .int (nI bt2), .int (nI ct2)])), (m2, .inl (N.2 0, 40, .inl nu2)), (tb, .inr (9, [.ref tl, .ref tg, .int (nI tn)])), (tl, .inl (N.2 0, 5, .inl tlf)), (tg, .inl (N.2 0, 300, .inl tgf)), (ob, .inr (9, [.ref ol, .ref og, .int (nI on)])), (ol, .inl (N.2 0, 5, .inl olf)), (og, .inl (N.2 0, 300, .inl ogf)), (ja, .inr (3, [.ref jj, .int jn])), (jj, .inl (N.2 0, 180, .inl jl))] := hD
  refine ck_ifne (b := ckIn (nI s2) (nI 0) (nI 3)) (tgt := 28) hx hb dX10_same_18 (by decide) (fun cz_11 => ?_) (fun cz_11 => absurd cz_11 (by rw [hk2]; decide))
  have hx1 := cz_3
  obtain ⟨n0, hn02, hn05, rfl⟩ := (ckIn_n (by decide) (by decide)).mp hx1
  have exn : ix (nI n0) = n0 := ix_nI (by omega)
  refine lv_aload_n hx hb dX10_same_28 rfl (lv_at hl 0 rfl) ?_
  refine va_get (ci := 10) (v := .ref shs) (C := RX10) (T := TX10) (N := 8) hx hb hg inX10 hown hE.1 hP 0 rfl rfl 2 (by decide) (hg _ k1_218) (fun _ h9 => h9) rfl dX10_same_29 ?_
  refine lv_iload_n hx hb dX10_same_32 rfl (lv_at hl 2 rfl) ?_
  refine ck_aalds hx hb hE hP 1 1 rfl rfl (by omega) (by decide) hq1 dX10_same_33 ?_
  refine ck_Vi (As := []) (rest := []) (wr := [(km, .inr (10, [.ref sa, .ref hs, .ref shs, .ref ja, .ref uu, .ref tb, .ref ob, .int fd])), (shs, .inl (N.2 1, 4, .inr (.inr (.inr (.inr shf))))), (q2, .inr (5, [.ref m2, .int (nI bt2), .int (nI ct2)])), (m2, .inl (N.2 0, 40, .inl nu2)), (tb, .inr (9, [.ref tl, .ref tg, .int (nI tn)])), (tl, .inl (N.2 0, 5, .inl tlf)), (tg, .inl (N.2 0, 300, .inl tgf)), (ob, .inr (9, [.ref ol, .ref og, .int (nI on)])), (ol, .inl (N.2 0, 5, .inl olf)), (og, .inl (N.2 0, 300, .inl ogf)), (ja, .inr (3, [.ref jj, .int jn])), (jj, .inl (N.2 0, 180, .inl jl))]) C0 hP hD hS (c_X5_isMissing l N q1 m1 nu1 bt1 ct1 (by omega)) myX5_isMissing k3_152 ⟨Nat.le_of_ble_eq_true rfl, Nat.le_of_ble_eq_true rfl⟩ [2, 3] [0, 1, 4, 5, 6, 7, 8, 9, 10, 11, 12, 13] ⟨⟨rfl, rfl⟩, by decide, by decide, by decide⟩ 2 rfl rfl rfl rfl hl.1 rfl (Nat.le_of_ble_eq_true rfl) dX10_same_34 ⟨Nat.le_of_ble_eq_true rfl, Nat.le_of_ble_eq_true rfl⟩ (fun r_12 u0 H locs hw0 hP hD hS => ?_)
  have hw_13 : r_12 = (b2i (decide (bt1 = 0))) := hw0
  subst hw_13
  have hP : va_P N.1 vwCl [(km, .inr (10, [.ref sa, .ref hs, .ref shs, .ref ja, .ref uu, .ref tb, .ref ob, .int fd])), (shs, .inl (N.2 1, 4, .inr (.inr (.inr (.inr shf))))), (q2, .inr (5, [.ref m2, .int (nI bt2), .int (nI ct2)])), (m2, .inl (N.2 0, 40, .inl nu2)), (tb, .inr (9, [.ref tl, .ref tg, .int (nI tn)])), (tl, .inl (N.2 0, 5, .inl tlf)), (tg, .inl (N.2 0, 300, .inl tgf)), (ob, .inr (9, [.ref ol, .ref og, .int (nI on)])), (ol, .inl (N.2 0, 5, .inl olf)), (og, .inl (N.2 0, 300, .inl ogf)), (ja, .inr (3, [.ref jj, .int jn])), (jj, .inl (N.2 0, 180, .inl jl)), (q1, .inr (5, [.ref m1, .int (nI bt1), .int (nI ct1)])), (m1, .inl (N.2 0, 40, .inl nu1))] H := hP
  have hD : va_D Ag [(km, .inr (10, [.ref sa, .ref hs, .ref shs, .ref ja, .ref uu, .ref tb, .ref ob, .int fd])), (shs, .inl (N.2 1, 4, .inr (.inr (.inr (.inr shf))))), (q2, .inr (5, [.ref m2, .int (nI bt2), .int (nI ct2)])), (m2, .inl (N.2 0, 40, .inl nu2)), (tb, .inr (9, [.ref tl, .ref tg, .int (nI tn)])), (tl, .inl (N.2 0, 5, .inl tlf)), (tg, .inl (N.2 0, 300, .inl tgf)), (ob, .inr (9, [.ref ol, .ref og, .int (nI on)])), (ol, .inl (N.2 0, 5, .inl olf)), (og, .inl (N.2 0, 300, .inl ogf)), (ja, .inr (3, [.ref jj, .int jn])), (jj, .inl (N.2 0, 180, .inl jl)), (q1, .inr (5, [.ref m1, .int (nI bt1), .int (nI ct1)])), (m1, .inl (N.2 0, 40, .inl nu1))] := hD
  refine ck_ifne (b := decide (bt1 = 0)) (tgt := 52) hx hb dX10_same_37 (by decide) (fun cz_14 => ?_) (fun cz_14 => ?_)
  · have hbza := of_decide_eq_true cz_14
    refine lv_aload_n hx hb dX10_same_52 rfl (lv_at hl 0 rfl) ?_
    refine lv_ldc (own := RX10) (v := (-100002)) hx hb hown (hg _ k3_156) dX10_same_53 ?_
    refine ck_Vi (As := [.int (-100002)]) (rest := []) (wr := [(shs, .inl (N.2 1, 4, .inr (.inr (.inr (.inr shf))))), (q2, .inr (5, [.ref m2, .int (nI bt2), .int (nI ct2)])), (m2, .inl (N.2 0, 40, .inl nu2)), (tb, .inr (9, [.ref tl, .ref tg, .int (nI tn)])), (tl, .inl (N.2 0, 5, .inl tlf)), (tg, .inl (N.2 0, 300, .inl tgf)), (ob, .inr (9, [.ref ol, .ref og, .int (nI on)])), (ol, .inl (N.2 0, 5, .inl olf)), (og, .inl (N.2 0, 300, .inl ogf)), (ja, .inr (3, [.ref jj, .int jn])), (jj, .inl (N.2 0, 180, .inl jl)), (q1, .inr (5, [.ref m1, .int (nI bt1), .int (nI ct1)])), (m1, .inl (N.2 0, 40, .inl nu1))]) C0 hP hD hS (c_X10_finding l N km sa hs shs ja uu tb ob fd (-100002) ) myX10_finding k2_15 ⟨Nat.le_of_ble_eq_true rfl, Nat.le_of_ble_eq_true rfl⟩ [0] [1, 2, 3, 4, 5, 6, 7, 8, 9, 10, 11, 12, 13] ⟨⟨rfl, rfl⟩, by decide, by decide, by decide⟩ 0 rfl rfl rfl rfl hl.1 rfl (Nat.le_of_ble_eq_true rfl) dX10_same_55 ⟨Nat.le_of_ble_eq_true rfl, Nat.le_of_ble_eq_true rfl⟩ (fun r_15 u0 H locs hw0 hP hD hS => ?_)
    have hw_16 : r_15 = (-100002) := hw0
    subst hw_16
    have hP : va_P N.1 vwCl [(shs, .inl (N.2 1, 4, .inr (.inr (.inr (.inr shf))))), (q2, .inr (5, [.ref m2, .int (nI bt2), .int (nI ct2)])), (m2, .inl (N.2 0, 40, .inl nu2)), (tb, .inr (9, [.ref tl, .ref tg, .int (nI tn)])), (tl, .inl (N.2 0, 5, .inl tlf)), (tg, .inl (N.2 0, 300, .inl tgf)), (ob, .inr (9, [.ref ol, .ref og, .int (nI on)])), (ol, .inl (N.2 0, 5, .inl olf)), (og, .inl (N.2 0, 300, .inl ogf)), (ja, .inr (3, [.ref jj, .int jn])), (jj, .inl (N.2 0, 180, .inl jl)), (q1, .inr (5, [.ref m1, .int (nI bt1), .int (nI ct1)])), (m1, .inl (N.2 0, 40, .inl nu1)), (km, .inr (10, [.ref sa, .ref hs, .ref shs, .ref ja, .ref uu, .ref tb, .ref ob, .int (fd + nI 1)]))] H := hP
    have hD : va_D Ag [(shs, .inl (N.2 1, 4, .inr (.inr (.inr (.inr shf))))), (q2, .inr (5, [.ref m2, .int (nI bt2), .int (nI ct2)])), (m2, .inl (N.2 0, 40, .inl nu2)), (tb, .inr (9, [.ref tl, .ref tg, .int (nI tn)])), (tl, .inl (N.2 0, 5, .inl tlf)), (tg, .inl (N.2 0, 300, .inl tgf)), (ob, .inr (9, [.ref ol, .ref og, .int (nI on)])), (ol, .inl (N.2 0, 5, .inl olf)), (og, .inl (N.2 0, 300, .inl ogf)), (ja, .inr (3, [.ref jj, .int jn])), (jj, .inl (N.2 0, 180, .inl jl)), (q1, .inr (5, [.ref m1, .int (nI bt1), .int (nI ct1)])), (m1, .inl (N.2 0, 40, .inl nu1)), (km, .inr (10, [.ref sa, .ref hs, .ref shs, .ref ja, .ref uu, .ref tb, .ref ob, .int (fd + nI 1)]))] := hD
    exact ck_iret hx hb hrt hlk ⟨(fd + nI 1), tlf, tgf, tn, olf, ogf, on, jl, jn⟩ (ckRd_f (by simp [saF, saO, hx1, exn, hbza]) (by decide)) (hP.sub [13, 0, 11, 12, 1, 2, 3, 4, 5, 6, 7, 8, 9, 10] rfl) (hD.sub [13, 0, 11, 12, 1, 2, 3, 4, 5, 6, 7, 8, 9, 10] (by decide) rfl) hS ⟨Nat.le_of_ble_eq_true rfl, Nat.le_of_ble_eq_true rfl⟩ dX10_same_58
  have hbza := of_decide_eq_false cz_14
  refine lv_aload_n hx hb dX10_same_40 rfl (lv_at hl 0 rfl) ?_
  refine va_get (ci := 10) (v := .ref shs) (C := RX10) (T := TX10) (N := 8) hx hb hg inX10 hown hE.1 hP 0 rfl rfl 2 (by decide) (hg _ k1_218) (fun _ h9 => h9) rfl dX10_same_41 ?_
  refine lv_iload_n hx hb dX10_same_44 rfl (lv_at hl 3 rfl) ?_
  refine ck_aalds hx hb hE hP 1 1 rfl rfl (by omega) (by decide) hq2 dX10_same_45 ?_
  refine ck_Vi (As := []) (rest := []) (wr := [(km, .inr (10, [.ref sa, .ref hs, .ref shs, .ref ja, .ref uu, .ref tb, .ref ob, .int fd])), (shs, .inl (N.2 1, 4, .inr (.inr (.inr (.inr shf))))), (tb, .inr (9, [.ref tl, .ref tg, .int (nI tn)])), (tl, .inl (N.2 0, 5, .inl tlf)), (tg, .inl (N.2 0, 300, .inl tgf)), (ob, .inr (9, [.ref ol, .ref og, .int (nI on)])), (ol, .inl (N.2 0, 5, .inl olf)), (og, .inl (N.2 0, 300, .inl ogf)), (ja, .inr (3, [.ref jj, .int jn])), (jj, .inl (N.2 0, 180, .inl jl)), (q1, .inr (5, [.ref m1, .int (nI bt1), .int (nI ct1)])), (m1, .inl (N.2 0, 40, .inl nu1))]) C0 hP hD hS (c_X5_isMissing l N q2 m2 nu2 bt2 ct2 (by omega)) myX5_isMissing k3_152 ⟨Nat.le_of_ble_eq_true rfl, Nat.le_of_ble_eq_true rfl⟩ [2, 3] [0, 1, 4, 5, 6, 7, 8, 9, 10, 11, 12, 13] ⟨⟨rfl, rfl⟩, by decide, by decide, by decide⟩ 2 rfl rfl rfl rfl hl.1 rfl (Nat.le_of_ble_eq_true rfl) dX10_same_46 ⟨Nat.le_of_ble_eq_true rfl, Nat.le_of_ble_eq_true rfl⟩ (fun r_17 u0 H locs hw0 hP hD hS => ?_)
  have hw_18 : r_17 = (b2i (decide (bt2 = 0))) := hw0
  subst hw_18
  have hP : va_P N.1 vwCl [(km, .inr (10, [.ref sa, .ref hs, .ref shs, .ref ja, .ref uu, .ref tb, .ref ob, .int fd])), (shs, .inl (N.2 1, 4, .inr (.inr (.inr (.inr shf))))), (tb, .inr (9, [.ref tl, .ref tg, .int (nI tn)])), (tl, .inl (N.2 0, 5, .inl tlf)), (tg, .inl (N.2 0, 300, .inl tgf)), (ob, .inr (9, [.ref ol, .ref og, .int (nI on)])), (ol, .inl (N.2 0, 5, .inl olf)), (og, .inl (N.2 0, 300, .inl ogf)), (ja, .inr (3, [.ref jj, .int jn])), (jj, .inl (N.2 0, 180, .inl jl)), (q1, .inr (5, [.ref m1, .int (nI bt1), .int (nI ct1)])), (m1, .inl (N.2 0, 40, .inl nu1)), (q2, .inr (5, [.ref m2, .int (nI bt2), .int (nI ct2)])), (m2, .inl (N.2 0, 40, .inl nu2))] H := hP
  have hD : va_D Ag [(km, .inr (10, [.ref sa, .ref hs, .ref shs, .ref ja, .ref uu, .ref tb, .ref ob, .int fd])), (shs, .inl (N.2 1, 4, .inr (.inr (.inr (.inr shf))))), (tb, .inr (9, [.ref tl, .ref tg, .int (nI tn)])), (tl, .inl (N.2 0, 5, .inl tlf)), (tg, .inl (N.2 0, 300, .inl tgf)), (ob, .inr (9, [.ref ol, .ref og, .int (nI on)])), (ol, .inl (N.2 0, 5, .inl olf)), (og, .inl (N.2 0, 300, .inl ogf)), (ja, .inr (3, [.ref jj, .int jn])), (jj, .inl (N.2 0, 180, .inl jl)), (q1, .inr (5, [.ref m1, .int (nI bt1), .int (nI ct1)])), (m1, .inl (N.2 0, 40, .inl nu1)), (q2, .inr (5, [.ref m2, .int (nI bt2), .int (nI ct2)])), (m2, .inl (N.2 0, 40, .inl nu2))] := hD
  refine ck_ifeq (b := decide (bt2 = 0)) (tgt := 59) hx hb dX10_same_49 (by decide) (fun cz_19 => ?_) (fun cz_19 => ?_)
  · have hbzb := of_decide_eq_false cz_19
    refine lv_iload_n hx hb dX10_same_59 rfl (lv_at hl 1 rfl) ?_
    refine ck_Si (As := [.int (nI n0)]) (rest := []) (wr := [(km, .inr (10, [.ref sa, .ref hs, .ref shs, .ref ja, .ref uu, .ref tb, .ref ob, .int fd])), (shs, .inl (N.2 1, 4, .inr (.inr (.inr (.inr shf))))), (tb, .inr (9, [.ref tl, .ref tg, .int (nI tn)])), (tl, .inl (N.2 0, 5, .inl tlf)), (tg, .inl (N.2 0, 300, .inl tgf)), (ob, .inr (9, [.ref ol, .ref og, .int (nI on)])), (ol, .inl (N.2 0, 5, .inl olf)), (og, .inl (N.2 0, 300, .inl ogf)), (ja, .inr (3, [.ref jj, .int jn])), (jj, .inl (N.2 0, 180, .inl jl)), (q1, .inr (5, [.ref m1, .int (nI bt1), .int (nI ct1)])), (m1, .inl (N.2 0, 40, .inl nu1)), (q2, .inr (5, [.ref m2, .int (nI bt2), .int (nI ct2)])), (m2, .inl (N.2 0, 40, .inl nu2))]) C0 hP hD hS (c_X10_walksOf l N n0 (by omega) (by omega)) myX10_walksOf k3_157 ⟨Nat.le_of_ble_eq_true rfl, Nat.le_of_ble_eq_true rfl⟩ [] [0, 1, 2, 3, 4, 5, 6, 7, 8, 9, 10, 11, 12, 13] ⟨⟨rfl, rfl⟩, by decide, by decide, by decide⟩ rfl hl.1 rfl (Nat.le_of_ble_eq_true rfl) dX10_same_60 ⟨Nat.le_of_ble_eq_true rfl, Nat.le_of_ble_eq_true rfl⟩ (fun r_20 u0 H locs hw0 hP hD hS => ?_)
    have hw_21 : r_20 = (nI (2 * (n0 - 1))) := hw0
    subst hw_21
    have hP : va_P N.1 vwCl [(km, .inr (10, [.ref sa, .ref hs, .ref shs, .ref ja, .ref uu, .ref tb, .ref ob, .int fd])), (shs, .inl (N.2 1, 4, .inr (.inr (.inr (.inr shf))))), (tb, .inr (9, [.ref tl, .ref tg, .int (nI tn)])), (tl, .inl (N.2 0, 5, .inl tlf)), (tg, .inl (N.2 0, 300, .inl tgf)), (ob, .inr (9, [.ref ol, .ref og, .int (nI on)])), (ol, .inl (N.2 0, 5, .inl olf)), (og, .inl (N.2 0, 300, .inl ogf)), (ja, .inr (3, [.ref jj, .int jn])), (jj, .inl (N.2 0, 180, .inl jl)), (q1, .inr (5, [.ref m1, .int (nI bt1), .int (nI ct1)])), (m1, .inl (N.2 0, 40, .inl nu1)), (q2, .inr (5, [.ref m2, .int (nI bt2), .int (nI ct2)])), (m2, .inl (N.2 0, 40, .inl nu2))] H := hP
    have hD : va_D Ag [(km, .inr (10, [.ref sa, .ref hs, .ref shs, .ref ja, .ref uu, .ref tb, .ref ob, .int fd])), (shs, .inl (N.2 1, 4, .inr (.inr (.inr (.inr shf))))), (tb, .inr (9, [.ref tl, .ref tg, .int (nI tn)])), (tl, .inl (N.2 0, 5, .inl tlf)), (tg, .inl (N.2 0, 300, .inl tgf)), (ob, .inr (9, [.ref ol, .ref og, .int (nI on)])), (ol, .inl (N.2 0, 5, .inl olf)), (og, .inl (N.2 0, 300, .inl ogf)), (ja, .inr (3, [.ref jj, .int jn])), (jj, .inl (N.2 0, 180, .inl jl)), (q1, .inr (5, [.ref m1, .int (nI bt1), .int (nI ct1)])), (m1, .inl (N.2 0, 40, .inl nu1)), (q2, .inr (5, [.ref m2, .int (nI bt2), .int (nI ct2)])), (m2, .inl (N.2 0, 40, .inl nu2))] := hD
    refine lv_iconst (v := (nI 1)) hx hb dX10_same_63 (by decide) ?_
    refine lv_isub hx hb dX10_same_64 ?_
    refine ck_top (y := (nI (2 * (n0 - 1) - 1))) (pk_sub (by omega)) ?_
    refine lv_istore (lv' := [(4, .int (nI (2 * (n0 - 1) - 1))), (0, .ref km), (1, .int (nI n0)), (2, .int (nI s1)), (3, .int (nI s2))]) hx hb dX10_same_65 hl (by decide) rfl (fun ls hl => ?_)
    refine lv_aload_n hx hb dX10_same_67 rfl (lv_at hl 1 rfl) ?_
    refine va_get (ci := 10) (v := .ref shs) (C := RX10) (T := TX10) (N := 8) hx hb hg inX10 hown hE.1 hP 0 rfl rfl 2 (by decide) (hg _ k1_218) (fun _ h9 => h9) rfl dX10_same_68 ?_
    refine lv_iload_n hx hb dX10_same_71 rfl (lv_at hl 3 rfl) ?_
    refine ck_aalds hx hb hE hP 1 1 rfl rfl (by omega) (by decide) hq1 dX10_same_72 ?_
    refine lv_iload hx hb dX10_same_73 (lv_at hl 0 rfl) ?_
    refine ck_Vi (As := [.int (nI (2 * (n0 - 1) - 1))]) (rest := []) (wr := [(km, .inr (10, [.ref sa, .ref hs, .ref shs, .ref ja, .ref uu, .ref tb, .ref ob, .int fd])), (shs, .inl (N.2 1, 4, .inr (.inr (.inr (.inr shf))))), (tb, .inr (9, [.ref tl, .ref tg, .int (nI tn)])), (tl, .inl (N.2 0, 5, .inl tlf)), (tg, .inl (N.2 0, 300, .inl tgf)), (ob, .inr (9, [.ref ol, .ref og, .int (nI on)])), (ol, .inl (N.2 0, 5, .inl olf)), (og, .inl (N.2 0, 300, .inl ogf)), (ja, .inr (3, [.ref jj, .int jn])), (jj, .inl (N.2 0, 180, .inl jl)), (q2, .inr (5, [.ref m2, .int (nI bt2), .int (nI ct2)])), (m2, .inl (N.2 0, 40, .inl nu2))]) C0 hP hD hS (c_X5_isWithin l N q1 m1 nu1 bt1 ct1 (2 * (n0 - 1) - 1) (by omega) (by omega)) myX5_isWithin k3_158 ⟨Nat.le_of_ble_eq_true rfl, Nat.le_of_ble_eq_true rfl⟩ [10, 11] [0, 1, 2, 3, 4, 5, 6, 7, 8, 9, 12, 13] ⟨⟨rfl, rfl⟩, by decide, by decide, by decide⟩ 10 rfl rfl rfl rfl hl.1 rfl (Nat.le_of_ble_eq_true rfl) dX10_same_75 ⟨Nat.le_of_ble_eq_true rfl, Nat.le_of_ble_eq_true rfl⟩ (fun r_22 u0 H locs hw0 hP hD hS => ?_)
    have hw_23 : r_22 = (b2i (ckWithin nu1 ct1 (2 * (n0 - 1) - 1))) := hw0
    subst hw_23
    have hP : va_P N.1 vwCl [(km, .inr (10, [.ref sa, .ref hs, .ref shs, .ref ja, .ref uu, .ref tb, .ref ob, .int fd])), (shs, .inl (N.2 1, 4, .inr (.inr (.inr (.inr shf))))), (tb, .inr (9, [.ref tl, .ref tg, .int (nI tn)])), (tl, .inl (N.2 0, 5, .inl tlf)), (tg, .inl (N.2 0, 300, .inl tgf)), (ob, .inr (9, [.ref ol, .ref og, .int (nI on)])), (ol, .inl (N.2 0, 5, .inl olf)), (og, .inl (N.2 0, 300, .inl ogf)), (ja, .inr (3, [.ref jj, .int jn])), (jj, .inl (N.2 0, 180, .inl jl)), (q2, .inr (5, [.ref m2, .int (nI bt2), .int (nI ct2)])), (m2, .inl (N.2 0, 40, .inl nu2)), (q1, .inr (5, [.ref m1, .int (nI bt1), .int (nI ct1)])), (m1, .inl (N.2 0, 40, .inl nu1))] H := hP
    have hD : va_D Ag [(km, .inr (10, [.ref sa, .ref hs, .ref shs, .ref ja, .ref uu, .ref tb, .ref ob, .int fd])), (shs, .inl (N.2 1, 4, .inr (.inr (.inr (.inr shf))))), (tb, .inr (9, [.ref tl, .ref tg, .int (nI tn)])), (tl, .inl (N.2 0, 5, .inl tlf)), (tg, .inl (N.2 0, 300, .inl tgf)), (ob, .inr (9, [.ref ol, .ref og, .int (nI on)])), (ol, .inl (N.2 0, 5, .inl olf)), (og, .inl (N.2 0, 300, .inl ogf)), (ja, .inr (3, [.ref jj, .int jn])), (jj, .inl (N.2 0, 180, .inl jl)), (q2, .inr (5, [.ref m2, .int (nI bt2), .int (nI ct2)])), (m2, .inl (N.2 0, 40, .inl nu2)), (q1, .inr (5, [.ref m1, .int (nI bt1), .int (nI ct1)])), (m1, .inl (N.2 0, 40, .inl nu1))] := hD
    refine ck_ifeq (b := ckWithin nu1 ct1 (2 * (n0 - 1) - 1)) (tgt := 95) hx hb dX10_same_78 (by decide) (fun cz_24 => ?_) (fun cz_24 => ?_)
    · refine lv_aload_n hx hb dX10_same_95 rfl (lv_at hl 1 rfl) ?_
      refine lv_ldc (own := RX10) (v := (-100001)) hx hb hown (hg _ k2_14) dX10_same_96 ?_
      refine ck_Vi (As := [.int (-100001)]) (rest := []) (wr := [(shs, .inl (N.2 1, 4, .inr (.inr (.inr (.inr shf))))), (tb, .inr (9, [.ref tl, .ref tg, .int (nI tn)])), (tl, .inl (N.2 0, 5, .inl tlf)), (tg, .inl (N.2 0, 300, .inl tgf)), (ob, .inr (9, [.ref ol, .ref og, .int (nI on)])), (ol, .inl (N.2 0, 5, .inl olf)), (og, .inl (N.2 0, 300, .inl ogf)), (ja, .inr (3, [.ref jj, .int jn])), (jj, .inl (N.2 0, 180, .inl jl)), (q2, .inr (5, [.ref m2, .int (nI bt2), .int (nI ct2)])), (m2, .inl (N.2 0, 40, .inl nu2)), (q1, .inr (5, [.ref m1, .int (nI bt1), .int (nI ct1)])), (m1, .inl (N.2 0, 40, .inl nu1))]) C0 hP hD hS (c_X10_finding l N km sa hs shs ja uu tb ob fd (-100001) ) myX10_finding k2_15 ⟨Nat.le_of_ble_eq_true rfl, Nat.le_of_ble_eq_true rfl⟩ [0] [1, 2, 3, 4, 5, 6, 7, 8, 9, 10, 11, 12, 13] ⟨⟨rfl, rfl⟩, by decide, by decide, by decide⟩ 0 rfl rfl rfl rfl hl.1 rfl (Nat.le_of_ble_eq_true rfl) dX10_same_98 ⟨Nat.le_of_ble_eq_true rfl, Nat.le_of_ble_eq_true rfl⟩ (fun r_25 u0 H locs hw0 hP hD hS => ?_)
      have hw_26 : r_25 = (-100001) := hw0
      subst hw_26
      have hP : va_P N.1 vwCl [(shs, .inl (N.2 1, 4, .inr (.inr (.inr (.inr shf))))), (tb, .inr (9, [.ref tl, .ref tg, .int (nI tn)])), (tl, .inl (N.2 0, 5, .inl tlf)), (tg, .inl (N.2 0, 300, .inl tgf)), (ob, .inr (9, [.ref ol, .ref og, .int (nI on)])), (ol, .inl (N.2 0, 5, .inl olf)), (og, .inl (N.2 0, 300, .inl ogf)), (ja, .inr (3, [.ref jj, .int jn])), (jj, .inl (N.2 0, 180, .inl jl)), (q2, .inr (5, [.ref m2, .int (nI bt2), .int (nI ct2)])), (m2, .inl (N.2 0, 40, .inl nu2)), (q1, .inr (5, [.ref m1, .int (nI bt1), .int (nI ct1)])), (m1, .inl (N.2 0, 40, .inl nu1)), (km, .inr (10, [.ref sa, .ref hs, .ref shs, .ref ja, .ref uu, .ref tb, .ref ob, .int (fd + nI 1)]))] H := hP
      have hD : va_D Ag [(shs, .inl (N.2 1, 4, .inr (.inr (.inr (.inr shf))))), (tb, .inr (9, [.ref tl, .ref tg, .int (nI tn)])), (tl, .inl (N.2 0, 5, .inl tlf)), (tg, .inl (N.2 0, 300, .inl tgf)), (ob, .inr (9, [.ref ol, .ref og, .int (nI on)])), (ol, .inl (N.2 0, 5, .inl olf)), (og, .inl (N.2 0, 300, .inl ogf)), (ja, .inr (3, [.ref jj, .int jn])), (jj, .inl (N.2 0, 180, .inl jl)), (q2, .inr (5, [.ref m2, .int (nI bt2), .int (nI ct2)])), (m2, .inl (N.2 0, 40, .inl nu2)), (q1, .inr (5, [.ref m1, .int (nI bt1), .int (nI ct1)])), (m1, .inl (N.2 0, 40, .inl nu1)), (km, .inr (10, [.ref sa, .ref hs, .ref shs, .ref ja, .ref uu, .ref tb, .ref ob, .int (fd + nI 1)]))] := hD
      exact ck_iret hx hb hrt hlk ⟨(fd + nI 1), tlf, tgf, tn, olf, ogf, on, jl, jn⟩ (ckRd_f (by simp [saF, saO, hx1, exn, hbza, hbzb, cz_24]) (by decide)) (hP.sub [13, 0, 11, 12, 9, 10, 1, 2, 3, 4, 5, 6, 7, 8] rfl) (hD.sub [13, 0, 11, 12, 9, 10, 1, 2, 3, 4, 5, 6, 7, 8] (by decide) rfl) hS ⟨Nat.le_of_ble_eq_true rfl, Nat.le_of_ble_eq_true rfl⟩ dX10_same_101
    refine lv_aload_n hx hb dX10_same_81 rfl (lv_at hl 1 rfl) ?_
    refine va_get (ci := 10) (v := .ref shs) (C := RX10) (T := TX10) (N := 8) hx hb hg inX10 hown hE.1 hP 0 rfl rfl 2 (by decide) (hg _ k1_218) (fun _ h9 => h9) rfl dX10_same_82 ?_
    refine lv_iload_n hx hb dX10_same_85 rfl (lv_at hl 4 rfl) ?_
    refine ck_aalds hx hb hE hP 1 1 rfl rfl (by omega) (by decide) hq2 dX10_same_86 ?_
    refine lv_iload hx hb dX10_same_87 (lv_at hl 0 rfl) ?_
    refine ck_Vi (As := [.int (nI (2 * (n0 - 1) - 1))]) (rest := []) (wr := [(km, .inr (10, [.ref sa, .ref hs, .ref shs, .ref ja, .ref uu, .ref tb, .ref ob, .int fd])), (shs, .inl (N.2 1, 4, .inr (.inr (.inr (.inr shf))))), (tb, .inr (9, [.ref tl, .ref tg, .int (nI tn)])), (tl, .inl (N.2 0, 5, .inl tlf)), (tg, .inl (N.2 0, 300, .inl tgf)), (ob, .inr (9, [.ref ol, .ref og, .int (nI on)])), (ol, .inl (N.2 0, 5, .inl olf)), (og, .inl (N.2 0, 300, .inl ogf)), (ja, .inr (3, [.ref jj, .int jn])), (jj, .inl (N.2 0, 180, .inl jl)), (q1, .inr (5, [.ref m1, .int (nI bt1), .int (nI ct1)])), (m1, .inl (N.2 0, 40, .inl nu1))]) C0 hP hD hS (c_X5_isWithin l N q2 m2 nu2 bt2 ct2 (2 * (n0 - 1) - 1) (by omega) (by omega)) myX5_isWithin k3_158 ⟨Nat.le_of_ble_eq_true rfl, Nat.le_of_ble_eq_true rfl⟩ [10, 11] [0, 1, 2, 3, 4, 5, 6, 7, 8, 9, 12, 13] ⟨⟨rfl, rfl⟩, by decide, by decide, by decide⟩ 10 rfl rfl rfl rfl hl.1 rfl (Nat.le_of_ble_eq_true rfl) dX10_same_89 ⟨Nat.le_of_ble_eq_true rfl, Nat.le_of_ble_eq_true rfl⟩ (fun r_27 u0 H locs hw0 hP hD hS => ?_)
    have hw_28 : r_27 = (b2i (ckWithin nu2 ct2 (2 * (n0 - 1) - 1))) := hw0
    subst hw_28
    have hP : va_P N.1 vwCl [(km, .inr (10, [.ref sa, .ref hs, .ref shs, .ref ja, .ref uu, .ref tb, .ref ob, .int fd])), (shs, .inl (N.2 1, 4, .inr (.inr (.inr (.inr shf))))), (tb, .inr (9, [.ref tl, .ref tg, .int (nI tn)])), (tl, .inl (N.2 0, 5, .inl tlf)), (tg, .inl (N.2 0, 300, .inl tgf)), (ob, .inr (9, [.ref ol, .ref og, .int (nI on)])), (ol, .inl (N.2 0, 5, .inl olf)), (og, .inl (N.2 0, 300, .inl ogf)), (ja, .inr (3, [.ref jj, .int jn])), (jj, .inl (N.2 0, 180, .inl jl)), (q1, .inr (5, [.ref m1, .int (nI bt1), .int (nI ct1)])), (m1, .inl (N.2 0, 40, .inl nu1)), (q2, .inr (5, [.ref m2, .int (nI bt2), .int (nI ct2)])), (m2, .inl (N.2 0, 40, .inl nu2))] H := hP
    have hD : va_D Ag [(km, .inr (10, [.ref sa, .ref hs, .ref shs, .ref ja, .ref uu, .ref tb, .ref ob, .int fd])), (shs, .inl (N.2 1, 4, .inr (.inr (.inr (.inr shf))))), (tb, .inr (9, [.ref tl, .ref tg, .int (nI tn)])), (tl, .inl (N.2 0, 5, .inl tlf)), (tg, .inl (N.2 0, 300, .inl tgf)), (ob, .inr (9, [.ref ol, .ref og, .int (nI on)])), (ol, .inl (N.2 0, 5, .inl olf)), (og, .inl (N.2 0, 300, .inl ogf)), (ja, .inr (3, [.ref jj, .int jn])), (jj, .inl (N.2 0, 180, .inl jl)), (q1, .inr (5, [.ref m1, .int (nI bt1), .int (nI ct1)])), (m1, .inl (N.2 0, 40, .inl nu1)), (q2, .inr (5, [.ref m2, .int (nI bt2), .int (nI ct2)])), (m2, .inl (N.2 0, 40, .inl nu2))] := hD
    refine ck_ifne (b := ckWithin nu2 ct2 (2 * (n0 - 1) - 1)) (tgt := 102) hx hb dX10_same_92 (by decide) (fun cz_29 => ?_) (fun cz_29 => ?_)
    · refine lv_aload_n hx hb dX10_same_102 rfl (lv_at hl 1 rfl) ?_
      refine lv_aload_n hx hb dX10_same_103 rfl (lv_at hl 1 rfl) ?_
      refine va_get (ci := 10) (v := .ref tb) (C := RX10) (T := TX10) (N := 8) hx hb hg inX10 hown hE.1 hP 0 rfl rfl 5 (by decide) (hg _ k1_221) (fun _ h9 => h9) rfl dX10_same_104 ?_
      refine lv_iload_n hx hb dX10_same_107 rfl (lv_at hl 2 rfl) ?_
      refine lv_aload_n hx hb dX10_same_108 rfl (lv_at hl 1 rfl) ?_
      refine va_get (ci := 10) (v := .ref shs) (C := RX10) (T := TX10) (N := 8) hx hb hg inX10 hown hE.1 hP 0 rfl rfl 2 (by decide) (hg _ k1_218) (fun _ h9 => h9) rfl dX10_same_109 ?_
      refine lv_iload_n hx hb dX10_same_112 rfl (lv_at hl 3 rfl) ?_
      refine ck_aalds hx hb hE hP 1 1 rfl rfl (by omega) (by decide) hq1 dX10_same_113 ?_
      refine ck_Vi (As := [.ref tb, .int (nI n0), .ref q1]) (rest := []) (wr := [(shs, .inl (N.2 1, 4, .inr (.inr (.inr (.inr shf))))), (ob, .inr (9, [.ref ol, .ref og, .int (nI on)])), (ol, .inl (N.2 0, 5, .inl olf)), (og, .inl (N.2 0, 300, .inl ogf)), (q2, .inr (5, [.ref m2, .int (nI bt2), .int (nI ct2)])), (m2, .inl (N.2 0, 40, .inl nu2))]) C0 hP hD hS (c_X10_follow l N km sa hs shs ja uu tb ob fd tb tl tg tlf tgf tn jj jl jn q1 m1 bt1 ct1 nu1 n0 (by omega) (by omega) (by omega) (within_ix (by omega) cz_24)) myX10_follow k3_162 ⟨Nat.le_of_ble_eq_true rfl, Nat.le_of_ble_eq_true rfl⟩ [0, 2, 3, 4, 8, 9, 10, 11] [1, 5, 6, 7, 12, 13] ⟨⟨rfl, rfl⟩, by decide, by decide, by decide⟩ 0 rfl rfl rfl rfl hl.1 rfl (Nat.le_of_ble_eq_true rfl) dX10_same_114 ⟨Nat.le_of_ble_eq_true rfl, Nat.le_of_ble_eq_true rfl⟩ (fun r_30 u0 H locs hw0 hP hD hS => ?_)
      obtain ⟨lf2_31, gf2_32, jl2_33, jn2_34⟩ := u0
      have hw_35 : (r_30 = (b2i ((folK nu1 ct1).isSome))) ∧ (∀ wz, folK nu1 ct1 = some wz → ckWd lf2_31 gf2_32 n0 wz) := hw0
      obtain ⟨hv_36, hw_35⟩ := hw_35
      subst hv_36
      have hP : va_P N.1 vwCl [(shs, .inl (N.2 1, 4, .inr (.inr (.inr (.inr shf))))), (ob, .inr (9, [.ref ol, .ref og, .int (nI on)])), (ol, .inl (N.2 0, 5, .inl olf)), (og, .inl (N.2 0, 300, .inl ogf)), (q2, .inr (5, [.ref m2, .int (nI bt2), .int (nI ct2)])), (m2, .inl (N.2 0, 40, .inl nu2)), (km, .inr (10, [.ref sa, .ref hs, .ref shs, .ref ja, .ref uu, .ref tb, .ref ob, .int fd])), (tb, .inr (9, [.ref tl, .ref tg, .int (nI n0)])), (tl, .inl (N.2 0, 5, .inl lf2_31)), (tg, .inl (N.2 0, 300, .inl gf2_32)), (ja, .inr (3, [.ref jj, .int jn2_34])), (jj, .inl (N.2 0, 180, .inl jl2_33)), (q1, .inr (5, [.ref m1, .int (nI bt1), .int (nI ct1)])), (m1, .inl (N.2 0, 40, .inl nu1))] H := hP
      have hD : va_D Ag [(shs, .inl (N.2 1, 4, .inr (.inr (.inr (.inr shf))))), (ob, .inr (9, [.ref ol, .ref og, .int (nI on)])), (ol, .inl (N.2 0, 5, .inl olf)), (og, .inl (N.2 0, 300, .inl ogf)), (q2, .inr (5, [.ref m2, .int (nI bt2), .int (nI ct2)])), (m2, .inl (N.2 0, 40, .inl nu2)), (km, .inr (10, [.ref sa, .ref hs, .ref shs, .ref ja, .ref uu, .ref tb, .ref ob, .int fd])), (tb, .inr (9, [.ref tl, .ref tg, .int (nI n0)])), (tl, .inl (N.2 0, 5, .inl lf2_31)), (tg, .inl (N.2 0, 300, .inl gf2_32)), (ja, .inr (3, [.ref jj, .int jn2_34])), (jj, .inl (N.2 0, 180, .inl jl2_33)), (q1, .inr (5, [.ref m1, .int (nI bt1), .int (nI ct1)])), (m1, .inl (N.2 0, 40, .inl nu1))] := hD
      have hfa := hw_35
      refine ck_ifeq (b := (folK nu1 ct1).isSome) (tgt := 138) hx hb dX10_same_117 (by decide) (fun cz_37 => ?_) (fun cz_37 => ?_)
      · refine lv_aload_n hx hb dX10_same_138 rfl (lv_at hl 1 rfl) ?_
        refine lv_ldc (own := RX10) (v := (-100005)) hx hb hown (hg _ k2_36) dX10_same_139 ?_
        refine ck_Vi (As := [.int (-100005)]) (rest := []) (wr := [(shs, .inl (N.2 1, 4, .inr (.inr (.inr (.inr shf))))), (ob, .inr (9, [.ref ol, .ref og, .int (nI on)])), (ol, .inl (N.2 0, 5, .inl olf)), (og, .inl (N.2 0, 300, .inl ogf)), (q2, .inr (5, [.ref m2, .int (nI bt2), .int (nI ct2)])), (m2, .inl (N.2 0, 40, .inl nu2)), (tb, .inr (9, [.ref tl, .ref tg, .int (nI n0)])), (tl, .inl (N.2 0, 5, .inl lf2_31)), (tg, .inl (N.2 0, 300, .inl gf2_32)), (ja, .inr (3, [.ref jj, .int jn2_34])), (jj, .inl (N.2 0, 180, .inl jl2_33)), (q1, .inr (5, [.ref m1, .int (nI bt1), .int (nI ct1)])), (m1, .inl (N.2 0, 40, .inl nu1))]) C0 hP hD hS (c_X10_finding l N km sa hs shs ja uu tb ob fd (-100005) ) myX10_finding k2_15 ⟨Nat.le_of_ble_eq_true rfl, Nat.le_of_ble_eq_true rfl⟩ [6] [0, 1, 2, 3, 4, 5, 7, 8, 9, 10, 11, 12, 13] ⟨⟨rfl, rfl⟩, by decide, by decide, by decide⟩ 6 rfl rfl rfl rfl hl.1 rfl (Nat.le_of_ble_eq_true rfl) dX10_same_141 ⟨Nat.le_of_ble_eq_true rfl, Nat.le_of_ble_eq_true rfl⟩ (fun r_38 u0 H locs hw0 hP hD hS => ?_)
        have hw_39 : r_38 = (-100005) := hw0
        subst hw_39
        have hP : va_P N.1 vwCl [(shs, .inl (N.2 1, 4, .inr (.inr (.inr (.inr shf))))), (ob, .inr (9, [.ref ol, .ref og, .int (nI on)])), (ol, .inl (N.2 0, 5, .inl olf)), (og, .inl (N.2 0, 300, .inl ogf)), (q2, .inr (5, [.ref m2, .int (nI bt2), .int (nI ct2)])), (m2, .inl (N.2 0, 40, .inl nu2)), (tb, .inr (9, [.ref tl, .ref tg, .int (nI n0)])), (tl, .inl (N.2 0, 5, .inl lf2_31)), (tg, .inl (N.2 0, 300, .inl gf2_32)), (ja, .inr (3, [.ref jj, .int jn2_34])), (jj, .inl (N.2 0, 180, .inl jl2_33)), (q1, .inr (5, [.ref m1, .int (nI bt1), .int (nI ct1)])), (m1, .inl (N.2 0, 40, .inl nu1)), (km, .inr (10, [.ref sa, .ref hs, .ref shs, .ref ja, .ref uu, .ref tb, .ref ob, .int (fd + nI 1)]))] H := hP
        have hD : va_D Ag [(shs, .inl (N.2 1, 4, .inr (.inr (.inr (.inr shf))))), (ob, .inr (9, [.ref ol, .ref og, .int (nI on)])), (ol, .inl (N.2 0, 5, .inl olf)), (og, .inl (N.2 0, 300, .inl ogf)), (q2, .inr (5, [.ref m2, .int (nI bt2), .int (nI ct2)])), (m2, .inl (N.2 0, 40, .inl nu2)), (tb, .inr (9, [.ref tl, .ref tg, .int (nI n0)])), (tl, .inl (N.2 0, 5, .inl lf2_31)), (tg, .inl (N.2 0, 300, .inl gf2_32)), (ja, .inr (3, [.ref jj, .int jn2_34])), (jj, .inl (N.2 0, 180, .inl jl2_33)), (q1, .inr (5, [.ref m1, .int (nI bt1), .int (nI ct1)])), (m1, .inl (N.2 0, 40, .inl nu1)), (km, .inr (10, [.ref sa, .ref hs, .ref shs, .ref ja, .ref uu, .ref tb, .ref ob, .int (fd + nI 1)]))] := hD
        exact ck_iret hx hb hrt hlk ⟨(fd + nI 1), lf2_31, gf2_32, n0, olf, ogf, on, jl2_33, jn2_34⟩ (ckRd_f (by simp [saF, saO, hx1, exn, hbza, hbzb, cz_24, cz_29, cz_37]) (by decide)) (hP.sub [13, 0, 11, 12, 4, 5, 6, 7, 8, 1, 2, 3, 9, 10] rfl) (hD.sub [13, 0, 11, 12, 4, 5, 6, 7, 8, 1, 2, 3, 9, 10] (by decide) rfl) hS ⟨Nat.le_of_ble_eq_true rfl, Nat.le_of_ble_eq_true rfl⟩ dX10_same_144
      refine lv_aload_n hx hb dX10_same_120 rfl (lv_at hl 1 rfl) ?_
      refine lv_aload_n hx hb dX10_same_121 rfl (lv_at hl 1 rfl) ?_
      refine va_get (ci := 10) (v := .ref ob) (C := RX10) (T := TX10) (N := 8) hx hb hg inX10 hown hE.1 hP 6 rfl rfl 6 (by decide) (hg _ k1_222) (fun _ h9 => h9) rfl dX10_same_122 ?_
      refine lv_iload_n hx hb dX10_same_125 rfl (lv_at hl 2 rfl) ?_
      refine lv_aload_n hx hb dX10_same_126 rfl (lv_at hl 1 rfl) ?_
      refine va_get (ci := 10) (v := .ref shs) (C := RX10) (T := TX10) (N := 8) hx hb hg inX10 hown hE.1 hP 6 rfl rfl 2 (by decide) (hg _ k1_218) (fun _ h9 => h9) rfl dX10_same_127 ?_
      refine lv_iload_n hx hb dX10_same_130 rfl (lv_at hl 4 rfl) ?_
      refine ck_aalds hx hb hE hP 0 1 rfl rfl (by omega) (by decide) hq2 dX10_same_131 ?_
      refine ck_Vi (As := [.ref ob, .int (nI n0), .ref q2]) (rest := []) (wr := [(shs, .inl (N.2 1, 4, .inr (.inr (.inr (.inr shf))))), (tb, .inr (9, [.ref tl, .ref tg, .int (nI n0)])), (tl, .inl (N.2 0, 5, .inl lf2_31)), (tg, .inl (N.2 0, 300, .inl gf2_32)), (q1, .inr (5, [.ref m1, .int (nI bt1), .int (nI ct1)])), (m1, .inl (N.2 0, 40, .inl nu1))]) C0 hP hD hS (c_X10_follow l N km sa hs shs ja uu tb ob fd ob ol og olf ogf on jj jl2_33 jn2_34 q2 m2 bt2 ct2 nu2 n0 (by omega) (by omega) (by omega) (within_ix (by omega) cz_29)) myX10_follow k3_162 ⟨Nat.le_of_ble_eq_true rfl, Nat.le_of_ble_eq_true rfl⟩ [6, 1, 2, 3, 10, 11, 4, 5] [0, 7, 8, 9, 12, 13] ⟨⟨rfl, rfl⟩, by decide, by decide, by decide⟩ 6 rfl rfl rfl rfl hl.1 rfl (Nat.le_of_ble_eq_true rfl) dX10_same_132 ⟨Nat.le_of_ble_eq_true rfl, Nat.le_of_ble_eq_true rfl⟩ (fun r_40 u0 H locs hw0 hP hD hS => ?_)
      obtain ⟨lf2_41, gf2_42, jl2_43, jn2_44⟩ := u0
      have hw_45 : (r_40 = (b2i ((folK nu2 ct2).isSome))) ∧ (∀ wz, folK nu2 ct2 = some wz → ckWd lf2_41 gf2_42 n0 wz) := hw0
      obtain ⟨hv_46, hw_45⟩ := hw_45
      subst hv_46
      have hP : va_P N.1 vwCl [(shs, .inl (N.2 1, 4, .inr (.inr (.inr (.inr shf))))), (tb, .inr (9, [.ref tl, .ref tg, .int (nI n0)])), (tl, .inl (N.2 0, 5, .inl lf2_31)), (tg, .inl (N.2 0, 300, .inl gf2_32)), (q1, .inr (5, [.ref m1, .int (nI bt1), .int (nI ct1)])), (m1, .inl (N.2 0, 40, .inl nu1)), (km, .inr (10, [.ref sa, .ref hs, .ref shs, .ref ja, .ref uu, .ref tb, .ref ob, .int fd])), (ob, .inr (9, [.ref ol, .ref og, .int (nI n0)])), (ol, .inl (N.2 0, 5, .inl lf2_41)), (og, .inl (N.2 0, 300, .inl gf2_42)), (ja, .inr (3, [.ref jj, .int jn2_44])), (jj, .inl (N.2 0, 180, .inl jl2_43)), (q2, .inr (5, [.ref m2, .int (nI bt2), .int (nI ct2)])), (m2, .inl (N.2 0, 40, .inl nu2))] H := hP
      have hD : va_D Ag [(shs, .inl (N.2 1, 4, .inr (.inr (.inr (.inr shf))))), (tb, .inr (9, [.ref tl, .ref tg, .int (nI n0)])), (tl, .inl (N.2 0, 5, .inl lf2_31)), (tg, .inl (N.2 0, 300, .inl gf2_32)), (q1, .inr (5, [.ref m1, .int (nI bt1), .int (nI ct1)])), (m1, .inl (N.2 0, 40, .inl nu1)), (km, .inr (10, [.ref sa, .ref hs, .ref shs, .ref ja, .ref uu, .ref tb, .ref ob, .int fd])), (ob, .inr (9, [.ref ol, .ref og, .int (nI n0)])), (ol, .inl (N.2 0, 5, .inl lf2_41)), (og, .inl (N.2 0, 300, .inl gf2_42)), (ja, .inr (3, [.ref jj, .int jn2_44])), (jj, .inl (N.2 0, 180, .inl jl2_43)), (q2, .inr (5, [.ref m2, .int (nI bt2), .int (nI ct2)])), (m2, .inl (N.2 0, 40, .inl nu2))] := hD
      have hfb := hw_45
      refine ck_ifne (b := (folK nu2 ct2).isSome) (tgt := 145) hx hb dX10_same_135 (by decide) (fun cz_47 => ?_) (fun cz_47 => ?_)
      · obtain ⟨ua, hua⟩ := Option.isSome_iff_exists.mp cz_37
        obtain ⟨ub, hub⟩ := Option.isSome_iff_exists.mp cz_47
        refine lv_aload_n hx hb dX10_same_145 rfl (lv_at hl 1 rfl) ?_
        refine va_get (ci := 10) (v := .ref tb) (C := RX10) (T := TX10) (N := 8) hx hb hg inX10 hown hE.1 hP 6 rfl rfl 5 (by decide) (hg _ k1_221) (fun _ h9 => h9) rfl dX10_same_146 ?_
        refine lv_aload_n hx hb dX10_same_149 rfl (lv_at hl 1 rfl) ?_
        refine va_get (ci := 10) (v := .ref ob) (C := RX10) (T := TX10) (N := 8) hx hb hg inX10 hown hE.1 hP 6 rfl rfl 6 (by decide) (hg _ k1_222) (fun _ h9 => h9) rfl dX10_same_150 ?_
        refine ck_Vi (As := [.ref ob]) (rest := []) (wr := [(shs, .inl (N.2 1, 4, .inr (.inr (.inr (.inr shf))))), (q1, .inr (5, [.ref m1, .int (nI bt1), .int (nI ct1)])), (m1, .inl (N.2 0, 40, .inl nu1)), (km, .inr (10, [.ref sa, .ref hs, .ref shs, .ref ja, .ref uu, .ref tb, .ref ob, .int fd])), (ja, .inr (3, [.ref jj, .int jn2_44])), (jj, .inl (N.2 0, 180, .inl jl2_43)), (q2, .inr (5, [.ref m2, .int (nI bt2), .int (nI ct2)])), (m2, .inl (N.2 0, 40, .inl nu2))]) C0 hP hD hS (c_X9_areThoseOf l N tb tl tg lf2_31 gf2_32 n0 ob ol og lf2_41 gf2_42 n0 ua ub (hfa ua hua) (hfb ub hub) (by omega) (by omega)) myX9_areThoseOf k3_170 ⟨Nat.le_of_ble_eq_true rfl, Nat.le_of_ble_eq_true rfl⟩ [1, 2, 3, 7, 8, 9] [0, 4, 5, 6, 10, 11, 12, 13] ⟨⟨rfl, rfl⟩, by decide, by decide, by decide⟩ 1 rfl rfl rfl rfl hl.1 rfl (Nat.le_of_ble_eq_true rfl) dX10_same_153 ⟨Nat.le_of_ble_eq_true rfl, Nat.le_of_ble_eq_true rfl⟩ (fun r_48 u0 H locs hw0 hP hD hS => ?_)
        have hw_49 : r_48 = (b2i (decide (∀ q, q < n0 → ua q = ub q))) := hw0
        subst hw_49
        have hP : va_P N.1 vwCl [(shs, .inl (N.2 1, 4, .inr (.inr (.inr (.inr shf))))), (q1, .inr (5, [.ref m1, .int (nI bt1), .int (nI ct1)])), (m1, .inl (N.2 0, 40, .inl nu1)), (km, .inr (10, [.ref sa, .ref hs, .ref shs, .ref ja, .ref uu, .ref tb, .ref ob, .int fd])), (ja, .inr (3, [.ref jj, .int jn2_44])), (jj, .inl (N.2 0, 180, .inl jl2_43)), (q2, .inr (5, [.ref m2, .int (nI bt2), .int (nI ct2)])), (m2, .inl (N.2 0, 40, .inl nu2)), (tb, .inr (9, [.ref tl, .ref tg, .int (nI n0)])), (tl, .inl (N.2 0, 5, .inl lf2_31)), (tg, .inl (N.2 0, 300, .inl gf2_32)), (ob, .inr (9, [.ref ol, .ref og, .int (nI n0)])), (ol, .inl (N.2 0, 5, .inl lf2_41)), (og, .inl (N.2 0, 300, .inl gf2_42))] H := hP
        have hD : va_D Ag [(shs, .inl (N.2 1, 4, .inr (.inr (.inr (.inr shf))))), (q1, .inr (5, [.ref m1, .int (nI bt1), .int (nI ct1)])), (m1, .inl (N.2 0, 40, .inl nu1)), (km, .inr (10, [.ref sa, .ref hs, .ref shs, .ref ja, .ref uu, .ref tb, .ref ob, .int fd])), (ja, .inr (3, [.ref jj, .int jn2_44])), (jj, .inl (N.2 0, 180, .inl jl2_43)), (q2, .inr (5, [.ref m2, .int (nI bt2), .int (nI ct2)])), (m2, .inl (N.2 0, 40, .inl nu2)), (tb, .inr (9, [.ref tl, .ref tg, .int (nI n0)])), (tl, .inl (N.2 0, 5, .inl lf2_31)), (tg, .inl (N.2 0, 300, .inl gf2_32)), (ob, .inr (9, [.ref ol, .ref og, .int (nI n0)])), (ol, .inl (N.2 0, 5, .inl lf2_41)), (og, .inl (N.2 0, 300, .inl gf2_42))] := hD
        refine ck_Si (As := [.int (b2i (decide (∀ q, q < n0 → ua q = ub q)))]) (rest := []) (wr := [(shs, .inl (N.2 1, 4, .inr (.inr (.inr (.inr shf))))), (q1, .inr (5, [.ref m1, .int (nI bt1), .int (nI ct1)])), (m1, .inl (N.2 0, 40, .inl nu1)), (km, .inr (10, [.ref sa, .ref hs, .ref shs, .ref ja, .ref uu, .ref tb, .ref ob, .int fd])), (ja, .inr (3, [.ref jj, .int jn2_44])), (jj, .inl (N.2 0, 180, .inl jl2_43)), (q2, .inr (5, [.ref m2, .int (nI bt2), .int (nI ct2)])), (m2, .inl (N.2 0, 40, .inl nu2)), (tb, .inr (9, [.ref tl, .ref tg, .int (nI n0)])), (tl, .inl (N.2 0, 5, .inl lf2_31)), (tg, .inl (N.2 0, 300, .inl gf2_32)), (ob, .inr (9, [.ref ol, .ref og, .int (nI n0)])), (ol, .inl (N.2 0, 5, .inl lf2_41)), (og, .inl (N.2 0, 300, .inl gf2_42))]) C0 hP hD hS (c_X10_oneIf l N (decide (∀ q, q < n0 → ua q = ub q)) ) myX10_oneIf k2_175 ⟨Nat.le_of_ble_eq_true rfl, Nat.le_of_ble_eq_true rfl⟩ [] [0, 1, 2, 3, 4, 5, 6, 7, 8, 9, 10, 11, 12, 13] ⟨⟨rfl, rfl⟩, by decide, by decide, by decide⟩ rfl hl.1 rfl (Nat.le_of_ble_eq_true rfl) dX10_same_156 ⟨Nat.le_of_ble_eq_true rfl, Nat.le_of_ble_eq_true rfl⟩ (fun r_50 u0 H locs hw0 hP hD hS => ?_)
        have hw_51 : r_50 = (b2i (decide (∀ q, q < n0 → ua q = ub q))) := hw0
        subst hw_51
        have hP : va_P N.1 vwCl [(shs, .inl (N.2 1, 4, .inr (.inr (.inr (.inr shf))))), (q1, .inr (5, [.ref m1, .int (nI bt1), .int (nI ct1)])), (m1, .inl (N.2 0, 40, .inl nu1)), (km, .inr (10, [.ref sa, .ref hs, .ref shs, .ref ja, .ref uu, .ref tb, .ref ob, .int fd])), (ja, .inr (3, [.ref jj, .int jn2_44])), (jj, .inl (N.2 0, 180, .inl jl2_43)), (q2, .inr (5, [.ref m2, .int (nI bt2), .int (nI ct2)])), (m2, .inl (N.2 0, 40, .inl nu2)), (tb, .inr (9, [.ref tl, .ref tg, .int (nI n0)])), (tl, .inl (N.2 0, 5, .inl lf2_31)), (tg, .inl (N.2 0, 300, .inl gf2_32)), (ob, .inr (9, [.ref ol, .ref og, .int (nI n0)])), (ol, .inl (N.2 0, 5, .inl lf2_41)), (og, .inl (N.2 0, 300, .inl gf2_42))] H := hP
        have hD : va_D Ag [(shs, .inl (N.2 1, 4, .inr (.inr (.inr (.inr shf))))), (q1, .inr (5, [.ref m1, .int (nI bt1), .int (nI ct1)])), (m1, .inl (N.2 0, 40, .inl nu1)), (km, .inr (10, [.ref sa, .ref hs, .ref shs, .ref ja, .ref uu, .ref tb, .ref ob, .int fd])), (ja, .inr (3, [.ref jj, .int jn2_44])), (jj, .inl (N.2 0, 180, .inl jl2_43)), (q2, .inr (5, [.ref m2, .int (nI bt2), .int (nI ct2)])), (m2, .inl (N.2 0, 40, .inl nu2)), (tb, .inr (9, [.ref tl, .ref tg, .int (nI n0)])), (tl, .inl (N.2 0, 5, .inl lf2_31)), (tg, .inl (N.2 0, 300, .inl gf2_32)), (ob, .inr (9, [.ref ol, .ref og, .int (nI n0)])), (ol, .inl (N.2 0, 5, .inl lf2_41)), (og, .inl (N.2 0, 300, .inl gf2_42))] := hD
        exact ck_iret hx hb hrt hlk ⟨fd, lf2_31, gf2_32, n0, lf2_41, gf2_42, n0, jl2_43, jn2_44⟩ (ckRd_ok (by simp [saF, saO, hx1, exn, hbza, hbzb, cz_24, cz_29, cz_37, cz_47]) (by rw [saR, exn, hua, hub]; rfl)) (hP.sub [3, 0, 1, 2, 6, 7, 8, 9, 10, 11, 12, 13, 4, 5] rfl) (hD.sub [3, 0, 1, 2, 6, 7, 8, 9, 10, 11, 12, 13, 4, 5] (by decide) rfl) hS ⟨Nat.le_of_ble_eq_true rfl, Nat.le_of_ble_eq_true rfl⟩ dX10_same_159
      refine lv_aload_n hx hb dX10_same_138 rfl (lv_at hl 1 rfl) ?_
      refine lv_ldc (own := RX10) (v := (-100005)) hx hb hown (hg _ k2_36) dX10_same_139 ?_
      refine ck_Vi (As := [.int (-100005)]) (rest := []) (wr := [(shs, .inl (N.2 1, 4, .inr (.inr (.inr (.inr shf))))), (tb, .inr (9, [.ref tl, .ref tg, .int (nI n0)])), (tl, .inl (N.2 0, 5, .inl lf2_31)), (tg, .inl (N.2 0, 300, .inl gf2_32)), (q1, .inr (5, [.ref m1, .int (nI bt1), .int (nI ct1)])), (m1, .inl (N.2 0, 40, .inl nu1)), (ob, .inr (9, [.ref ol, .ref og, .int (nI n0)])), (ol, .inl (N.2 0, 5, .inl lf2_41)), (og, .inl (N.2 0, 300, .inl gf2_42)), (ja, .inr (3, [.ref jj, .int jn2_44])), (jj, .inl (N.2 0, 180, .inl jl2_43)), (q2, .inr (5, [.ref m2, .int (nI bt2), .int (nI ct2)])), (m2, .inl (N.2 0, 40, .inl nu2))]) C0 hP hD hS (c_X10_finding l N km sa hs shs ja uu tb ob fd (-100005) ) myX10_finding k2_15 ⟨Nat.le_of_ble_eq_true rfl, Nat.le_of_ble_eq_true rfl⟩ [6] [0, 1, 2, 3, 4, 5, 7, 8, 9, 10, 11, 12, 13] ⟨⟨rfl, rfl⟩, by decide, by decide, by decide⟩ 6 rfl rfl rfl rfl hl.1 rfl (Nat.le_of_ble_eq_true rfl) dX10_same_141 ⟨Nat.le_of_ble_eq_true rfl, Nat.le_of_ble_eq_true rfl⟩ (fun r_52 u0 H locs hw0 hP hD hS => ?_)
      have hw_53 : r_52 = (-100005) := hw0
      subst hw_53
      have hP : va_P N.1 vwCl [(shs, .inl (N.2 1, 4, .inr (.inr (.inr (.inr shf))))), (tb, .inr (9, [.ref tl, .ref tg, .int (nI n0)])), (tl, .inl (N.2 0, 5, .inl lf2_31)), (tg, .inl (N.2 0, 300, .inl gf2_32)), (q1, .inr (5, [.ref m1, .int (nI bt1), .int (nI ct1)])), (m1, .inl (N.2 0, 40, .inl nu1)), (ob, .inr (9, [.ref ol, .ref og, .int (nI n0)])), (ol, .inl (N.2 0, 5, .inl lf2_41)), (og, .inl (N.2 0, 300, .inl gf2_42)), (ja, .inr (3, [.ref jj, .int jn2_44])), (jj, .inl (N.2 0, 180, .inl jl2_43)), (q2, .inr (5, [.ref m2, .int (nI bt2), .int (nI ct2)])), (m2, .inl (N.2 0, 40, .inl nu2)), (km, .inr (10, [.ref sa, .ref hs, .ref shs, .ref ja, .ref uu, .ref tb, .ref ob, .int (fd + nI 1)]))] H := hP
      have hD : va_D Ag [(shs, .inl (N.2 1, 4, .inr (.inr (.inr (.inr shf))))), (tb, .inr (9, [.ref tl, .ref tg, .int (nI n0)])), (tl, .inl (N.2 0, 5, .inl lf2_31)), (tg, .inl (N.2 0, 300, .inl gf2_32)), (q1, .inr (5, [.ref m1, .int (nI bt1), .int (nI ct1)])), (m1, .inl (N.2 0, 40, .inl nu1)), (ob, .inr (9, [.ref ol, .ref og, .int (nI n0)])), (ol, .inl (N.2 0, 5, .inl lf2_41)), (og, .inl (N.2 0, 300, .inl gf2_42)), (ja, .inr (3, [.ref jj, .int jn2_44])), (jj, .inl (N.2 0, 180, .inl jl2_43)), (q2, .inr (5, [.ref m2, .int (nI bt2), .int (nI ct2)])), (m2, .inl (N.2 0, 40, .inl nu2)), (km, .inr (10, [.ref sa, .ref hs, .ref shs, .ref ja, .ref uu, .ref tb, .ref ob, .int (fd + nI 1)]))] := hD
      exact ck_iret hx hb hrt hlk ⟨(fd + nI 1), lf2_31, gf2_32, n0, lf2_41, gf2_42, n0, jl2_43, jn2_44⟩ (ckRd_f (by simp [saF, saO, hx1, exn, hbza, hbzb, cz_24, cz_29, cz_37, cz_47]) (by decide)) (hP.sub [13, 0, 4, 5, 11, 12, 1, 2, 3, 6, 7, 8, 9, 10] rfl) (hD.sub [13, 0, 4, 5, 11, 12, 1, 2, 3, 6, 7, 8, 9, 10] (by decide) rfl) hS ⟨Nat.le_of_ble_eq_true rfl, Nat.le_of_ble_eq_true rfl⟩ dX10_same_144
    refine lv_aload_n hx hb dX10_same_95 rfl (lv_at hl 1 rfl) ?_
    refine lv_ldc (own := RX10) (v := (-100001)) hx hb hown (hg _ k2_14) dX10_same_96 ?_
    refine ck_Vi (As := [.int (-100001)]) (rest := []) (wr := [(shs, .inl (N.2 1, 4, .inr (.inr (.inr (.inr shf))))), (tb, .inr (9, [.ref tl, .ref tg, .int (nI tn)])), (tl, .inl (N.2 0, 5, .inl tlf)), (tg, .inl (N.2 0, 300, .inl tgf)), (ob, .inr (9, [.ref ol, .ref og, .int (nI on)])), (ol, .inl (N.2 0, 5, .inl olf)), (og, .inl (N.2 0, 300, .inl ogf)), (ja, .inr (3, [.ref jj, .int jn])), (jj, .inl (N.2 0, 180, .inl jl)), (q1, .inr (5, [.ref m1, .int (nI bt1), .int (nI ct1)])), (m1, .inl (N.2 0, 40, .inl nu1)), (q2, .inr (5, [.ref m2, .int (nI bt2), .int (nI ct2)])), (m2, .inl (N.2 0, 40, .inl nu2))]) C0 hP hD hS (c_X10_finding l N km sa hs shs ja uu tb ob fd (-100001) ) myX10_finding k2_15 ⟨Nat.le_of_ble_eq_true rfl, Nat.le_of_ble_eq_true rfl⟩ [0] [1, 2, 3, 4, 5, 6, 7, 8, 9, 10, 11, 12, 13] ⟨⟨rfl, rfl⟩, by decide, by decide, by decide⟩ 0 rfl rfl rfl rfl hl.1 rfl (Nat.le_of_ble_eq_true rfl) dX10_same_98 ⟨Nat.le_of_ble_eq_true rfl, Nat.le_of_ble_eq_true rfl⟩ (fun r_54 u0 H locs hw0 hP hD hS => ?_)
    have hw_55 : r_54 = (-100001) := hw0
    subst hw_55
    have hP : va_P N.1 vwCl [(shs, .inl (N.2 1, 4, .inr (.inr (.inr (.inr shf))))), (tb, .inr (9, [.ref tl, .ref tg, .int (nI tn)])), (tl, .inl (N.2 0, 5, .inl tlf)), (tg, .inl (N.2 0, 300, .inl tgf)), (ob, .inr (9, [.ref ol, .ref og, .int (nI on)])), (ol, .inl (N.2 0, 5, .inl olf)), (og, .inl (N.2 0, 300, .inl ogf)), (ja, .inr (3, [.ref jj, .int jn])), (jj, .inl (N.2 0, 180, .inl jl)), (q1, .inr (5, [.ref m1, .int (nI bt1), .int (nI ct1)])), (m1, .inl (N.2 0, 40, .inl nu1)), (q2, .inr (5, [.ref m2, .int (nI bt2), .int (nI ct2)])), (m2, .inl (N.2 0, 40, .inl nu2)), (km, .inr (10, [.ref sa, .ref hs, .ref shs, .ref ja, .ref uu, .ref tb, .ref ob, .int (fd + nI 1)]))] H := hP
    have hD : va_D Ag [(shs, .inl (N.2 1, 4, .inr (.inr (.inr (.inr shf))))), (tb, .inr (9, [.ref tl, .ref tg, .int (nI tn)])), (tl, .inl (N.2 0, 5, .inl tlf)), (tg, .inl (N.2 0, 300, .inl tgf)), (ob, .inr (9, [.ref ol, .ref og, .int (nI on)])), (ol, .inl (N.2 0, 5, .inl olf)), (og, .inl (N.2 0, 300, .inl ogf)), (ja, .inr (3, [.ref jj, .int jn])), (jj, .inl (N.2 0, 180, .inl jl)), (q1, .inr (5, [.ref m1, .int (nI bt1), .int (nI ct1)])), (m1, .inl (N.2 0, 40, .inl nu1)), (q2, .inr (5, [.ref m2, .int (nI bt2), .int (nI ct2)])), (m2, .inl (N.2 0, 40, .inl nu2)), (km, .inr (10, [.ref sa, .ref hs, .ref shs, .ref ja, .ref uu, .ref tb, .ref ob, .int (fd + nI 1)]))] := hD
    exact ck_iret hx hb hrt hlk ⟨(fd + nI 1), tlf, tgf, tn, olf, ogf, on, jl, jn⟩ (ckRd_f (by simp [saF, saO, hx1, exn, hbza, hbzb, cz_24, cz_29]) (by decide)) (hP.sub [13, 0, 9, 10, 11, 12, 1, 2, 3, 4, 5, 6, 7, 8] rfl) (hD.sub [13, 0, 9, 10, 11, 12, 1, 2, 3, 4, 5, 6, 7, 8] (by decide) rfl) hS ⟨Nat.le_of_ble_eq_true rfl, Nat.le_of_ble_eq_true rfl⟩ dX10_same_101
  have hbzb := of_decide_eq_true cz_19
  refine lv_aload_n hx hb dX10_same_52 rfl (lv_at hl 0 rfl) ?_
  refine lv_ldc (own := RX10) (v := (-100002)) hx hb hown (hg _ k3_156) dX10_same_53 ?_
  refine ck_Vi (As := [.int (-100002)]) (rest := []) (wr := [(shs, .inl (N.2 1, 4, .inr (.inr (.inr (.inr shf))))), (tb, .inr (9, [.ref tl, .ref tg, .int (nI tn)])), (tl, .inl (N.2 0, 5, .inl tlf)), (tg, .inl (N.2 0, 300, .inl tgf)), (ob, .inr (9, [.ref ol, .ref og, .int (nI on)])), (ol, .inl (N.2 0, 5, .inl olf)), (og, .inl (N.2 0, 300, .inl ogf)), (ja, .inr (3, [.ref jj, .int jn])), (jj, .inl (N.2 0, 180, .inl jl)), (q1, .inr (5, [.ref m1, .int (nI bt1), .int (nI ct1)])), (m1, .inl (N.2 0, 40, .inl nu1)), (q2, .inr (5, [.ref m2, .int (nI bt2), .int (nI ct2)])), (m2, .inl (N.2 0, 40, .inl nu2))]) C0 hP hD hS (c_X10_finding l N km sa hs shs ja uu tb ob fd (-100002) ) myX10_finding k2_15 ⟨Nat.le_of_ble_eq_true rfl, Nat.le_of_ble_eq_true rfl⟩ [0] [1, 2, 3, 4, 5, 6, 7, 8, 9, 10, 11, 12, 13] ⟨⟨rfl, rfl⟩, by decide, by decide, by decide⟩ 0 rfl rfl rfl rfl hl.1 rfl (Nat.le_of_ble_eq_true rfl) dX10_same_55 ⟨Nat.le_of_ble_eq_true rfl, Nat.le_of_ble_eq_true rfl⟩ (fun r_56 u0 H locs hw0 hP hD hS => ?_)
  have hw_57 : r_56 = (-100002) := hw0
  subst hw_57
  have hP : va_P N.1 vwCl [(shs, .inl (N.2 1, 4, .inr (.inr (.inr (.inr shf))))), (tb, .inr (9, [.ref tl, .ref tg, .int (nI tn)])), (tl, .inl (N.2 0, 5, .inl tlf)), (tg, .inl (N.2 0, 300, .inl tgf)), (ob, .inr (9, [.ref ol, .ref og, .int (nI on)])), (ol, .inl (N.2 0, 5, .inl olf)), (og, .inl (N.2 0, 300, .inl ogf)), (ja, .inr (3, [.ref jj, .int jn])), (jj, .inl (N.2 0, 180, .inl jl)), (q1, .inr (5, [.ref m1, .int (nI bt1), .int (nI ct1)])), (m1, .inl (N.2 0, 40, .inl nu1)), (q2, .inr (5, [.ref m2, .int (nI bt2), .int (nI ct2)])), (m2, .inl (N.2 0, 40, .inl nu2)), (km, .inr (10, [.ref sa, .ref hs, .ref shs, .ref ja, .ref uu, .ref tb, .ref ob, .int (fd + nI 1)]))] H := hP
  have hD : va_D Ag [(shs, .inl (N.2 1, 4, .inr (.inr (.inr (.inr shf))))), (tb, .inr (9, [.ref tl, .ref tg, .int (nI tn)])), (tl, .inl (N.2 0, 5, .inl tlf)), (tg, .inl (N.2 0, 300, .inl tgf)), (ob, .inr (9, [.ref ol, .ref og, .int (nI on)])), (ol, .inl (N.2 0, 5, .inl olf)), (og, .inl (N.2 0, 300, .inl ogf)), (ja, .inr (3, [.ref jj, .int jn])), (jj, .inl (N.2 0, 180, .inl jl)), (q1, .inr (5, [.ref m1, .int (nI bt1), .int (nI ct1)])), (m1, .inl (N.2 0, 40, .inl nu1)), (q2, .inr (5, [.ref m2, .int (nI bt2), .int (nI ct2)])), (m2, .inl (N.2 0, 40, .inl nu2)), (km, .inr (10, [.ref sa, .ref hs, .ref shs, .ref ja, .ref uu, .ref tb, .ref ob, .int (fd + nI 1)]))] := hD
  exact ck_iret hx hb hrt hlk ⟨(fd + nI 1), tlf, tgf, tn, olf, ogf, on, jl, jn⟩ (ckRd_f (by simp [saF, saO, hx1, exn, hbza, hbzb]) (by decide)) (hP.sub [13, 0, 9, 10, 11, 12, 1, 2, 3, 4, 5, 6, 7, 8] rfl) (hD.sub [13, 0, 9, 10, 11, 12, 1, 2, 3, 4, 5, 6, 7, 8] (by decide) rfl) hS ⟨Nat.le_of_ble_eq_true rfl, Nat.le_of_ble_eq_true rfl⟩ dX10_same_58
set_option maxHeartbeats 4000000 in
set_option maxRecDepth 100000 in
/-- X10_same -/
theorem c_X10_same_e (l : Launch) (N : ckN) (km : Nat) (sa : Nat) (hs : Nat) (shs : Nat) (ja : Nat) (uu : Nat) (tb : Nat) (ob : Nat) (fd : Int32) (shf : Nat → Option Nat) (s1 : Nat) (q1 : Nat) (m1 : Nat) (bt1 : Nat) (ct1 : Nat) (nu1 : Nat → Int32) (tl : Nat) (tg : Nat) (tlf : Nat → Int32) (tgf : Nat → Int32) (tn : Nat) (ol : Nat) (og : Nat) (olf : Nat → Int32) (ogf : Nat → Int32) (on : Nat) (jj : Nat) (jl : Nat → Int32) (jn : Int32) (x : Int32) (hs1 : s1 < 4) (hq1 : shf s1 = some q1) (hc1 : ct1 ≤ 40) (hb1 : bt1 < 2 ^ 31) : ckI l yX10_same cX10_same 5 (some FieldType.int) { frames := 8, cells := 0, slots := 0, locals := 194 } N [.ref km, .int x, .int (nI s1), .int (nI s1)] [(km, .inr (10, [.ref sa, .ref hs, .ref shs, .ref ja, .ref uu, .ref tb, .ref ob, .int fd])), (shs, .inl (N.2 1, 4, .inr (.inr (.inr (.inr shf))))), (q1, .inr (5, [.ref m1, .int (nI bt1), .int (nI ct1)])), (m1, .inl (N.2 0, 40, .inl nu1)), (tb, .inr (9, [.ref tl, .ref tg, .int (nI tn)])), (tl, .inl (N.2 0, 5, .inl tlf)), (tg, .inl (N.2 0, 300, .inl tgf)), (ob, .inr (9, [.ref ol, .ref og, .int (nI on)])), (ol, .inl (N.2 0, 5, .inl olf)), (og, .inl (N.2 0, 300, .inl ogf)), (ja, .inr (3, [.ref jj, .int jn])), (jj, .inl (N.2 0, 180, .inl jl))] (fun (r : Int32) (u : Int32 × (Nat → Int32) × (Nat → Int32) × Nat × (Nat → Int32) × (Nat → Int32) × Nat × (Nat → Int32) × Int32) => ckRd (saF bt1 bt1 ct1 ct1 nu1 nu1 x) (saR ct1 ct1 nu1 nu1 x) fd r u.1) (fun (u : Int32 × (Nat → Int32) × (Nat → Int32) × Nat × (Nat → Int32) × (Nat → Int32) × Nat × (Nat → Int32) × Int32) => [(km, .inr (10, [.ref sa, .ref hs, .ref shs, .ref ja, .ref uu, .ref tb, .ref ob, .int u.1])), (shs, .inl (N.2 1, 4, .inr (.inr (.inr (.inr shf))))), (q1, .inr (5, [.ref m1, .int (nI bt1), .int (nI ct1)])), (m1, .inl (N.2 0, 40, .inl nu1)), (tb, .inr (9, [.ref tl, .ref tg, .int (nI u.2.2.2.1)])), (tl, .inl (N.2 0, 5, .inl u.2.1)), (tg, .inl (N.2 0, 300, .inl u.2.2.1)), (ob, .inr (9, [.ref ol, .ref og, .int (nI u.2.2.2.2.2.2.1)])), (ol, .inl (N.2 0, 5, .inl u.2.2.2.2.1)), (og, .inl (N.2 0, 300, .inl u.2.2.2.2.2.1)), (ja, .inr (3, [.ref jj, .int u.2.2.2.2.2.2.2.2])), (jj, .inl (N.2 0, 180, .inl u.2.2.2.2.2.2.2.1))]) := by
  refine ckI.of (by decide) (Nat.le_of_ble_eq_true rfl) ?_
  intro pg eg sg mg blw mth cg Ag ls hx hb hrt hml hown hlk hin hg hE hA hP hD hS hl
  have hown : sg.vm.findClass RX10 = some mg.cls := hown
  have hl : lv_has ls 5 [(0, .ref km), (1, .int x), (2, .int (nI s1)), (3, .int (nI s1))] := hl
  have C0 : ckC pg sg mg ([.ref km, .int x, .int (nI s1), .int (nI s1)]).toArray cg cX10_same 5 RX10 N Ag := ⟨⟨hx, hb, hml, hown, hg⟩, hE, hA⟩
  generalize hHe : sg.heap = H at hP
  have hS : va_S Ag sg.heap H [] := hHe ▸ hS
  have hk1 : ckIn (nI s1) (nI 0) (nI 3) = true := ckIn_in (by omega) (by omega) (by decide)
  refine lv_iload_n hx hb dX10_same_0 rfl (lv_at hl 1 rfl) ?_
  refine ck_Si (As := [.int x]) (rest := []) (wr := [(km, .inr (10, [.ref sa, .ref hs, .ref shs, .ref ja, .ref uu, .ref tb, .ref ob, .int fd])), (shs, .inl (N.2 1, 4, .inr (.inr (.inr (.inr shf))))), (q1, .inr (5, [.ref m1, .int (nI bt1), .int (nI ct1)])), (m1, .inl (N.2 0, 40, .inl nu1)), (tb, .inr (9, [.ref tl, .ref tg, .int (nI tn)])), (tl, .inl (N.2 0, 5, .inl tlf)), (tg, .inl (N.2 0, 300, .inl tgf)), (ob, .inr (9, [.ref ol, .ref og, .int (nI on)])), (ol, .inl (N.2 0, 5, .inl olf)), (og, .inl (N.2 0, 300, .inl ogf)), (ja, .inr (3, [.ref jj, .int jn])), (jj, .inl (N.2 0, 180, .inl jl))]) C0 hP hD hS (c_X10_isRowSize l N x ) myX10_isRowSize k3_12 ⟨Nat.le_of_ble_eq_true rfl, Nat.le_of_ble_eq_true rfl⟩ [] [0, 1, 2, 3, 4, 5, 6, 7, 8, 9, 10, 11] ⟨⟨rfl, rfl⟩, by decide, by decide, by decide⟩ rfl hl.1 rfl (Nat.le_of_ble_eq_true rfl) dX10_same_1 ⟨Nat.le_of_ble_eq_true rfl, Nat.le_of_ble_eq_true rfl⟩ (fun r_1 u0 H locs hw0 hP hD hS => ?_)
  have hw_2 : r_1 = (b2i (ckIn x (nI 2) (nI 5))) := hw0
  subst hw_2
  have hP : va_P N.1 vwCl [(km, .inr (10, [.ref sa, .ref hs, .ref shs, .ref ja, .ref uu, .ref tb, .ref ob, .int fd])), (shs, .inl (N.2 1, 4, .inr (.inr (.inr (.inr shf))))), (q1, .inr (5, [.ref m1, .int (nI bt1), .int (nI ct1)])), (m1, .inl (N.2 0, 40, .inl nu1)), (tb, .inr (9, [.ref tl, .ref tg, .int (nI tn)])), (tl, .inl (N.2 0, 5, .inl tlf)), (tg, .inl (N.2 0, 300, .inl tgf)), (ob, .inr (9, [.ref ol, .ref og, .int (nI on)])), (ol, .inl (N.2 0, 5, .inl olf)), (og, .inl (N.2 0, 300, .inl ogf)), (ja, .inr (3, [.ref jj, .int jn])), (jj, .inl (N.2 0, 180, .inl jl))] H := hP
  have hD : va_D Ag [(km, .inr (10, [.ref sa, .ref hs, .ref shs, .ref ja, .ref uu, .ref tb, .ref ob, .int fd])), (shs, .inl (N.2 1, 4, .inr (.inr (.inr (.inr shf))))), (q1, .inr (5, [.ref m1, .int (nI bt1), .int (nI ct1)])), (m1, .inl (N.2 0, 40, .inl nu1)), (tb, .inr (9, [.ref tl, .ref tg, .int (nI tn)])), (tl, .inl (N.2 0, 5, .inl tlf)), (tg, .inl (N.2 0, 300, .inl tgf)), (ob, .inr (9, [.ref ol, .ref og, .int (nI on)])), (ol, .inl (N.2 0, 5, .inl olf)), (og, .inl (N.2 0, 300, .inl ogf)), (ja, .inr (3, [.ref jj, .int jn])), (jj, .inl (N.2 0, 180, .inl jl))] := hD
  refine ck_ifeq (b := ckIn x (nI 2) (nI 5)) (tgt := 21) hx hb dX10_same_4 (by decide) (fun cz_3 => ?_) (fun cz_3 => ?_)
  · refine lv_aload_n hx hb dX10_same_21 rfl (lv_at hl 0 rfl) ?_
    refine lv_ldc (own := RX10) (v := (-100001)) hx hb hown (hg _ k2_14) dX10_same_22 ?_
    refine ck_Vi (As := [.int (-100001)]) (rest := []) (wr := [(shs, .inl (N.2 1, 4, .inr (.inr (.inr (.inr shf))))), (q1, .inr (5, [.ref m1, .int (nI bt1), .int (nI ct1)])), (m1, .inl (N.2 0, 40, .inl nu1)), (tb, .inr (9, [.ref tl, .ref tg, .int (nI tn)])), (tl, .inl (N.2 0, 5, .inl tlf)), (tg, .inl (N.2 0, 300, .inl tgf)), (ob, .inr (9, [.ref ol, .ref og, .int (nI on)])), (ol, .inl (N.2 0, 5, .inl olf)), (og, .inl (N.2 0, 300, .inl ogf)), (ja, .inr (3, [.ref jj, .int jn])), (jj, .inl (N.2 0, 180, .inl jl))]) C0 hP hD hS (c_X10_finding l N km sa hs shs ja uu tb ob fd (-100001) ) myX10_finding k2_15 ⟨Nat.le_of_ble_eq_true rfl, Nat.le_of_ble_eq_true rfl⟩ [0] [1, 2, 3, 4, 5, 6, 7, 8, 9, 10, 11] ⟨⟨rfl, rfl⟩, by decide, by decide, by decide⟩ 0 rfl rfl rfl rfl hl.1 rfl (Nat.le_of_ble_eq_true rfl) dX10_same_24 ⟨Nat.le_of_ble_eq_true rfl, Nat.le_of_ble_eq_true rfl⟩ (fun r_4 u0 H locs hw0 hP hD hS => ?_)
    have hw_5 : r_4 = (-100001) := hw0
    subst hw_5
    have hP : va_P N.1 vwCl [(shs, .inl (N.2 1, 4, .inr (.inr (.inr (.inr shf))))), (q1, .inr (5, [.ref m1, .int (nI bt1), .int (nI ct1)])), (m1, .inl (N.2 0, 40, .inl nu1)), (tb, .inr (9, [.ref tl, .ref tg, .int (nI tn)])), (tl, .inl (N.2 0, 5, .inl tlf)), (tg, .inl (N.2 0, 300, .inl tgf)), (ob, .inr (9, [.ref ol, .ref og, .int (nI on)])), (ol, .inl (N.2 0, 5, .inl olf)), (og, .inl (N.2 0, 300, .inl ogf)), (ja, .inr (3, [.ref jj, .int jn])), (jj, .inl (N.2 0, 180, .inl jl)), (km, .inr (10, [.ref sa, .ref hs, .ref shs, .ref ja, .ref uu, .ref tb, .ref ob, .int (fd + nI 1)]))] H := hP
    have hD : va_D Ag [(shs, .inl (N.2 1, 4, .inr (.inr (.inr (.inr shf))))), (q1, .inr (5, [.ref m1, .int (nI bt1), .int (nI ct1)])), (m1, .inl (N.2 0, 40, .inl nu1)), (tb, .inr (9, [.ref tl, .ref tg, .int (nI tn)])), (tl, .inl (N.2 0, 5, .inl tlf)), (tg, .inl (N.2 0, 300, .inl tgf)), (ob, .inr (9, [.ref ol, .ref og, .int (nI on)])), (ol, .inl (N.2 0, 5, .inl olf)), (og, .inl (N.2 0, 300, .inl ogf)), (ja, .inr (3, [.ref jj, .int jn])), (jj, .inl (N.2 0, 180, .inl jl)), (km, .inr (10, [.ref sa, .ref hs, .ref shs, .ref ja, .ref uu, .ref tb, .ref ob, .int (fd + nI 1)]))] := hD
    exact ck_iret hx hb hrt hlk ⟨(fd + nI 1), tlf, tgf, tn, olf, ogf, on, jl, jn⟩ (ckRd_f (by simp [saF, saO, cz_3]) (by decide)) (hP.sub [11, 0, 1, 2, 3, 4, 5, 6, 7, 8, 9, 10] rfl) (hD.sub [11, 0, 1, 2, 3, 4, 5, 6, 7, 8, 9, 10] (by decide) rfl) hS ⟨Nat.le_of_ble_eq_true rfl, Nat.le_of_ble_eq_true rfl⟩ dX10_same_27
  refine lv_iload_n hx hb dX10_same_7 rfl (lv_at hl 2 rfl) ?_
  refine ck_Si (As := [.int (nI s1)]) (rest := []) (wr := [(km, .inr (10, [.ref sa, .ref hs, .ref shs, .ref ja, .ref uu, .ref tb, .ref ob, .int fd])), (shs, .inl (N.2 1, 4, .inr (.inr (.inr (.inr shf))))), (q1, .inr (5, [.ref m1, .int (nI bt1), .int (nI ct1)])), (m1, .inl (N.2 0, 40, .inl nu1)), (tb, .inr (9, [.ref tl, .ref tg, .int (nI tn)])), (tl, .inl (N.2 0, 5, .inl tlf)), (tg, .inl (N.2 0, 300, .inl tgf)), (ob, .inr (9, [.ref ol, .ref og, .int (nI on)])), (ol, .inl (N.2 0, 5, .inl olf)), (og, .inl (N.2 0, 300, .inl ogf)), (ja, .inr (3, [.ref jj, .int jn])), (jj, .inl (N.2 0, 180, .inl jl))]) C0 hP hD hS (c_X10_isSheet l N (nI s1) ) myX10_isSheet k3_149 ⟨Nat.le_of_ble_eq_true rfl, Nat.le_of_ble_eq_true rfl⟩ [] [0, 1, 2, 3, 4, 5, 6, 7, 8, 9, 10, 11] ⟨⟨rfl, rfl⟩, by decide, by decide, by decide⟩ rfl hl.1 rfl (Nat.le_of_ble_eq_true rfl) dX10_same_8 ⟨Nat.le_of_ble_eq_true rfl, Nat.le_of_ble_eq_true rfl⟩ (fun r_6 u0 H locs hw0 hP hD hS => ?_)
  have hw_7 : r_6 = (b2i (ckIn (nI s1) (nI 0) (nI 3))) := hw0
  subst hw_7
  have hP : va_P N.1 vwCl [(km, .inr (10, [.ref sa, .ref hs, .ref shs, .ref ja, .ref uu, .ref tb, .ref ob, .int fd])), (shs, .inl (N.2 1, 4, .inr (.inr (.inr (.inr shf))))), (q1, .inr (5, [.ref m1, .int (nI bt1), .int (nI ct1)])), (m1, .inl (N.2 0, 40, .inl nu1)), (tb, .inr (9, [.ref tl, .ref tg, .int (nI tn)])), (tl, .inl (N.2 0, 5, .inl tlf)), (tg, .inl (N.2 0, 300, .inl tgf)), (ob, .inr (9, [.ref ol, .ref og, .int (nI on)])), (ol, .inl (N.2 0, 5, .inl olf)), (og, .inl (N.2 0, 300, .inl ogf)), (ja, .inr (3, [.ref jj, .int jn])), (jj, .inl (N.2 0, 180, .inl jl))] H := hP
  have hD : va_D Ag [(km, .inr (10, [.ref sa, .ref hs, .ref shs, .ref ja, .ref uu, .ref tb, .ref ob, .int fd])), (shs, .inl (N.2 1, 4, .inr (.inr (.inr (.inr shf))))), (q1, .inr (5, [.ref m1, .int (nI bt1), .int (nI ct1)])), (m1, .inl (N.2 0, 40, .inl nu1)), (tb, .inr (9, [.ref tl, .ref tg, .int (nI tn)])), (tl, .inl (N.2 0, 5, .inl tlf)), (tg, .inl (N.2 0, 300, .inl tgf)), (ob, .inr (9, [.ref ol, .ref og, .int (nI on)])), (ol, .inl (N.2 0, 5, .inl olf)), (og, .inl (N.2 0, 300, .inl ogf)), (ja, .inr (3, [.ref jj, .int jn])), (jj, .inl (N.2 0, 180, .inl jl))] := hD
  refine ck_ifeq (b := ckIn (nI s1) (nI 0) (nI 3)) (tgt := 21) hx hb dX10_same_11 (by decide) (fun cz_8 => absurd cz_8 (by rw [hk1]; decide)) (fun cz_8 => ?_)
  refine lv_iload_n hx hb dX10_same_14 rfl (lv_at hl 3 rfl) ?_
  refine ck_Si (As := [.int (nI s1)]) (rest := []) (wr := [(km, .inr (10, [.ref sa, .ref hs, .ref shs, .ref ja, .ref uu, .ref tb, .ref ob, .int fd])), (shs, .inl (N.2 1, 4, .inr (.inr (.inr (.inr shf))))), (q1, .inr (5, [.ref m1, .int (nI bt1), .int (nI ct1)])), (m1, .inl (N.2 0, 40, .inl nu1)), (tb, .inr (9, [.ref tl, .ref tg, .int (nI tn)])), (tl, .inl (N.2 0, 5, .inl tlf)), (tg, .inl (N.2 0, 300, .inl tgf)), (ob, .inr (9, [.ref ol, .ref og, .int (nI on)])), (ol, .inl (N.2 0, 5, .inl olf)), (og, .inl (N.2 0, 300, .inl ogf)), (ja, .inr (3, [.ref jj, .int jn])), (jj, .inl (N.2 0, 180, .inl jl))]) C0 hP hD hS (c_X10_isSheet l N (nI s1) ) myX10_isSheet k3_149 ⟨Nat.le_of_ble_eq_true rfl, Nat.le_of_ble_eq_true rfl⟩ [] [0, 1, 2, 3, 4, 5, 6, 7, 8, 9, 10, 11] ⟨⟨rfl, rfl⟩, by decide, by decide, by decide⟩ rfl hl.1 rfl (Nat.le_of_ble_eq_true rfl) dX10_same_15 ⟨Nat.le_of_ble_eq_true rfl, Nat.le_of_ble_eq_true rfl⟩ (fun r_9 u0 H locs hw0 hP hD hS => ?_)
  have hw_10 : r_9 = (b2i (ckIn (nI s1) (nI 0) (nI 3))) := hw0
  subst hw_10
  have hP : va_P N.1 vwCl [(km, .inr (10, [.ref sa, .ref hs, .ref shs, .ref ja, .ref uu, .ref tb, .ref ob, .int fd])), (shs, .inl (N.2 1, 4, .inr (.inr (.inr (.inr shf))))), (q1, .inr (5, [.ref m1, .int (nI bt1), .int (nI ct1)])), (m1, .inl (N.2 0, 40, .inl nu1)), (tb, .inr (9, [.ref tl, .ref tg, .int (nI tn)])), (tl, .inl (N.2 0, 5, .inl tlf)), (tg, .inl (N.2 0, 300, .inl tgf)), (ob, .inr (9, [.ref ol, .ref og, .int (nI on)])), (ol, .inl (N.2 0, 5, .inl olf)), (og, .inl (N.2 0, 300, .inl ogf)), (ja, .inr (3, [.ref jj, .int jn])), (jj, .inl (N.2 0, 180, .inl jl))] H := hP
  have hD : va_D Ag [(km, .inr (10, [.ref sa, .ref hs, .ref shs, .ref ja, .ref uu, .ref tb, .ref ob, .int fd])), (shs, .inl (N.2 1, 4, .inr (.inr (.inr (.inr shf))))), (q1, .inr (5, [.ref m1, .int (nI bt1), .int (nI ct1)])), (m1, .inl (N.2 0, 40, .inl nu1)), (tb, .inr (9, [.ref tl, .ref tg, .int (nI tn)])), (tl, .inl (N.2 0, 5, .inl tlf)), (tg, .inl (N.2 0, 300, .inl tgf)), (ob, .inr (9, [.ref ol, .ref og, .int (nI on)])), (ol, .inl (N.2 0, 5, .inl olf)), (og, .inl (N.2 0, 300, .inl ogf)), (ja, .inr (3, [.ref jj, .int jn])), (jj, .inl (N.2 0, 180, .inl jl))] := hD
  refine ck_ifne (b := ckIn (nI s1) (nI 0) (nI 3)) (tgt := 28) hx hb dX10_same_18 (by decide) (fun cz_11 => ?_) (fun cz_11 => absurd cz_11 (by rw [hk1]; decide))
  have hx1 := cz_3
  obtain ⟨n0, hn02, hn05, rfl⟩ := (ckIn_n (by decide) (by decide)).mp hx1
  have exn : ix (nI n0) = n0 := ix_nI (by omega)
  refine lv_aload_n hx hb dX10_same_28 rfl (lv_at hl 0 rfl) ?_
  refine va_get (ci := 10) (v := .ref shs) (C := RX10) (T := TX10) (N := 8) hx hb hg inX10 hown hE.1 hP 0 rfl rfl 2 (by decide) (hg _ k1_218) (fun _ h9 => h9) rfl dX10_same_29 ?_
  refine lv_iload_n hx hb dX10_same_32 rfl (lv_at hl 2 rfl) ?_
  refine ck_aalds hx hb hE hP 1 1 rfl rfl (by omega) (by decide) hq1 dX10_same_33 ?_
  refine ck_Vi (As := []) (rest := []) (wr := [(km, .inr (10, [.ref sa, .ref hs, .ref shs, .ref ja, .ref uu, .ref tb, .ref ob, .int fd])), (shs, .inl (N.2 1, 4, .inr (.inr (.inr (.inr shf))))), (tb, .inr (9, [.ref tl, .ref tg, .int (nI tn)])), (tl, .inl (N.2 0, 5, .inl tlf)), (tg, .inl (N.2 0, 300, .inl tgf)), (ob, .inr (9, [.ref ol, .ref og, .int (nI on)])), (ol, .inl (N.2 0, 5, .inl olf)), (og, .inl (N.2 0, 300, .inl ogf)), (ja, .inr (3, [.ref jj, .int jn])), (jj, .inl (N.2 0, 180, .inl jl))]) C0 hP hD hS (c_X5_isMissing l N q1 m1 nu1 bt1 ct1 (by omega)) myX5_isMissing k3_152 ⟨Nat.le_of_ble_eq_true rfl, Nat.le_of_ble_eq_true rfl⟩ [2, 3] [0, 1, 4, 5, 6, 7, 8, 9, 10, 11] ⟨⟨rfl, rfl⟩, by decide, by decide, by decide⟩ 2 rfl rfl rfl rfl hl.1 rfl (Nat.le_of_ble_eq_true rfl) dX10_same_34 ⟨Nat.le_of_ble_eq_true rfl, Nat.le_of_ble_eq_true rfl⟩ (fun r_12 u0 H locs hw0 hP hD hS => ?_)
  have hw_13 : r_12 = (b2i (decide (bt1 = 0))) := hw0
  subst hw_13
  have hP : va_P N.1 vwCl [(km, .inr (10, [.ref sa, .ref hs, .ref shs, .ref ja, .ref uu, .ref tb, .ref ob, .int fd])), (shs, .inl (N.2 1, 4, .inr (.inr (.inr (.inr shf))))), (tb, .inr (9, [.ref tl, .ref tg, .int (nI tn)])), (tl, .inl (N.2 0, 5, .inl tlf)), (tg, .inl (N.2 0, 300, .inl tgf)), (ob, .inr (9, [.ref ol, .ref og, .int (nI on)])), (ol, .inl (N.2 0, 5, .inl olf)), (og, .inl (N.2 0, 300, .inl ogf)), (ja, .inr (3, [.ref jj, .int jn])), (jj, .inl (N.2 0, 180, .inl jl)), (q1, .inr (5, [.ref m1, .int (nI bt1), .int (nI ct1)])), (m1, .inl (N.2 0, 40, .inl nu1))] H := hP
  have hD : va_D Ag [(km, .inr (10, [.ref sa, .ref hs, .ref shs, .ref ja, .ref uu, .ref tb, .ref ob, .int fd])), (shs, .inl (N.2 1, 4, .inr (.inr (.inr (.inr shf))))), (tb, .inr (9, [.ref tl, .ref tg, .int (nI tn)])), (tl, .inl (N.2 0, 5, .inl tlf)), (tg, .inl (N.2 0, 300, .inl tgf)), (ob, .inr (9, [.ref ol, .ref og, .int (nI on)])), (ol, .inl (N.2 0, 5, .inl olf)), (og, .inl (N.2 0, 300, .inl ogf)), (ja, .inr (3, [.ref jj, .int jn])), (jj, .inl (N.2 0, 180, .inl jl)), (q1, .inr (5, [.ref m1, .int (nI bt1), .int (nI ct1)])), (m1, .inl (N.2 0, 40, .inl nu1))] := hD
  refine ck_ifne (b := decide (bt1 = 0)) (tgt := 52) hx hb dX10_same_37 (by decide) (fun cz_14 => ?_) (fun cz_14 => ?_)
  · have hbza := of_decide_eq_true cz_14
    refine lv_aload_n hx hb dX10_same_52 rfl (lv_at hl 0 rfl) ?_
    refine lv_ldc (own := RX10) (v := (-100002)) hx hb hown (hg _ k3_156) dX10_same_53 ?_
    refine ck_Vi (As := [.int (-100002)]) (rest := []) (wr := [(shs, .inl (N.2 1, 4, .inr (.inr (.inr (.inr shf))))), (tb, .inr (9, [.ref tl, .ref tg, .int (nI tn)])), (tl, .inl (N.2 0, 5, .inl tlf)), (tg, .inl (N.2 0, 300, .inl tgf)), (ob, .inr (9, [.ref ol, .ref og, .int (nI on)])), (ol, .inl (N.2 0, 5, .inl olf)), (og, .inl (N.2 0, 300, .inl ogf)), (ja, .inr (3, [.ref jj, .int jn])), (jj, .inl (N.2 0, 180, .inl jl)), (q1, .inr (5, [.ref m1, .int (nI bt1), .int (nI ct1)])), (m1, .inl (N.2 0, 40, .inl nu1))]) C0 hP hD hS (c_X10_finding l N km sa hs shs ja uu tb ob fd (-100002) ) myX10_finding k2_15 ⟨Nat.le_of_ble_eq_true rfl, Nat.le_of_ble_eq_true rfl⟩ [0] [1, 2, 3, 4, 5, 6, 7, 8, 9, 10, 11] ⟨⟨rfl, rfl⟩, by decide, by decide, by decide⟩ 0 rfl rfl rfl rfl hl.1 rfl (Nat.le_of_ble_eq_true rfl) dX10_same_55 ⟨Nat.le_of_ble_eq_true rfl, Nat.le_of_ble_eq_true rfl⟩ (fun r_15 u0 H locs hw0 hP hD hS => ?_)
    have hw_16 : r_15 = (-100002) := hw0
    subst hw_16
    have hP : va_P N.1 vwCl [(shs, .inl (N.2 1, 4, .inr (.inr (.inr (.inr shf))))), (tb, .inr (9, [.ref tl, .ref tg, .int (nI tn)])), (tl, .inl (N.2 0, 5, .inl tlf)), (tg, .inl (N.2 0, 300, .inl tgf)), (ob, .inr (9, [.ref ol, .ref og, .int (nI on)])), (ol, .inl (N.2 0, 5, .inl olf)), (og, .inl (N.2 0, 300, .inl ogf)), (ja, .inr (3, [.ref jj, .int jn])), (jj, .inl (N.2 0, 180, .inl jl)), (q1, .inr (5, [.ref m1, .int (nI bt1), .int (nI ct1)])), (m1, .inl (N.2 0, 40, .inl nu1)), (km, .inr (10, [.ref sa, .ref hs, .ref shs, .ref ja, .ref uu, .ref tb, .ref ob, .int (fd + nI 1)]))] H := hP
    have hD : va_D Ag [(shs, .inl (N.2 1, 4, .inr (.inr (.inr (.inr shf))))), (tb, .inr (9, [.ref tl, .ref tg, .int (nI tn)])), (tl, .inl (N.2 0, 5, .inl tlf)), (tg, .inl (N.2 0, 300, .inl tgf)), (ob, .inr (9, [.ref ol, .ref og, .int (nI on)])), (ol, .inl (N.2 0, 5, .inl olf)), (og, .inl (N.2 0, 300, .inl ogf)), (ja, .inr (3, [.ref jj, .int jn])), (jj, .inl (N.2 0, 180, .inl jl)), (q1, .inr (5, [.ref m1, .int (nI bt1), .int (nI ct1)])), (m1, .inl (N.2 0, 40, .inl nu1)), (km, .inr (10, [.ref sa, .ref hs, .ref shs, .ref ja, .ref uu, .ref tb, .ref ob, .int (fd + nI 1)]))] := hD
    exact ck_iret hx hb hrt hlk ⟨(fd + nI 1), tlf, tgf, tn, olf, ogf, on, jl, jn⟩ (ckRd_f (by simp [saF, saO, hx1, exn, hbza]) (by decide)) (hP.sub [11, 0, 9, 10, 1, 2, 3, 4, 5, 6, 7, 8] rfl) (hD.sub [11, 0, 9, 10, 1, 2, 3, 4, 5, 6, 7, 8] (by decide) rfl) hS ⟨Nat.le_of_ble_eq_true rfl, Nat.le_of_ble_eq_true rfl⟩ dX10_same_58
  have hbza := of_decide_eq_false cz_14
  refine lv_aload_n hx hb dX10_same_40 rfl (lv_at hl 0 rfl) ?_
  refine va_get (ci := 10) (v := .ref shs) (C := RX10) (T := TX10) (N := 8) hx hb hg inX10 hown hE.1 hP 0 rfl rfl 2 (by decide) (hg _ k1_218) (fun _ h9 => h9) rfl dX10_same_41 ?_
  refine lv_iload_n hx hb dX10_same_44 rfl (lv_at hl 3 rfl) ?_
  refine ck_aalds hx hb hE hP 1 1 rfl rfl (by omega) (by decide) hq1 dX10_same_45 ?_
  refine ck_Vi (As := []) (rest := []) (wr := [(km, .inr (10, [.ref sa, .ref hs, .ref shs, .ref ja, .ref uu, .ref tb, .ref ob, .int fd])), (shs, .inl (N.2 1, 4, .inr (.inr (.inr (.inr shf))))), (tb, .inr (9, [.ref tl, .ref tg, .int (nI tn)])), (tl, .inl (N.2 0, 5, .inl tlf)), (tg, .inl (N.2 0, 300, .inl tgf)), (ob, .inr (9, [.ref ol, .ref og, .int (nI on)])), (ol, .inl (N.2 0, 5, .inl olf)), (og, .inl (N.2 0, 300, .inl ogf)), (ja, .inr (3, [.ref jj, .int jn])), (jj, .inl (N.2 0, 180, .inl jl))]) C0 hP hD hS (c_X5_isMissing l N q1 m1 nu1 bt1 ct1 (by omega)) myX5_isMissing k3_152 ⟨Nat.le_of_ble_eq_true rfl, Nat.le_of_ble_eq_true rfl⟩ [10, 11] [0, 1, 2, 3, 4, 5, 6, 7, 8, 9] ⟨⟨rfl, rfl⟩, by decide, by decide, by decide⟩ 10 rfl rfl rfl rfl hl.1 rfl (Nat.le_of_ble_eq_true rfl) dX10_same_46 ⟨Nat.le_of_ble_eq_true rfl, Nat.le_of_ble_eq_true rfl⟩ (fun r_17 u0 H locs hw0 hP hD hS => ?_)
  have hw_18 : r_17 = (b2i (decide (bt1 = 0))) := hw0
  subst hw_18
  have hP : va_P N.1 vwCl [(km, .inr (10, [.ref sa, .ref hs, .ref shs, .ref ja, .ref uu, .ref tb, .ref ob, .int fd])), (shs, .inl (N.2 1, 4, .inr (.inr (.inr (.inr shf))))), (tb, .inr (9, [.ref tl, .ref tg, .int (nI tn)])), (tl, .inl (N.2 0, 5, .inl tlf)), (tg, .inl (N.2 0, 300, .inl tgf)), (ob, .inr (9, [.ref ol, .ref og, .int (nI on)])), (ol, .inl (N.2 0, 5, .inl olf)), (og, .inl (N.2 0, 300, .inl ogf)), (ja, .inr (3, [.ref jj, .int jn])), (jj, .inl (N.2 0, 180, .inl jl)), (q1, .inr (5, [.ref m1, .int (nI bt1), .int (nI ct1)])), (m1, .inl (N.2 0, 40, .inl nu1))] H := hP
  have hD : va_D Ag [(km, .inr (10, [.ref sa, .ref hs, .ref shs, .ref ja, .ref uu, .ref tb, .ref ob, .int fd])), (shs, .inl (N.2 1, 4, .inr (.inr (.inr (.inr shf))))), (tb, .inr (9, [.ref tl, .ref tg, .int (nI tn)])), (tl, .inl (N.2 0, 5, .inl tlf)), (tg, .inl (N.2 0, 300, .inl tgf)), (ob, .inr (9, [.ref ol, .ref og, .int (nI on)])), (ol, .inl (N.2 0, 5, .inl olf)), (og, .inl (N.2 0, 300, .inl ogf)), (ja, .inr (3, [.ref jj, .int jn])), (jj, .inl (N.2 0, 180, .inl jl)), (q1, .inr (5, [.ref m1, .int (nI bt1), .int (nI ct1)])), (m1, .inl (N.2 0, 40, .inl nu1))] := hD
  refine ck_ifeq (b := decide (bt1 = 0)) (tgt := 59) hx hb dX10_same_49 (by decide) (fun cz_19 => ?_) (fun cz_19 => ?_)
  · have hbzb := of_decide_eq_false cz_19
    refine lv_iload_n hx hb dX10_same_59 rfl (lv_at hl 1 rfl) ?_
    refine ck_Si (As := [.int (nI n0)]) (rest := []) (wr := [(km, .inr (10, [.ref sa, .ref hs, .ref shs, .ref ja, .ref uu, .ref tb, .ref ob, .int fd])), (shs, .inl (N.2 1, 4, .inr (.inr (.inr (.inr shf))))), (tb, .inr (9, [.ref tl, .ref tg, .int (nI tn)])), (tl, .inl (N.2 0, 5, .inl tlf)), (tg, .inl (N.2 0, 300, .inl tgf)), (ob, .inr (9, [.ref ol, .ref og, .int (nI on)])), (ol, .inl (N.2 0, 5, .inl olf)), (og, .inl (N.2 0, 300, .inl ogf)), (ja, .inr (3, [.ref jj, .int jn])), (jj, .inl (N.2 0, 180, .inl jl)), (q1, .inr (5, [.ref m1, .int (nI bt1), .int (nI ct1)])), (m1, .inl (N.2 0, 40, .inl nu1))]) C0 hP hD hS (c_X10_walksOf l N n0 (by omega) (by omega)) myX10_walksOf k3_157 ⟨Nat.le_of_ble_eq_true rfl, Nat.le_of_ble_eq_true rfl⟩ [] [0, 1, 2, 3, 4, 5, 6, 7, 8, 9, 10, 11] ⟨⟨rfl, rfl⟩, by decide, by decide, by decide⟩ rfl hl.1 rfl (Nat.le_of_ble_eq_true rfl) dX10_same_60 ⟨Nat.le_of_ble_eq_true rfl, Nat.le_of_ble_eq_true rfl⟩ (fun r_20 u0 H locs hw0 hP hD hS => ?_)
    have hw_21 : r_20 = (nI (2 * (n0 - 1))) := hw0
    subst hw_21
    have hP : va_P N.1 vwCl [(km, .inr (10, [.ref sa, .ref hs, .ref shs, .ref ja, .ref uu, .ref tb, .ref ob, .int fd])), (shs, .inl (N.2 1, 4, .inr (.inr (.inr (.inr shf))))), (tb, .inr (9, [.ref tl, .ref tg, .int (nI tn)])), (tl, .inl (N.2 0, 5, .inl tlf)), (tg, .inl (N.2 0, 300, .inl tgf)), (ob, .inr (9, [.ref ol, .ref og, .int (nI on)])), (ol, .inl (N.2 0, 5, .inl olf)), (og, .inl (N.2 0, 300, .inl ogf)), (ja, .inr (3, [.ref jj, .int jn])), (jj, .inl (N.2 0, 180, .inl jl)), (q1, .inr (5, [.ref m1, .int (nI bt1), .int (nI ct1)])), (m1, .inl (N.2 0, 40, .inl nu1))] H := hP
    have hD : va_D Ag [(km, .inr (10, [.ref sa, .ref hs, .ref shs, .ref ja, .ref uu, .ref tb, .ref ob, .int fd])), (shs, .inl (N.2 1, 4, .inr (.inr (.inr (.inr shf))))), (tb, .inr (9, [.ref tl, .ref tg, .int (nI tn)])), (tl, .inl (N.2 0, 5, .inl tlf)), (tg, .inl (N.2 0, 300, .inl tgf)), (ob, .inr (9, [.ref ol, .ref og, .int (nI on)])), (ol, .inl (N.2 0, 5, .inl olf)), (og, .inl (N.2 0, 300, .inl ogf)), (ja, .inr (3, [.ref jj, .int jn])), (jj, .inl (N.2 0, 180, .inl jl)), (q1, .inr (5, [.ref m1, .int (nI bt1), .int (nI ct1)])), (m1, .inl (N.2 0, 40, .inl nu1))] := hD
    refine lv_iconst (v := (nI 1)) hx hb dX10_same_63 (by decide) ?_
    refine lv_isub hx hb dX10_same_64 ?_
    refine ck_top (y := (nI (2 * (n0 - 1) - 1))) (pk_sub (by omega)) ?_
    refine lv_istore (lv' := [(4, .int (nI (2 * (n0 - 1) - 1))), (0, .ref km), (1, .int (nI n0)), (2, .int (nI s1)), (3, .int (nI s1))]) hx hb dX10_same_65 hl (by decide) rfl (fun ls hl => ?_)
    refine lv_aload_n hx hb dX10_same_67 rfl (lv_at hl 1 rfl) ?_
    refine va_get (ci := 10) (v := .ref shs) (C := RX10) (T := TX10) (N := 8) hx hb hg inX10 hown hE.1 hP 0 rfl rfl 2 (by decide) (hg _ k1_218) (fun _ h9 => h9) rfl dX10_same_68 ?_
    refine lv_iload_n hx hb dX10_same_71 rfl (lv_at hl 3 rfl) ?_
    refine ck_aalds hx hb hE hP 1 1 rfl rfl (by omega) (by decide) hq1 dX10_same_72 ?_
    refine lv_iload hx hb dX10_same_73 (lv_at hl 0 rfl) ?_
    refine ck_Vi (As := [.int (nI (2 * (n0 - 1) - 1))]) (rest := []) (wr := [(km, .inr (10, [.ref sa, .ref hs, .ref shs, .ref ja, .ref uu, .ref tb, .ref ob, .int fd])), (shs, .inl (N.2 1, 4, .inr (.inr (.inr (.inr shf))))), (tb, .inr (9, [.ref tl, .ref tg, .int (nI tn)])), (tl, .inl (N.2 0, 5, .inl tlf)), (tg, .inl (N.2 0, 300, .inl tgf)), (ob, .inr (9, [.ref ol, .ref og, .int (nI on)])), (ol, .inl (N.2 0, 5, .inl olf)), (og, .inl (N.2 0, 300, .inl ogf)), (ja, .inr (3, [.ref jj, .int jn])), (jj, .inl (N.2 0, 180, .inl jl))]) C0 hP hD hS (c_X5_isWithin l N q1 m1 nu1 bt1 ct1 (2 * (n0 - 1) - 1) (by omega) (by omega)) myX5_isWithin k3_158 ⟨Nat.le_of_ble_eq_true rfl, Nat.le_of_ble_eq_true rfl⟩ [10, 11] [0, 1, 2, 3, 4, 5, 6, 7, 8, 9] ⟨⟨rfl, rfl⟩, by decide, by decide, by decide⟩ 10 rfl rfl rfl rfl hl.1 rfl (Nat.le_of_ble_eq_true rfl) dX10_same_75 ⟨Nat.le_of_ble_eq_true rfl, Nat.le_of_ble_eq_true rfl⟩ (fun r_22 u0 H locs hw0 hP hD hS => ?_)
    have hw_23 : r_22 = (b2i (ckWithin nu1 ct1 (2 * (n0 - 1) - 1))) := hw0
    subst hw_23
    have hP : va_P N.1 vwCl [(km, .inr (10, [.ref sa, .ref hs, .ref shs, .ref ja, .ref uu, .ref tb, .ref ob, .int fd])), (shs, .inl (N.2 1, 4, .inr (.inr (.inr (.inr shf))))), (tb, .inr (9, [.ref tl, .ref tg, .int (nI tn)])), (tl, .inl (N.2 0, 5, .inl tlf)), (tg, .inl (N.2 0, 300, .inl tgf)), (ob, .inr (9, [.ref ol, .ref og, .int (nI on)])), (ol, .inl (N.2 0, 5, .inl olf)), (og, .inl (N.2 0, 300, .inl ogf)), (ja, .inr (3, [.ref jj, .int jn])), (jj, .inl (N.2 0, 180, .inl jl)), (q1, .inr (5, [.ref m1, .int (nI bt1), .int (nI ct1)])), (m1, .inl (N.2 0, 40, .inl nu1))] H := hP
    have hD : va_D Ag [(km, .inr (10, [.ref sa, .ref hs, .ref shs, .ref ja, .ref uu, .ref tb, .ref ob, .int fd])), (shs, .inl (N.2 1, 4, .inr (.inr (.inr (.inr shf))))), (tb, .inr (9, [.ref tl, .ref tg, .int (nI tn)])), (tl, .inl (N.2 0, 5, .inl tlf)), (tg, .inl (N.2 0, 300, .inl tgf)), (ob, .inr (9, [.ref ol, .ref og, .int (nI on)])), (ol, .inl (N.2 0, 5, .inl olf)), (og, .inl (N.2 0, 300, .inl ogf)), (ja, .inr (3, [.ref jj, .int jn])), (jj, .inl (N.2 0, 180, .inl jl)), (q1, .inr (5, [.ref m1, .int (nI bt1), .int (nI ct1)])), (m1, .inl (N.2 0, 40, .inl nu1))] := hD
    refine ck_ifeq (b := ckWithin nu1 ct1 (2 * (n0 - 1) - 1)) (tgt := 95) hx hb dX10_same_78 (by decide) (fun cz_24 => ?_) (fun cz_24 => ?_)
    · refine lv_aload_n hx hb dX10_same_95 rfl (lv_at hl 1 rfl) ?_
      refine lv_ldc (own := RX10) (v := (-100001)) hx hb hown (hg _ k2_14) dX10_same_96 ?_
      refine ck_Vi (As := [.int (-100001)]) (rest := []) (wr := [(shs, .inl (N.2 1, 4, .inr (.inr (.inr (.inr shf))))), (tb, .inr (9, [.ref tl, .ref tg, .int (nI tn)])), (tl, .inl (N.2 0, 5, .inl tlf)), (tg, .inl (N.2 0, 300, .inl tgf)), (ob, .inr (9, [.ref ol, .ref og, .int (nI on)])), (ol, .inl (N.2 0, 5, .inl olf)), (og, .inl (N.2 0, 300, .inl ogf)), (ja, .inr (3, [.ref jj, .int jn])), (jj, .inl (N.2 0, 180, .inl jl)), (q1, .inr (5, [.ref m1, .int (nI bt1), .int (nI ct1)])), (m1, .inl (N.2 0, 40, .inl nu1))]) C0 hP hD hS (c_X10_finding l N km sa hs shs ja uu tb ob fd (-100001) ) myX10_finding k2_15 ⟨Nat.le_of_ble_eq_true rfl, Nat.le_of_ble_eq_true rfl⟩ [0] [1, 2, 3, 4, 5, 6, 7, 8, 9, 10, 11] ⟨⟨rfl, rfl⟩, by decide, by decide, by decide⟩ 0 rfl rfl rfl rfl hl.1 rfl (Nat.le_of_ble_eq_true rfl) dX10_same_98 ⟨Nat.le_of_ble_eq_true rfl, Nat.le_of_ble_eq_true rfl⟩ (fun r_25 u0 H locs hw0 hP hD hS => ?_)
      have hw_26 : r_25 = (-100001) := hw0
      subst hw_26
      have hP : va_P N.1 vwCl [(shs, .inl (N.2 1, 4, .inr (.inr (.inr (.inr shf))))), (tb, .inr (9, [.ref tl, .ref tg, .int (nI tn)])), (tl, .inl (N.2 0, 5, .inl tlf)), (tg, .inl (N.2 0, 300, .inl tgf)), (ob, .inr (9, [.ref ol, .ref og, .int (nI on)])), (ol, .inl (N.2 0, 5, .inl olf)), (og, .inl (N.2 0, 300, .inl ogf)), (ja, .inr (3, [.ref jj, .int jn])), (jj, .inl (N.2 0, 180, .inl jl)), (q1, .inr (5, [.ref m1, .int (nI bt1), .int (nI ct1)])), (m1, .inl (N.2 0, 40, .inl nu1)), (km, .inr (10, [.ref sa, .ref hs, .ref shs, .ref ja, .ref uu, .ref tb, .ref ob, .int (fd + nI 1)]))] H := hP
      have hD : va_D Ag [(shs, .inl (N.2 1, 4, .inr (.inr (.inr (.inr shf))))), (tb, .inr (9, [.ref tl, .ref tg, .int (nI tn)])), (tl, .inl (N.2 0, 5, .inl tlf)), (tg, .inl (N.2 0, 300, .inl tgf)), (ob, .inr (9, [.ref ol, .ref og, .int (nI on)])), (ol, .inl (N.2 0, 5, .inl olf)), (og, .inl (N.2 0, 300, .inl ogf)), (ja, .inr (3, [.ref jj, .int jn])), (jj, .inl (N.2 0, 180, .inl jl)), (q1, .inr (5, [.ref m1, .int (nI bt1), .int (nI ct1)])), (m1, .inl (N.2 0, 40, .inl nu1)), (km, .inr (10, [.ref sa, .ref hs, .ref shs, .ref ja, .ref uu, .ref tb, .ref ob, .int (fd + nI 1)]))] := hD
      exact ck_iret hx hb hrt hlk ⟨(fd + nI 1), tlf, tgf, tn, olf, ogf, on, jl, jn⟩ (ckRd_f (by simp [saF, saO, hx1, exn, hbza, hbzb, cz_24]) (by decide)) (hP.sub [11, 0, 9, 10, 1, 2, 3, 4, 5, 6, 7, 8] rfl) (hD.sub [11, 0, 9, 10, 1, 2, 3, 4, 5, 6, 7, 8] (by decide) rfl) hS ⟨Nat.le_of_ble_eq_true rfl, Nat.le_of_ble_eq_true rfl⟩ dX10_same_101
    refine lv_aload_n hx hb dX10_same_81 rfl (lv_at hl 1 rfl) ?_
    refine va_get (ci := 10) (v := .ref shs) (C := RX10) (T := TX10) (N := 8) hx hb hg inX10 hown hE.1 hP 0 rfl rfl 2 (by decide) (hg _ k1_218) (fun _ h9 => h9) rfl dX10_same_82 ?_
    refine lv_iload_n hx hb dX10_same_85 rfl (lv_at hl 4 rfl) ?_
    refine ck_aalds hx hb hE hP 1 1 rfl rfl (by omega) (by decide) hq1 dX10_same_86 ?_
    refine lv_iload hx hb dX10_same_87 (lv_at hl 0 rfl) ?_
    refine ck_Vi (As := [.int (nI (2 * (n0 - 1) - 1))]) (rest := []) (wr := [(km, .inr (10, [.ref sa, .ref hs, .ref shs, .ref ja, .ref uu, .ref tb, .ref ob, .int fd])), (shs, .inl (N.2 1, 4, .inr (.inr (.inr (.inr shf))))), (tb, .inr (9, [.ref tl, .ref tg, .int (nI tn)])), (tl, .inl (N.2 0, 5, .inl tlf)), (tg, .inl (N.2 0, 300, .inl tgf)), (ob, .inr (9, [.ref ol, .ref og, .int (nI on)])), (ol, .inl (N.2 0, 5, .inl olf)), (og, .inl (N.2 0, 300, .inl ogf)), (ja, .inr (3, [.ref jj, .int jn])), (jj, .inl (N.2 0, 180, .inl jl))]) C0 hP hD hS (c_X5_isWithin l N q1 m1 nu1 bt1 ct1 (2 * (n0 - 1) - 1) (by omega) (by omega)) myX5_isWithin k3_158 ⟨Nat.le_of_ble_eq_true rfl, Nat.le_of_ble_eq_true rfl⟩ [10, 11] [0, 1, 2, 3, 4, 5, 6, 7, 8, 9] ⟨⟨rfl, rfl⟩, by decide, by decide, by decide⟩ 10 rfl rfl rfl rfl hl.1 rfl (Nat.le_of_ble_eq_true rfl) dX10_same_89 ⟨Nat.le_of_ble_eq_true rfl, Nat.le_of_ble_eq_true rfl⟩ (fun r_27 u0 H locs hw0 hP hD hS => ?_)
    have hw_28 : r_27 = (b2i (ckWithin nu1 ct1 (2 * (n0 - 1) - 1))) := hw0
    subst hw_28
    have hP : va_P N.1 vwCl [(km, .inr (10, [.ref sa, .ref hs, .ref shs, .ref ja, .ref uu, .ref tb, .ref ob, .int fd])), (shs, .inl (N.2 1, 4, .inr (.inr (.inr (.inr shf))))), (tb, .inr (9, [.ref tl, .ref tg, .int (nI tn)])), (tl, .inl (N.2 0, 5, .inl tlf)), (tg, .inl (N.2 0, 300, .inl tgf)), (ob, .inr (9, [.ref ol, .ref og, .int (nI on)])), (ol, .inl (N.2 0, 5, .inl olf)), (og, .inl (N.2 0, 300, .inl ogf)), (ja, .inr (3, [.ref jj, .int jn])), (jj, .inl (N.2 0, 180, .inl jl)), (q1, .inr (5, [.ref m1, .int (nI bt1), .int (nI ct1)])), (m1, .inl (N.2 0, 40, .inl nu1))] H := hP
    have hD : va_D Ag [(km, .inr (10, [.ref sa, .ref hs, .ref shs, .ref ja, .ref uu, .ref tb, .ref ob, .int fd])), (shs, .inl (N.2 1, 4, .inr (.inr (.inr (.inr shf))))), (tb, .inr (9, [.ref tl, .ref tg, .int (nI tn)])), (tl, .inl (N.2 0, 5, .inl tlf)), (tg, .inl (N.2 0, 300, .inl tgf)), (ob, .inr (9, [.ref ol, .ref og, .int (nI on)])), (ol, .inl (N.2 0, 5, .inl olf)), (og, .inl (N.2 0, 300, .inl ogf)), (ja, .inr (3, [.ref jj, .int jn])), (jj, .inl (N.2 0, 180, .inl jl)), (q1, .inr (5, [.ref m1, .int (nI bt1), .int (nI ct1)])), (m1, .inl (N.2 0, 40, .inl nu1))] := hD
    refine ck_ifne (b := ckWithin nu1 ct1 (2 * (n0 - 1) - 1)) (tgt := 102) hx hb dX10_same_92 (by decide) (fun cz_29 => ?_) (fun cz_29 => ?_)
    · refine lv_aload_n hx hb dX10_same_102 rfl (lv_at hl 1 rfl) ?_
      refine lv_aload_n hx hb dX10_same_103 rfl (lv_at hl 1 rfl) ?_
      refine va_get (ci := 10) (v := .ref tb) (C := RX10) (T := TX10) (N := 8) hx hb hg inX10 hown hE.1 hP 0 rfl rfl 5 (by decide) (hg _ k1_221) (fun _ h9 => h9) rfl dX10_same_104 ?_
      refine lv_iload_n hx hb dX10_same_107 rfl (lv_at hl 2 rfl) ?_
      refine lv_aload_n hx hb dX10_same_108 rfl (lv_at hl 1 rfl) ?_
      refine va_get (ci := 10) (v := .ref shs) (C := RX10) (T := TX10) (N := 8) hx hb hg inX10 hown hE.1 hP 0 rfl rfl 2 (by decide) (hg _ k1_218) (fun _ h9 => h9) rfl dX10_same_109 ?_
      refine lv_iload_n hx hb dX10_same_112 rfl (lv_at hl 3 rfl) ?_
      refine ck_aalds hx hb hE hP 1 1 rfl rfl (by omega) (by decide) hq1 dX10_same_113 ?_
      refine ck_Vi (As := [.ref tb, .int (nI n0), .ref q1]) (rest := []) (wr := [(shs, .inl (N.2 1, 4, .inr (.inr (.inr (.inr shf))))), (ob, .inr (9, [.ref ol, .ref og, .int (nI on)])), (ol, .inl (N.2 0, 5, .inl olf)), (og, .inl (N.2 0, 300, .inl ogf))]) C0 hP hD hS (c_X10_follow l N km sa hs shs ja uu tb ob fd tb tl tg tlf tgf tn jj jl jn q1 m1 bt1 ct1 nu1 n0 (by omega) (by omega) (by omega) (within_ix (by omega) cz_24)) myX10_follow k3_162 ⟨Nat.le_of_ble_eq_true rfl, Nat.le_of_ble_eq_true rfl⟩ [0, 2, 3, 4, 8, 9, 10, 11] [1, 5, 6, 7] ⟨⟨rfl, rfl⟩, by decide, by decide, by decide⟩ 0 rfl rfl rfl rfl hl.1 rfl (Nat.le_of_ble_eq_true rfl) dX10_same_114 ⟨Nat.le_of_ble_eq_true rfl, Nat.le_of_ble_eq_true rfl⟩ (fun r_30 u0 H locs hw0 hP hD hS => ?_)
      obtain ⟨lf2_31, gf2_32, jl2_33, jn2_34⟩ := u0
      have hw_35 : (r_30 = (b2i ((folK nu1 ct1).isSome))) ∧ (∀ wz, folK nu1 ct1 = some wz → ckWd lf2_31 gf2_32 n0 wz) := hw0
      obtain ⟨hv_36, hw_35⟩ := hw_35
      subst hv_36
      have hP : va_P N.1 vwCl [(shs, .inl (N.2 1, 4, .inr (.inr (.inr (.inr shf))))), (ob, .inr (9, [.ref ol, .ref og, .int (nI on)])), (ol, .inl (N.2 0, 5, .inl olf)), (og, .inl (N.2 0, 300, .inl ogf)), (km, .inr (10, [.ref sa, .ref hs, .ref shs, .ref ja, .ref uu, .ref tb, .ref ob, .int fd])), (tb, .inr (9, [.ref tl, .ref tg, .int (nI n0)])), (tl, .inl (N.2 0, 5, .inl lf2_31)), (tg, .inl (N.2 0, 300, .inl gf2_32)), (ja, .inr (3, [.ref jj, .int jn2_34])), (jj, .inl (N.2 0, 180, .inl jl2_33)), (q1, .inr (5, [.ref m1, .int (nI bt1), .int (nI ct1)])), (m1, .inl (N.2 0, 40, .inl nu1))] H := hP
      have hD : va_D Ag [(shs, .inl (N.2 1, 4, .inr (.inr (.inr (.inr shf))))), (ob, .inr (9, [.ref ol, .ref og, .int (nI on)])), (ol, .inl (N.2 0, 5, .inl olf)), (og, .inl (N.2 0, 300, .inl ogf)), (km, .inr (10, [.ref sa, .ref hs, .ref shs, .ref ja, .ref uu, .ref tb, .ref ob, .int fd])), (tb, .inr (9, [.ref tl, .ref tg, .int (nI n0)])), (tl, .inl (N.2 0, 5, .inl lf2_31)), (tg, .inl (N.2 0, 300, .inl gf2_32)), (ja, .inr (3, [.ref jj, .int jn2_34])), (jj, .inl (N.2 0, 180, .inl jl2_33)), (q1, .inr (5, [.ref m1, .int (nI bt1), .int (nI ct1)])), (m1, .inl (N.2 0, 40, .inl nu1))] := hD
      have hfa := hw_35
      refine ck_ifeq (b := (folK nu1 ct1).isSome) (tgt := 138) hx hb dX10_same_117 (by decide) (fun cz_37 => ?_) (fun cz_37 => ?_)
      · refine lv_aload_n hx hb dX10_same_138 rfl (lv_at hl 1 rfl) ?_
        refine lv_ldc (own := RX10) (v := (-100005)) hx hb hown (hg _ k2_36) dX10_same_139 ?_
        refine ck_Vi (As := [.int (-100005)]) (rest := []) (wr := [(shs, .inl (N.2 1, 4, .inr (.inr (.inr (.inr shf))))), (ob, .inr (9, [.ref ol, .ref og, .int (nI on)])), (ol, .inl (N.2 0, 5, .inl olf)), (og, .inl (N.2 0, 300, .inl ogf)), (tb, .inr (9, [.ref tl, .ref tg, .int (nI n0)])), (tl, .inl (N.2 0, 5, .inl lf2_31)), (tg, .inl (N.2 0, 300, .inl gf2_32)), (ja, .inr (3, [.ref jj, .int jn2_34])), (jj, .inl (N.2 0, 180, .inl jl2_33)), (q1, .inr (5, [.ref m1, .int (nI bt1), .int (nI ct1)])), (m1, .inl (N.2 0, 40, .inl nu1))]) C0 hP hD hS (c_X10_finding l N km sa hs shs ja uu tb ob fd (-100005) ) myX10_finding k2_15 ⟨Nat.le_of_ble_eq_true rfl, Nat.le_of_ble_eq_true rfl⟩ [4] [0, 1, 2, 3, 5, 6, 7, 8, 9, 10, 11] ⟨⟨rfl, rfl⟩, by decide, by decide, by decide⟩ 4 rfl rfl rfl rfl hl.1 rfl (Nat.le_of_ble_eq_true rfl) dX10_same_141 ⟨Nat.le_of_ble_eq_true rfl, Nat.le_of_ble_eq_true rfl⟩ (fun r_38 u0 H locs hw0 hP hD hS => ?_)
        have hw_39 : r_38 = (-100005) := hw0
        subst hw_39
        have hP : va_P N.1 vwCl [(shs, .inl (N.2 1, 4, .inr (.inr (.inr (.inr shf))))), (ob, .inr (9, [.ref ol, .ref og, .int (nI on)])), (ol, .inl (N.2 0, 5, .inl olf)), (og, .inl (N.2 0, 300, .inl ogf)), (tb, .inr (9, [.ref tl, .ref tg, .int (nI n0)])), (tl, .inl (N.2 0, 5, .inl lf2_31)), (tg, .inl (N.2 0, 300, .inl gf2_32)), (ja, .inr (3, [.ref jj, .int jn2_34])), (jj, .inl (N.2 0, 180, .inl jl2_33)), (q1, .inr (5, [.ref m1, .int (nI bt1), .int (nI ct1)])), (m1, .inl (N.2 0, 40, .inl nu1)), (km, .inr (10, [.ref sa, .ref hs, .ref shs, .ref ja, .ref uu, .ref tb, .ref ob, .int (fd + nI 1)]))] H := hP
        have hD : va_D Ag [(shs, .inl (N.2 1, 4, .inr (.inr (.inr (.inr shf))))), (ob, .inr (9, [.ref ol, .ref og, .int (nI on)])), (ol, .inl (N.2 0, 5, .inl olf)), (og, .inl (N.2 0, 300, .inl ogf)), (tb, .inr (9, [.ref tl, .ref tg, .int (nI n0)])), (tl, .inl (N.2 0, 5, .inl lf2_31)), (tg, .inl (N.2 0, 300, .inl gf2_32)), (ja, .inr (3, [.ref jj, .int jn2_34])), (jj, .inl (N.2 0, 180, .inl jl2_33)), (q1, .inr (5, [.ref m1, .int (nI bt1), .int (nI ct1)])), (m1, .inl (N.2 0, 40, .inl nu1)), (km, .inr (10, [.ref sa, .ref hs, .ref shs, .ref ja, .ref uu, .ref tb, .ref ob, .int (fd + nI 1)]))] := hD
        exact ck_iret hx hb hrt hlk ⟨(fd + nI 1), lf2_31, gf2_32, n0, olf, ogf, on, jl2_33, jn2_34⟩ (ckRd_f (by simp [saF, saO, hx1, exn, hbza, hbzb, cz_24, cz_29, cz_37]) (by decide)) (hP.sub [11, 0, 9, 10, 4, 5, 6, 1, 2, 3, 7, 8] rfl) (hD.sub [11, 0, 9, 10, 4, 5, 6, 1, 2, 3, 7, 8] (by decide) rfl) hS ⟨Nat.le_of_ble_eq_true rfl, Nat.le_of_ble_eq_true rfl⟩ dX10_same_144
      refine lv_aload_n hx hb dX10_same_120 rfl (lv_at hl 1 rfl) ?_
      refine lv_aload_n hx hb dX10_same_121 rfl (lv_at hl 1 rfl) ?_
      refine va_get (ci := 10) (v := .ref ob) (C := RX10) (T := TX10) (N := 8) hx hb hg inX10 hown hE.1 hP 4 rfl rfl 6 (by decide) (hg _ k1_222) (fun _ h9 => h9) rfl dX10_same_122 ?_
      refine lv_iload_n hx hb dX10_same_125 rfl (lv_at hl 2 rfl) ?_
      refine lv_aload_n hx hb dX10_same_126 rfl (lv_at hl 1 rfl) ?_
      refine va_get (ci := 10) (v := .ref shs) (C := RX10) (T := TX10) (N := 8) hx hb hg inX10 hown hE.1 hP 4 rfl rfl 2 (by decide) (hg _ k1_218) (fun _ h9 => h9) rfl dX10_same_127 ?_
      refine lv_iload_n hx hb dX10_same_130 rfl (lv_at hl 4 rfl) ?_
      refine ck_aalds hx hb hE hP 0 1 rfl rfl (by omega) (by decide) hq1 dX10_same_131 ?_
      refine ck_Vi (As := [.ref ob, .int (nI n0), .ref q1]) (rest := []) (wr := [(shs, .inl (N.2 1, 4, .inr (.inr (.inr (.inr shf))))), (tb, .inr (9, [.ref tl, .ref tg, .int (nI n0)])), (tl, .inl (N.2 0, 5, .inl lf2_31)), (tg, .inl (N.2 0, 300, .inl gf2_32))]) C0 hP hD hS (c_X10_follow l N km sa hs shs ja uu tb ob fd ob ol og olf ogf on jj jl2_33 jn2_34 q1 m1 bt1 ct1 nu1 n0 (by omega) (by omega) (by omega) (within_ix (by omega) cz_29)) myX10_follow k3_162 ⟨Nat.le_of_ble_eq_true rfl, Nat.le_of_ble_eq_true rfl⟩ [4, 1, 2, 3, 8, 9, 10, 11] [0, 5, 6, 7] ⟨⟨rfl, rfl⟩, by decide, by decide, by decide⟩ 4 rfl rfl rfl rfl hl.1 rfl (Nat.le_of_ble_eq_true rfl) dX10_same_132 ⟨Nat.le_of_ble_eq_true rfl, Nat.le_of_ble_eq_true rfl⟩ (fun r_40 u0 H locs hw0 hP hD hS => ?_)
      obtain ⟨lf2_41, gf2_42, jl2_43, jn2_44⟩ := u0
      have hw_45 : (r_40 = (b2i ((folK nu1 ct1).isSome))) ∧ (∀ wz, folK nu1 ct1 = some wz → ckWd lf2_41 gf2_42 n0 wz) := hw0
      obtain ⟨hv_46, hw_45⟩ := hw_45
      subst hv_46
      have hP : va_P N.1 vwCl [(shs, .inl (N.2 1, 4, .inr (.inr (.inr (.inr shf))))), (tb, .inr (9, [.ref tl, .ref tg, .int (nI n0)])), (tl, .inl (N.2 0, 5, .inl lf2_31)), (tg, .inl (N.2 0, 300, .inl gf2_32)), (km, .inr (10, [.ref sa, .ref hs, .ref shs, .ref ja, .ref uu, .ref tb, .ref ob, .int fd])), (ob, .inr (9, [.ref ol, .ref og, .int (nI n0)])), (ol, .inl (N.2 0, 5, .inl lf2_41)), (og, .inl (N.2 0, 300, .inl gf2_42)), (ja, .inr (3, [.ref jj, .int jn2_44])), (jj, .inl (N.2 0, 180, .inl jl2_43)), (q1, .inr (5, [.ref m1, .int (nI bt1), .int (nI ct1)])), (m1, .inl (N.2 0, 40, .inl nu1))] H := hP
      have hD : va_D Ag [(shs, .inl (N.2 1, 4, .inr (.inr (.inr (.inr shf))))), (tb, .inr (9, [.ref tl, .ref tg, .int (nI n0)])), (tl, .inl (N.2 0, 5, .inl lf2_31)), (tg, .inl (N.2 0, 300, .inl gf2_32)), (km, .inr (10, [.ref sa, .ref hs, .ref shs, .ref ja, .ref uu, .ref tb, .ref ob, .int fd])), (ob, .inr (9, [.ref ol, .ref og, .int (nI n0)])), (ol, .inl (N.2 0, 5, .inl lf2_41)), (og, .inl (N.2 0, 300, .inl gf2_42)), (ja, .inr (3, [.ref jj, .int jn2_44])), (jj, .inl (N.2 0, 180, .inl jl2_43)), (q1, .inr (5, [.ref m1, .int (nI bt1), .int (nI ct1)])), (m1, .inl (N.2 0, 40, .inl nu1))] := hD
      have hfb := hw_45
      refine ck_ifne (b := (folK nu1 ct1).isSome) (tgt := 145) hx hb dX10_same_135 (by decide) (fun cz_47 => ?_) (fun cz_47 => ?_)
      · obtain ⟨ua, hua⟩ := Option.isSome_iff_exists.mp cz_37
        obtain ⟨ub, hub⟩ := Option.isSome_iff_exists.mp cz_47
        refine lv_aload_n hx hb dX10_same_145 rfl (lv_at hl 1 rfl) ?_
        refine va_get (ci := 10) (v := .ref tb) (C := RX10) (T := TX10) (N := 8) hx hb hg inX10 hown hE.1 hP 4 rfl rfl 5 (by decide) (hg _ k1_221) (fun _ h9 => h9) rfl dX10_same_146 ?_
        refine lv_aload_n hx hb dX10_same_149 rfl (lv_at hl 1 rfl) ?_
        refine va_get (ci := 10) (v := .ref ob) (C := RX10) (T := TX10) (N := 8) hx hb hg inX10 hown hE.1 hP 4 rfl rfl 6 (by decide) (hg _ k1_222) (fun _ h9 => h9) rfl dX10_same_150 ?_
        refine ck_Vi (As := [.ref ob]) (rest := []) (wr := [(shs, .inl (N.2 1, 4, .inr (.inr (.inr (.inr shf))))), (km, .inr (10, [.ref sa, .ref hs, .ref shs, .ref ja, .ref uu, .ref tb, .ref ob, .int fd])), (ja, .inr (3, [.ref jj, .int jn2_44])), (jj, .inl (N.2 0, 180, .inl jl2_43)), (q1, .inr (5, [.ref m1, .int (nI bt1), .int (nI ct1)])), (m1, .inl (N.2 0, 40, .inl nu1))]) C0 hP hD hS (c_X9_areThoseOf l N tb tl tg lf2_31 gf2_32 n0 ob ol og lf2_41 gf2_42 n0 ua ub (hfa ua hua) (hfb ub hub) (by omega) (by omega)) myX9_areThoseOf k3_170 ⟨Nat.le_of_ble_eq_true rfl, Nat.le_of_ble_eq_true rfl⟩ [1, 2, 3, 5, 6, 7] [0, 4, 8, 9, 10, 11] ⟨⟨rfl, rfl⟩, by decide, by decide, by decide⟩ 1 rfl rfl rfl rfl hl.1 rfl (Nat.le_of_ble_eq_true rfl) dX10_same_153 ⟨Nat.le_of_ble_eq_true rfl, Nat.le_of_ble_eq_true rfl⟩ (fun r_48 u0 H locs hw0 hP hD hS => ?_)
        have hw_49 : r_48 = (b2i (decide (∀ q, q < n0 → ua q = ub q))) := hw0
        subst hw_49
        have hP : va_P N.1 vwCl [(shs, .inl (N.2 1, 4, .inr (.inr (.inr (.inr shf))))), (km, .inr (10, [.ref sa, .ref hs, .ref shs, .ref ja, .ref uu, .ref tb, .ref ob, .int fd])), (ja, .inr (3, [.ref jj, .int jn2_44])), (jj, .inl (N.2 0, 180, .inl jl2_43)), (q1, .inr (5, [.ref m1, .int (nI bt1), .int (nI ct1)])), (m1, .inl (N.2 0, 40, .inl nu1)), (tb, .inr (9, [.ref tl, .ref tg, .int (nI n0)])), (tl, .inl (N.2 0, 5, .inl lf2_31)), (tg, .inl (N.2 0, 300, .inl gf2_32)), (ob, .inr (9, [.ref ol, .ref og, .int (nI n0)])), (ol, .inl (N.2 0, 5, .inl lf2_41)), (og, .inl (N.2 0, 300, .inl gf2_42))] H := hP
        have hD : va_D Ag [(shs, .inl (N.2 1, 4, .inr (.inr (.inr (.inr shf))))), (km, .inr (10, [.ref sa, .ref hs, .ref shs, .ref ja, .ref uu, .ref tb, .ref ob, .int fd])), (ja, .inr (3, [.ref jj, .int jn2_44])), (jj, .inl (N.2 0, 180, .inl jl2_43)), (q1, .inr (5, [.ref m1, .int (nI bt1), .int (nI ct1)])), (m1, .inl (N.2 0, 40, .inl nu1)), (tb, .inr (9, [.ref tl, .ref tg, .int (nI n0)])), (tl, .inl (N.2 0, 5, .inl lf2_31)), (tg, .inl (N.2 0, 300, .inl gf2_32)), (ob, .inr (9, [.ref ol, .ref og, .int (nI n0)])), (ol, .inl (N.2 0, 5, .inl lf2_41)), (og, .inl (N.2 0, 300, .inl gf2_42))] := hD
        refine ck_Si (As := [.int (b2i (decide (∀ q, q < n0 → ua q = ub q)))]) (rest := []) (wr := [(shs, .inl (N.2 1, 4, .inr (.inr (.inr (.inr shf))))), (km, .inr (10, [.ref sa, .ref hs, .ref shs, .ref ja, .ref uu, .ref tb, .ref ob, .int fd])), (ja, .inr (3, [.ref jj, .int jn2_44])), (jj, .inl (N.2 0, 180, .inl jl2_43)), (q1, .inr (5, [.ref m1, .int (nI bt1), .int (nI ct1)])), (m1, .inl (N.2 0, 40, .inl nu1)), (tb, .inr (9, [.ref tl, .ref tg, .int (nI n0)])), (tl, .inl (N.2 0, 5, .inl lf2_31)), (tg, .inl (N.2 0, 300, .inl gf2_32)), (ob, .inr (9, [.ref ol, .ref og, .int (nI n0)])), (ol, .inl (N.2 0, 5, .inl lf2_41)), (og, .inl (N.2 0, 300, .inl gf2_42))]) C0 hP hD hS (c_X10_oneIf l N (decide (∀ q, q < n0 → ua q = ub q)) ) myX10_oneIf k2_175 ⟨Nat.le_of_ble_eq_true rfl, Nat.le_of_ble_eq_true rfl⟩ [] [0, 1, 2, 3, 4, 5, 6, 7, 8, 9, 10, 11] ⟨⟨rfl, rfl⟩, by decide, by decide, by decide⟩ rfl hl.1 rfl (Nat.le_of_ble_eq_true rfl) dX10_same_156 ⟨Nat.le_of_ble_eq_true rfl, Nat.le_of_ble_eq_true rfl⟩ (fun r_50 u0 H locs hw0 hP hD hS => ?_)
        have hw_51 : r_50 = (b2i (decide (∀ q, q < n0 → ua q = ub q))) := hw0
        subst hw_51
        have hP : va_P N.1 vwCl [(shs, .inl (N.2 1, 4, .inr (.inr (.inr (.inr shf))))), (km, .inr (10, [.ref sa, .ref hs, .ref shs, .ref ja, .ref uu, .ref tb, .ref ob, .int fd])), (ja, .inr (3, [.ref jj, .int jn2_44])), (jj, .inl (N.2 0, 180, .inl jl2_43)), (q1, .inr (5, [.ref m1, .int (nI bt1), .int (nI ct1)])), (m1, .inl (N.2 0, 40, .inl nu1)), (tb, .inr (9, [.ref tl, .ref tg, .int (nI n0)])), (tl, .inl (N.2 0, 5, .inl lf2_31)), (tg, .inl (N.2 0, 300, .inl gf2_32)), (ob, .inr (9, [.ref ol, .ref og, .int (nI n0)])), (ol, .inl (N.2 0, 5, .inl lf2_41)), (og, .inl (N.2 0, 300, .inl gf2_42))] H := hP
        have hD : va_D Ag [(shs, .inl (N.2 1, 4, .inr (.inr (.inr (.inr shf))))), (km, .inr (10, [.ref sa, .ref hs, .ref shs, .ref ja, .ref uu, .ref tb, .ref ob, .int fd])), (ja, .inr (3, [.ref jj, .int jn2_44])), (jj, .inl (N.2 0, 180, .inl jl2_43)), (q1, .inr (5, [.ref m1, .int (nI bt1), .int (nI ct1)])), (m1, .inl (N.2 0, 40, .inl nu1)), (tb, .inr (9, [.ref tl, .ref tg, .int (nI n0)])), (tl, .inl (N.2 0, 5, .inl lf2_31)), (tg, .inl (N.2 0, 300, .inl gf2_32)), (ob, .inr (9, [.ref ol, .ref og, .int (nI n0)])), (ol, .inl (N.2 0, 5, .inl lf2_41)), (og, .inl (N.2 0, 300, .inl gf2_42))] := hD
        exact ck_iret hx hb hrt hlk ⟨fd, lf2_31, gf2_32, n0, lf2_41, gf2_42, n0, jl2_43, jn2_44⟩ (ckRd_ok (by simp [saF, saO, hx1, exn, hbza, hbzb, cz_24, cz_29, cz_37, cz_47]) (by rw [saR, exn, hua]; cases (hua.symm.trans hub); rfl)) (hP.sub [1, 0, 4, 5, 6, 7, 8, 9, 10, 11, 2, 3] rfl) (hD.sub [1, 0, 4, 5, 6, 7, 8, 9, 10, 11, 2, 3] (by decide) rfl) hS ⟨Nat.le_of_ble_eq_true rfl, Nat.le_of_ble_eq_true rfl⟩ dX10_same_159
      exact absurd (cz_37.symm.trans cz_47) (by decide)
    exact absurd (cz_24.symm.trans cz_29) (by decide)
  exact absurd (of_decide_eq_true cz_19) hbza
set_option maxHeartbeats 4000000 in
set_option maxRecDepth 100000 in
/-- X10_same -/
theorem c_X10_same_f (l : Launch) (N : ckN) (km : Nat) (sa : Nat) (hs : Nat) (shs : Nat) (ja : Nat) (uu : Nat) (tb : Nat) (ob : Nat) (fd : Int32) (x : Int32) (y : Int32) (z : Int32) (hbad : (ckIn y (nI 0) (nI 3) && ckIn z (nI 0) (nI 3)) = false) : ckI l yX10_same cX10_same 5 (some FieldType.int) { frames := 3, cells := 0, slots := 0, locals := 81 } N [.ref km, .int x, .int y, .int z] [(km, .inr (10, [.ref sa, .ref hs, .ref shs, .ref ja, .ref uu, .ref tb, .ref ob, .int fd]))] (fun (r : Int32) (u : Int32) => ckRd (-100001) (0) fd r u) (fun (u : Int32) => [(km, .inr (10, [.ref sa, .ref hs, .ref shs, .ref ja, .ref uu, .ref tb, .ref ob, .int u]))]) := by
  refine ckI.of (by decide) (Nat.le_of_ble_eq_true rfl) ?_
  intro pg eg sg mg blw mth cg Ag ls hx hb hrt hml hown hlk hin hg hE hA hP hD hS hl
  have hown : sg.vm.findClass RX10 = some mg.cls := hown
  have hl : lv_has ls 5 [(0, .ref km), (1, .int x), (2, .int y), (3, .int z)] := hl
  have C0 : ckC pg sg mg ([.ref km, .int x, .int y, .int z]).toArray cg cX10_same 5 RX10 N Ag := ⟨⟨hx, hb, hml, hown, hg⟩, hE, hA⟩
  generalize hHe : sg.heap = H at hP
  have hS : va_S Ag sg.heap H [] := hHe ▸ hS
  refine lv_iload_n hx hb dX10_same_0 rfl (lv_at hl 1 rfl) ?_
  refine ck_Si (As := [.int x]) (rest := []) (wr := [(km, .inr (10, [.ref sa, .ref hs, .ref shs, .ref ja, .ref uu, .ref tb, .ref ob, .int fd]))]) C0 hP hD hS (c_X10_isRowSize l N x ) myX10_isRowSize k3_12 ⟨Nat.le_of_ble_eq_true rfl, Nat.le_of_ble_eq_true rfl⟩ [] [0] ⟨⟨rfl, rfl⟩, by decide, by decide, by decide⟩ rfl hl.1 rfl (Nat.le_of_ble_eq_true rfl) dX10_same_1 ⟨Nat.le_of_ble_eq_true rfl, Nat.le_of_ble_eq_true rfl⟩ (fun r_1 u0 H locs hw0 hP hD hS => ?_)
  have hw_2 : r_1 = (b2i (ckIn x (nI 2) (nI 5))) := hw0
  subst hw_2
  have hP : va_P N.1 vwCl [(km, .inr (10, [.ref sa, .ref hs, .ref shs, .ref ja, .ref uu, .ref tb, .ref ob, .int fd]))] H := hP
  have hD : va_D Ag [(km, .inr (10, [.ref sa, .ref hs, .ref shs, .ref ja, .ref uu, .ref tb, .ref ob, .int fd]))] := hD
  refine ck_ifeq (b := ckIn x (nI 2) (nI 5)) (tgt := 21) hx hb dX10_same_4 (by decide) (fun cz_3 => ?_) (fun cz_3 => ?_)
  · refine lv_aload_n hx hb dX10_same_21 rfl (lv_at hl 0 rfl) ?_
    refine lv_ldc (own := RX10) (v := (-100001)) hx hb hown (hg _ k2_14) dX10_same_22 ?_
    refine ck_Vi (As := [.int (-100001)]) (rest := []) (wr := []) C0 hP hD hS (c_X10_finding l N km sa hs shs ja uu tb ob fd (-100001) ) myX10_finding k2_15 ⟨Nat.le_of_ble_eq_true rfl, Nat.le_of_ble_eq_true rfl⟩ [0] [] ⟨⟨rfl, rfl⟩, by decide, by decide, by decide⟩ 0 rfl rfl rfl rfl hl.1 rfl (Nat.le_of_ble_eq_true rfl) dX10_same_24 ⟨Nat.le_of_ble_eq_true rfl, Nat.le_of_ble_eq_true rfl⟩ (fun r_4 u0 H locs hw0 hP hD hS => ?_)
    have hw_5 : r_4 = (-100001) := hw0
    subst hw_5
    have hP : va_P N.1 vwCl [(km, .inr (10, [.ref sa, .ref hs, .ref shs, .ref ja, .ref uu, .ref tb, .ref ob, .int (fd + nI 1)]))] H := hP
    have hD : va_D Ag [(km, .inr (10, [.ref sa, .ref hs, .ref shs, .ref ja, .ref uu, .ref tb, .ref ob, .int (fd + nI 1)]))] := hD
    exact ck_iret hx hb hrt hlk ((fd + nI 1)) (ckRd_f rfl (by decide)) hP hD hS ⟨Nat.le_of_ble_eq_true rfl, Nat.le_of_ble_eq_true rfl⟩ dX10_same_27
  refine lv_iload_n hx hb dX10_same_7 rfl (lv_at hl 2 rfl) ?_
  refine ck_Si (As := [.int y]) (rest := []) (wr := [(km, .inr (10, [.ref sa, .ref hs, .ref shs, .ref ja, .ref uu, .ref tb, .ref ob, .int fd]))]) C0 hP hD hS (c_X10_isSheet l N y ) myX10_isSheet k3_149 ⟨Nat.le_of_ble_eq_true rfl, Nat.le_of_ble_eq_true rfl⟩ [] [0] ⟨⟨rfl, rfl⟩, by decide, by decide, by decide⟩ rfl hl.1 rfl (Nat.le_of_ble_eq_true rfl) dX10_same_8 ⟨Nat.le_of_ble_eq_true rfl, Nat.le_of_ble_eq_true rfl⟩ (fun r_6 u0 H locs hw0 hP hD hS => ?_)
  have hw_7 : r_6 = (b2i (ckIn y (nI 0) (nI 3))) := hw0
  subst hw_7
  have hP : va_P N.1 vwCl [(km, .inr (10, [.ref sa, .ref hs, .ref shs, .ref ja, .ref uu, .ref tb, .ref ob, .int fd]))] H := hP
  have hD : va_D Ag [(km, .inr (10, [.ref sa, .ref hs, .ref shs, .ref ja, .ref uu, .ref tb, .ref ob, .int fd]))] := hD
  refine ck_ifeq (b := ckIn y (nI 0) (nI 3)) (tgt := 21) hx hb dX10_same_11 (by decide) (fun cz_8 => ?_) (fun cz_8 => ?_)
  · refine lv_aload_n hx hb dX10_same_21 rfl (lv_at hl 0 rfl) ?_
    refine lv_ldc (own := RX10) (v := (-100001)) hx hb hown (hg _ k2_14) dX10_same_22 ?_
    refine ck_Vi (As := [.int (-100001)]) (rest := []) (wr := []) C0 hP hD hS (c_X10_finding l N km sa hs shs ja uu tb ob fd (-100001) ) myX10_finding k2_15 ⟨Nat.le_of_ble_eq_true rfl, Nat.le_of_ble_eq_true rfl⟩ [0] [] ⟨⟨rfl, rfl⟩, by decide, by decide, by decide⟩ 0 rfl rfl rfl rfl hl.1 rfl (Nat.le_of_ble_eq_true rfl) dX10_same_24 ⟨Nat.le_of_ble_eq_true rfl, Nat.le_of_ble_eq_true rfl⟩ (fun r_9 u0 H locs hw0 hP hD hS => ?_)
    have hw_10 : r_9 = (-100001) := hw0
    subst hw_10
    have hP : va_P N.1 vwCl [(km, .inr (10, [.ref sa, .ref hs, .ref shs, .ref ja, .ref uu, .ref tb, .ref ob, .int (fd + nI 1)]))] H := hP
    have hD : va_D Ag [(km, .inr (10, [.ref sa, .ref hs, .ref shs, .ref ja, .ref uu, .ref tb, .ref ob, .int (fd + nI 1)]))] := hD
    exact ck_iret hx hb hrt hlk ((fd + nI 1)) (ckRd_f rfl (by decide)) hP hD hS ⟨Nat.le_of_ble_eq_true rfl, Nat.le_of_ble_eq_true rfl⟩ dX10_same_27
  refine lv_iload_n hx hb dX10_same_14 rfl (lv_at hl 3 rfl) ?_
  refine ck_Si (As := [.int z]) (rest := []) (wr := [(km, .inr (10, [.ref sa, .ref hs, .ref shs, .ref ja, .ref uu, .ref tb, .ref ob, .int fd]))]) C0 hP hD hS (c_X10_isSheet l N z ) myX10_isSheet k3_149 ⟨Nat.le_of_ble_eq_true rfl, Nat.le_of_ble_eq_true rfl⟩ [] [0] ⟨⟨rfl, rfl⟩, by decide, by decide, by decide⟩ rfl hl.1 rfl (Nat.le_of_ble_eq_true rfl) dX10_same_15 ⟨Nat.le_of_ble_eq_true rfl, Nat.le_of_ble_eq_true rfl⟩ (fun r_11 u0 H locs hw0 hP hD hS => ?_)
  have hw_12 : r_11 = (b2i (ckIn z (nI 0) (nI 3))) := hw0
  subst hw_12
  have hP : va_P N.1 vwCl [(km, .inr (10, [.ref sa, .ref hs, .ref shs, .ref ja, .ref uu, .ref tb, .ref ob, .int fd]))] H := hP
  have hD : va_D Ag [(km, .inr (10, [.ref sa, .ref hs, .ref shs, .ref ja, .ref uu, .ref tb, .ref ob, .int fd]))] := hD
  refine ck_ifne (b := ckIn z (nI 0) (nI 3)) (tgt := 28) hx hb dX10_same_18 (by decide) (fun cz_13 => absurd cz_13 (by intro q; rw [cz_8, q] at hbad; cases hbad)) (fun cz_13 => ?_)
  refine lv_aload_n hx hb dX10_same_21 rfl (lv_at hl 0 rfl) ?_
  refine lv_ldc (own := RX10) (v := (-100001)) hx hb hown (hg _ k2_14) dX10_same_22 ?_
  refine ck_Vi (As := [.int (-100001)]) (rest := []) (wr := []) C0 hP hD hS (c_X10_finding l N km sa hs shs ja uu tb ob fd (-100001) ) myX10_finding k2_15 ⟨Nat.le_of_ble_eq_true rfl, Nat.le_of_ble_eq_true rfl⟩ [0] [] ⟨⟨rfl, rfl⟩, by decide, by decide, by decide⟩ 0 rfl rfl rfl rfl hl.1 rfl (Nat.le_of_ble_eq_true rfl) dX10_same_24 ⟨Nat.le_of_ble_eq_true rfl, Nat.le_of_ble_eq_true rfl⟩ (fun r_14 u0 H locs hw0 hP hD hS => ?_)
  have hw_15 : r_14 = (-100001) := hw0
  subst hw_15
  have hP : va_P N.1 vwCl [(km, .inr (10, [.ref sa, .ref hs, .ref shs, .ref ja, .ref uu, .ref tb, .ref ob, .int (fd + nI 1)]))] H := hP
  have hD : va_D Ag [(km, .inr (10, [.ref sa, .ref hs, .ref shs, .ref ja, .ref uu, .ref tb, .ref ob, .int (fd + nI 1)]))] := hD
  exact ck_iret hx hb hrt hlk ((fd + nI 1)) (ckRd_f rfl (by decide)) hP hD hS ⟨Nat.le_of_ble_eq_true rfl, Nat.le_of_ble_eq_true rfl⟩ dX10_same_27
set_option maxHeartbeats 4000000 in
set_option maxRecDepth 100000 in
/-- X10_sheet -/
theorem c_X10_sheet_k (l : Launch) (N : ckN) (km : Nat) (sa : Nat) (hs : Nat) (shs : Nat) (ja : Nat) (uu : Nat) (tb : Nat) (ob : Nat) (fd : Int32) (shf : Nat → Option Nat) (s1 : Nat) (q1 : Nat) (m1 : Nat) (bt1 : Nat) (ct1 : Nat) (nu1 : Nat → Int32) (y : Int32) (z : Int32) (hs1 : s1 < 4) (hq1 : shf s1 = some q1) : ckI l yX10_sheet cX10_sheet 4 (some FieldType.int) { frames := 3, cells := 0, slots := 0, locals := 83 } N [.ref km, .int (nI s1), .int y, .int z] [(km, .inr (10, [.ref sa, .ref hs, .ref shs, .ref ja, .ref uu, .ref tb, .ref ob, .int fd])), (shs, .inl (N.2 1, 4, .inr (.inr (.inr (.inr shf))))), (q1, .inr (5, [.ref m1, .int (nI bt1), .int (nI ct1)])), (m1, .inl (N.2 0, 40, .inl nu1))] (fun (r : Int32) (u : Int32 × Nat × Nat × (Nat → Int32)) => (ckRd (shF y z) (nI (shC y z)) fd r u.1) ∧ ((shF y z = 0 ∧ (y = nI (ix y) ∧ ix y ≤ 32) ∧ u.2.2.1 = shC y z ∧ (∀ j, j < u.2.2.1 → u.2.2.2 j = 0) ∧ u.2.1 = ix y) ∨ (shF y z ≠ 0 ∧ u.2.2.1 = ct1 ∧ u.2.2.2 = nu1 ∧ u.2.1 = bt1))) (fun (u : Int32 × Nat × Nat × (Nat → Int32)) => [(km, .inr (10, [.ref sa, .ref hs, .ref shs, .ref ja, .ref uu, .ref tb, .ref ob, .int u.1])), (shs, .inl (N.2 1, 4, .inr (.inr (.inr (.inr shf))))), (q1, .inr (5, [.ref m1, .int (nI u.2.1), .int (nI u.2.2.1)])), (m1, .inl (N.2 0, 40, .inl u.2.2.2))]) := by
  refine ckI.of (by decide) (Nat.le_of_ble_eq_true rfl) ?_
  intro pg eg sg mg blw mth cg Ag ls hx hb hrt hml hown hlk hin hg hE hA hP hD hS hl
  have hown : sg.vm.findClass RX10 = some mg.cls := hown
  have hl : lv_has ls 4 [(0, .ref km), (1, .int (nI s1)), (2, .int y), (3, .int z)] := hl
  have C0 : ckC pg sg mg ([.ref km, .int (nI s1), .int y, .int z]).toArray cg cX10_sheet 4 RX10 N Ag := ⟨⟨hx, hb, hml, hown, hg⟩, hE, hA⟩
  generalize hHe : sg.heap = H at hP
  have hS : va_S Ag sg.heap H [] := hHe ▸ hS
  have hk1 : ckIn (nI s1) (nI 0) (nI 3) = true := ckIn_in (by omega) (by omega) (by decide)
  refine lv_iload_n hx hb dX10_sheet_0 rfl (lv_at hl 1 rfl) ?_
  refine ck_Si (As := [.int (nI s1)]) (rest := []) (wr := [(km, .inr (10, [.ref sa, .ref hs, .ref shs, .ref ja, .ref uu, .ref tb, .ref ob, .int fd])), (shs, .inl (N.2 1, 4, .inr (.inr (.inr (.inr shf))))), (q1, .inr (5, [.ref m1, .int (nI bt1), .int (nI ct1)])), (m1, .inl (N.2 0, 40, .inl nu1))]) C0 hP hD hS (c_X10_isSheet l N (nI s1) ) myX10_isSheet k3_149 ⟨Nat.le_of_ble_eq_true rfl, Nat.le_of_ble_eq_true rfl⟩ [] [0, 1, 2, 3] ⟨⟨rfl, rfl⟩, by decide, by decide, by decide⟩ rfl hl.1 rfl (Nat.le_of_ble_eq_true rfl) dX10_sheet_1 ⟨Nat.le_of_ble_eq_true rfl, Nat.le_of_ble_eq_true rfl⟩ (fun r_1 u0 H locs hw0 hP hD hS => ?_)
  have hw_2 : r_1 = (b2i (ckIn (nI s1) (nI 0) (nI 3))) := hw0
  subst hw_2
  have hP : va_P N.1 vwCl [(km, .inr (10, [.ref sa, .ref hs, .ref shs, .ref ja, .ref uu, .ref tb, .ref ob, .int fd])), (shs, .inl (N.2 1, 4, .inr (.inr (.inr (.inr shf))))), (q1, .inr (5, [.ref m1, .int (nI bt1), .int (nI ct1)])), (m1, .inl (N.2 0, 40, .inl nu1))] H := hP
  have hD : va_D Ag [(km, .inr (10, [.ref sa, .ref hs, .ref shs, .ref ja, .ref uu, .ref tb, .ref ob, .int fd])), (shs, .inl (N.2 1, 4, .inr (.inr (.inr (.inr shf))))), (q1, .inr (5, [.ref m1, .int (nI bt1), .int (nI ct1)])), (m1, .inl (N.2 0, 40, .inl nu1))] := hD
  refine ck_ifeq (b := ckIn (nI s1) (nI 0) (nI 3)) (tgt := 29) hx hb dX10_sheet_4 (by decide) (fun cz_3 => absurd cz_3 (by rw [hk1]; decide)) (fun cz_3 => ?_)
  refine lv_iload_n hx hb dX10_sheet_7 rfl (lv_at hl 2 rfl) ?_
  refine lv_if_eq (tgt := 36) hx hb dX10_sheet_8 (by decide) (fun cz_4 => ?_) (fun cz_4 => ?_)
  · have hy : y = 0 ∨ y = nI 8 ∨ y = nI 16 ∨ y = nI 32 := Or.inl cz_4
    refine lv_iload_n hx hb dX10_sheet_36 rfl (lv_at hl 3 rfl) ?_
    refine lv_if_ge (tgt := 47) hx hb dX10_sheet_37 (by decide) (fun cz_5 => ?_) (fun cz_5 => ?_)
    · have hz0 : ¬ z < 0 := Int32.not_lt.mpr cz_5
      refine lv_iload_n hx hb dX10_sheet_47 rfl (lv_at hl 3 rfl) ?_
      refine lv_bipush (v := (nI 40)) hx hb dX10_sheet_48 (by decide) ?_
      refine lv_icmp_le (tgt := 60) hx hb dX10_sheet_50 (by decide) (fun cz_6 => ?_) (fun cz_6 => ?_)
      · have hz1 := cz_6
        have hyb : y = nI (ix y) ∧ ix y ≤ 32 := by rcases hy with rfl | rfl | rfl | rfl <;> decide
        obtain ⟨z0, hz01, rfl⟩ := nI_of hz0
        have hz40 : z0 ≤ 40 := (nI_leI hz01 (by decide)).mp hz1
        refine lv_aload_n hx hb dX10_sheet_60 rfl (lv_at hl 0 rfl) ?_
        refine va_get (ci := 10) (v := .ref shs) (C := RX10) (T := TX10) (N := 8) hx hb hg inX10 hown hE.1 hP 0 rfl rfl 2 (by decide) (hg _ k1_218) (fun _ h9 => h9) rfl dX10_sheet_61 ?_
        refine lv_iload_n hx hb dX10_sheet_64 rfl (lv_at hl 1 rfl) ?_
        refine ck_aalds hx hb hE hP 1 1 rfl rfl (by omega) (by decide) hq1 dX10_sheet_65 ?_
        refine lv_iload_n hx hb dX10_sheet_66 rfl (lv_at hl 2 rfl) ?_
        refine ck_top (y := (nI (ix y))) hyb.1 ?_
        refine lv_iload_n hx hb dX10_sheet_67 rfl (lv_at hl 3 rfl) ?_
        refine ck_Vv (As := [.int (nI (ix y)), .int (nI z0)]) (rest := []) (wr := [(km, .inr (10, [.ref sa, .ref hs, .ref shs, .ref ja, .ref uu, .ref tb, .ref ob, .int fd])), (shs, .inl (N.2 1, 4, .inr (.inr (.inr (.inr shf)))))]) C0 hP hD hS (c_X5_begin l N q1 m1 nu1 bt1 ct1 (ix y) z0 (by omega) (by omega)) myX5_begin k3_194 ⟨Nat.le_of_ble_eq_true rfl, Nat.le_of_ble_eq_true rfl⟩ [2, 3] [0, 1] ⟨⟨rfl, rfl⟩, by decide, by decide, by decide⟩ 2 rfl rfl rfl rfl hl.1 rfl (Nat.le_of_ble_eq_true rfl) dX10_sheet_68 ⟨Nat.le_of_ble_eq_true rfl, Nat.le_of_ble_eq_true rfl⟩ (fun u0 H locs hw0 hP hD hS => ?_)
        obtain ⟨g2_8, n2_9⟩ := u0
        have hw_10 : n2_9 = (if (ix y) = 0 then 0 else z0) ∧ ∀ j, j < n2_9 → g2_8 j = 0 := hw0
        have hP : va_P N.1 vwCl [(km, .inr (10, [.ref sa, .ref hs, .ref shs, .ref ja, .ref uu, .ref tb, .ref ob, .int fd])), (shs, .inl (N.2 1, 4, .inr (.inr (.inr (.inr shf))))), (q1, .inr (5, [.ref m1, .int (nI (ix y)), .int (nI n2_9)])), (m1, .inl (N.2 0, 40, .inl g2_8))] H := hP
        have hD : va_D Ag [(km, .inr (10, [.ref sa, .ref hs, .ref shs, .ref ja, .ref uu, .ref tb, .ref ob, .int fd])), (shs, .inl (N.2 1, 4, .inr (.inr (.inr (.inr shf))))), (q1, .inr (5, [.ref m1, .int (nI (ix y)), .int (nI n2_9)])), (m1, .inl (N.2 0, 40, .inl g2_8))] := hD
        have hsc := hw_10
        refine lv_aload_n hx hb dX10_sheet_71 rfl (lv_at hl 0 rfl) ?_
        refine va_get (ci := 10) (v := .ref shs) (C := RX10) (T := TX10) (N := 8) hx hb hg inX10 hown hE.1 hP 0 rfl rfl 2 (by decide) (hg _ k1_218) (fun _ h9 => h9) rfl dX10_sheet_72 ?_
        refine lv_iload_n hx hb dX10_sheet_75 rfl (lv_at hl 1 rfl) ?_
        refine ck_aalds hx hb hE hP 1 1 rfl rfl (by omega) (by decide) hq1 dX10_sheet_76 ?_
        refine va_getN (ci := 5) (v := .int (nI n2_9)) (C := RX5) (T := TX5) (N := 3) (host := "KiteMeet") hx hb hg inX5 hown hE.1 hP 2 rfl rfl 2 (by decide) (hE.nf 23 rfl _) (fun _ h9 => h9) rfl dX10_sheet_77 ?_
        exact ck_iret hx hb hrt hlk ⟨fd, (ix y), n2_9, g2_8⟩ (by have he := (((if_pos hy).trans ((if_neg (nI_pos hz01)).trans (if_pos hz1))) : shF y (nI z0) = 0); have hsq := hsc.1.trans (shC_eq hy hz01); exact ⟨ckRd_ok he (congrArg nI hsq), Or.inl ⟨he, hyb, hsq, hsc.2, rfl⟩⟩) hP hD hS ⟨Nat.le_of_ble_eq_true rfl, Nat.le_of_ble_eq_true rfl⟩ dX10_sheet_80
      have hz1 := cz_6
      refine lv_aload_n hx hb dX10_sheet_53 rfl (lv_at hl 0 rfl) ?_
      refine lv_ldc (own := RX10) (v := (-100001)) hx hb hown (hg _ k2_14) dX10_sheet_54 ?_
      refine ck_Vi (As := [.int (-100001)]) (rest := []) (wr := [(shs, .inl (N.2 1, 4, .inr (.inr (.inr (.inr shf))))), (q1, .inr (5, [.ref m1, .int (nI bt1), .int (nI ct1)])), (m1, .inl (N.2 0, 40, .inl nu1))]) C0 hP hD hS (c_X10_finding l N km sa hs shs ja uu tb ob fd (-100001) ) myX10_finding k2_15 ⟨Nat.le_of_ble_eq_true rfl, Nat.le_of_ble_eq_true rfl⟩ [0] [1, 2, 3] ⟨⟨rfl, rfl⟩, by decide, by decide, by decide⟩ 0 rfl rfl rfl rfl hl.1 rfl (Nat.le_of_ble_eq_true rfl) dX10_sheet_56 ⟨Nat.le_of_ble_eq_true rfl, Nat.le_of_ble_eq_true rfl⟩ (fun r_11 u0 H locs hw0 hP hD hS => ?_)
      have hw_12 : r_11 = (-100001) := hw0
      subst hw_12
      have hP : va_P N.1 vwCl [(shs, .inl (N.2 1, 4, .inr (.inr (.inr (.inr shf))))), (q1, .inr (5, [.ref m1, .int (nI bt1), .int (nI ct1)])), (m1, .inl (N.2 0, 40, .inl nu1)), (km, .inr (10, [.ref sa, .ref hs, .ref shs, .ref ja, .ref uu, .ref tb, .ref ob, .int (fd + nI 1)]))] H := hP
      have hD : va_D Ag [(shs, .inl (N.2 1, 4, .inr (.inr (.inr (.inr shf))))), (q1, .inr (5, [.ref m1, .int (nI bt1), .int (nI ct1)])), (m1, .inl (N.2 0, 40, .inl nu1)), (km, .inr (10, [.ref sa, .ref hs, .ref shs, .ref ja, .ref uu, .ref tb, .ref ob, .int (fd + nI 1)]))] := hD
      exact ck_iret hx hb hrt hlk ⟨(fd + nI 1), bt1, ct1, nu1⟩ (by have he := (((if_pos hy).trans ((if_neg hz0).trans (if_neg hz1))) : shF y z = (-100001)); exact ⟨ckRd_f he (by decide), Or.inr ⟨fun q => absurd (he.symm.trans q) (by decide), rfl, rfl, rfl⟩⟩) (hP.sub [3, 0, 1, 2] rfl) (hD.sub [3, 0, 1, 2] (by decide) rfl) hS ⟨Nat.le_of_ble_eq_true rfl, Nat.le_of_ble_eq_true rfl⟩ dX10_sheet_59
    have hz0 : z < 0 := Int32.not_le.mp cz_5
    refine lv_aload_n hx hb dX10_sheet_40 rfl (lv_at hl 0 rfl) ?_
    refine lv_ldc (own := RX10) (v := (-100003)) hx hb hown (hg _ k2_31) dX10_sheet_41 ?_
    refine ck_Vi (As := [.int (-100003)]) (rest := []) (wr := [(shs, .inl (N.2 1, 4, .inr (.inr (.inr (.inr shf))))), (q1, .inr (5, [.ref m1, .int (nI bt1), .int (nI ct1)])), (m1, .inl (N.2 0, 40, .inl nu1))]) C0 hP hD hS (c_X10_finding l N km sa hs shs ja uu tb ob fd (-100003) ) myX10_finding k2_15 ⟨Nat.le_of_ble_eq_true rfl, Nat.le_of_ble_eq_true rfl⟩ [0] [1, 2, 3] ⟨⟨rfl, rfl⟩, by decide, by decide, by decide⟩ 0 rfl rfl rfl rfl hl.1 rfl (Nat.le_of_ble_eq_true rfl) dX10_sheet_43 ⟨Nat.le_of_ble_eq_true rfl, Nat.le_of_ble_eq_true rfl⟩ (fun r_13 u0 H locs hw0 hP hD hS => ?_)
    have hw_14 : r_13 = (-100003) := hw0
    subst hw_14
    have hP : va_P N.1 vwCl [(shs, .inl (N.2 1, 4, .inr (.inr (.inr (.inr shf))))), (q1, .inr (5, [.ref m1, .int (nI bt1), .int (nI ct1)])), (m1, .inl (N.2 0, 40, .inl nu1)), (km, .inr (10, [.ref sa, .ref hs, .ref shs, .ref ja, .ref uu, .ref tb, .ref ob, .int (fd + nI 1)]))] H := hP
    have hD : va_D Ag [(shs, .inl (N.2 1, 4, .inr (.inr (.inr (.inr shf))))), (q1, .inr (5, [.ref m1, .int (nI bt1), .int (nI ct1)])), (m1, .inl (N.2 0, 40, .inl nu1)), (km, .inr (10, [.ref sa, .ref hs, .ref shs, .ref ja, .ref uu, .ref tb, .ref ob, .int (fd + nI 1)]))] := hD
    exact ck_iret hx hb hrt hlk ⟨(fd + nI 1), bt1, ct1, nu1⟩ (by have he := (((if_pos hy).trans (if_pos hz0)) : shF y z = (-100003)); exact ⟨ckRd_f he (by decide), Or.inr ⟨fun q => absurd (he.symm.trans q) (by decide), rfl, rfl, rfl⟩⟩) (hP.sub [3, 0, 1, 2] rfl) (hD.sub [3, 0, 1, 2] (by decide) rfl) hS ⟨Nat.le_of_ble_eq_true rfl, Nat.le_of_ble_eq_true rfl⟩ dX10_sheet_46
  refine lv_iload_n hx hb dX10_sheet_11 rfl (lv_at hl 2 rfl) ?_
  refine lv_bipush (v := (nI 8)) hx hb dX10_sheet_12 (by decide) ?_
  refine lv_icmp_eq (tgt := 36) hx hb dX10_sheet_14 (by decide) (fun cz_15 => ?_) (fun cz_15 => ?_)
  · have hy : y = 0 ∨ y = nI 8 ∨ y = nI 16 ∨ y = nI 32 := Or.inr (Or.inl cz_15)
    refine lv_iload_n hx hb dX10_sheet_36 rfl (lv_at hl 3 rfl) ?_
    refine lv_if_ge (tgt := 47) hx hb dX10_sheet_37 (by decide) (fun cz_16 => ?_) (fun cz_16 => ?_)
    · have hz0 : ¬ z < 0 := Int32.not_lt.mpr cz_16
      refine lv_iload_n hx hb dX10_sheet_47 rfl (lv_at hl 3 rfl) ?_
      refine lv_bipush (v := (nI 40)) hx hb dX10_sheet_48 (by decide) ?_
      refine lv_icmp_le (tgt := 60) hx hb dX10_sheet_50 (by decide) (fun cz_17 => ?_) (fun cz_17 => ?_)
      · have hz1 := cz_17
        have hyb : y = nI (ix y) ∧ ix y ≤ 32 := by rcases hy with rfl | rfl | rfl | rfl <;> decide
        obtain ⟨z0, hz01, rfl⟩ := nI_of hz0
        have hz40 : z0 ≤ 40 := (nI_leI hz01 (by decide)).mp hz1
        refine lv_aload_n hx hb dX10_sheet_60 rfl (lv_at hl 0 rfl) ?_
        refine va_get (ci := 10) (v := .ref shs) (C := RX10) (T := TX10) (N := 8) hx hb hg inX10 hown hE.1 hP 0 rfl rfl 2 (by decide) (hg _ k1_218) (fun _ h9 => h9) rfl dX10_sheet_61 ?_
        refine lv_iload_n hx hb dX10_sheet_64 rfl (lv_at hl 1 rfl) ?_
        refine ck_aalds hx hb hE hP 1 1 rfl rfl (by omega) (by decide) hq1 dX10_sheet_65 ?_
        refine lv_iload_n hx hb dX10_sheet_66 rfl (lv_at hl 2 rfl) ?_
        refine ck_top (y := (nI (ix y))) hyb.1 ?_
        refine lv_iload_n hx hb dX10_sheet_67 rfl (lv_at hl 3 rfl) ?_
        refine ck_Vv (As := [.int (nI (ix y)), .int (nI z0)]) (rest := []) (wr := [(km, .inr (10, [.ref sa, .ref hs, .ref shs, .ref ja, .ref uu, .ref tb, .ref ob, .int fd])), (shs, .inl (N.2 1, 4, .inr (.inr (.inr (.inr shf)))))]) C0 hP hD hS (c_X5_begin l N q1 m1 nu1 bt1 ct1 (ix y) z0 (by omega) (by omega)) myX5_begin k3_194 ⟨Nat.le_of_ble_eq_true rfl, Nat.le_of_ble_eq_true rfl⟩ [2, 3] [0, 1] ⟨⟨rfl, rfl⟩, by decide, by decide, by decide⟩ 2 rfl rfl rfl rfl hl.1 rfl (Nat.le_of_ble_eq_true rfl) dX10_sheet_68 ⟨Nat.le_of_ble_eq_true rfl, Nat.le_of_ble_eq_true rfl⟩ (fun u0 H locs hw0 hP hD hS => ?_)
        obtain ⟨g2_19, n2_20⟩ := u0
        have hw_21 : n2_20 = (if (ix y) = 0 then 0 else z0) ∧ ∀ j, j < n2_20 → g2_19 j = 0 := hw0
        have hP : va_P N.1 vwCl [(km, .inr (10, [.ref sa, .ref hs, .ref shs, .ref ja, .ref uu, .ref tb, .ref ob, .int fd])), (shs, .inl (N.2 1, 4, .inr (.inr (.inr (.inr shf))))), (q1, .inr (5, [.ref m1, .int (nI (ix y)), .int (nI n2_20)])), (m1, .inl (N.2 0, 40, .inl g2_19))] H := hP
        have hD : va_D Ag [(km, .inr (10, [.ref sa, .ref hs, .ref shs, .ref ja, .ref uu, .ref tb, .ref ob, .int fd])), (shs, .inl (N.2 1, 4, .inr (.inr (.inr (.inr shf))))), (q1, .inr (5, [.ref m1, .int (nI (ix y)), .int (nI n2_20)])), (m1, .inl (N.2 0, 40, .inl g2_19))] := hD
        have hsc := hw_21
        refine lv_aload_n hx hb dX10_sheet_71 rfl (lv_at hl 0 rfl) ?_
        refine va_get (ci := 10) (v := .ref shs) (C := RX10) (T := TX10) (N := 8) hx hb hg inX10 hown hE.1 hP 0 rfl rfl 2 (by decide) (hg _ k1_218) (fun _ h9 => h9) rfl dX10_sheet_72 ?_
        refine lv_iload_n hx hb dX10_sheet_75 rfl (lv_at hl 1 rfl) ?_
        refine ck_aalds hx hb hE hP 1 1 rfl rfl (by omega) (by decide) hq1 dX10_sheet_76 ?_
        refine va_getN (ci := 5) (v := .int (nI n2_20)) (C := RX5) (T := TX5) (N := 3) (host := "KiteMeet") hx hb hg inX5 hown hE.1 hP 2 rfl rfl 2 (by decide) (hE.nf 23 rfl _) (fun _ h9 => h9) rfl dX10_sheet_77 ?_
        exact ck_iret hx hb hrt hlk ⟨fd, (ix y), n2_20, g2_19⟩ (by have he := (((if_pos hy).trans ((if_neg (nI_pos hz01)).trans (if_pos hz1))) : shF y (nI z0) = 0); have hsq := hsc.1.trans (shC_eq hy hz01); exact ⟨ckRd_ok he (congrArg nI hsq), Or.inl ⟨he, hyb, hsq, hsc.2, rfl⟩⟩) hP hD hS ⟨Nat.le_of_ble_eq_true rfl, Nat.le_of_ble_eq_true rfl⟩ dX10_sheet_80
      have hz1 := cz_17
      refine lv_aload_n hx hb dX10_sheet_53 rfl (lv_at hl 0 rfl) ?_
      refine lv_ldc (own := RX10) (v := (-100001)) hx hb hown (hg _ k2_14) dX10_sheet_54 ?_
      refine ck_Vi (As := [.int (-100001)]) (rest := []) (wr := [(shs, .inl (N.2 1, 4, .inr (.inr (.inr (.inr shf))))), (q1, .inr (5, [.ref m1, .int (nI bt1), .int (nI ct1)])), (m1, .inl (N.2 0, 40, .inl nu1))]) C0 hP hD hS (c_X10_finding l N km sa hs shs ja uu tb ob fd (-100001) ) myX10_finding k2_15 ⟨Nat.le_of_ble_eq_true rfl, Nat.le_of_ble_eq_true rfl⟩ [0] [1, 2, 3] ⟨⟨rfl, rfl⟩, by decide, by decide, by decide⟩ 0 rfl rfl rfl rfl hl.1 rfl (Nat.le_of_ble_eq_true rfl) dX10_sheet_56 ⟨Nat.le_of_ble_eq_true rfl, Nat.le_of_ble_eq_true rfl⟩ (fun r_22 u0 H locs hw0 hP hD hS => ?_)
      have hw_23 : r_22 = (-100001) := hw0
      subst hw_23
      have hP : va_P N.1 vwCl [(shs, .inl (N.2 1, 4, .inr (.inr (.inr (.inr shf))))), (q1, .inr (5, [.ref m1, .int (nI bt1), .int (nI ct1)])), (m1, .inl (N.2 0, 40, .inl nu1)), (km, .inr (10, [.ref sa, .ref hs, .ref shs, .ref ja, .ref uu, .ref tb, .ref ob, .int (fd + nI 1)]))] H := hP
      have hD : va_D Ag [(shs, .inl (N.2 1, 4, .inr (.inr (.inr (.inr shf))))), (q1, .inr (5, [.ref m1, .int (nI bt1), .int (nI ct1)])), (m1, .inl (N.2 0, 40, .inl nu1)), (km, .inr (10, [.ref sa, .ref hs, .ref shs, .ref ja, .ref uu, .ref tb, .ref ob, .int (fd + nI 1)]))] := hD
      exact ck_iret hx hb hrt hlk ⟨(fd + nI 1), bt1, ct1, nu1⟩ (by have he := (((if_pos hy).trans ((if_neg hz0).trans (if_neg hz1))) : shF y z = (-100001)); exact ⟨ckRd_f he (by decide), Or.inr ⟨fun q => absurd (he.symm.trans q) (by decide), rfl, rfl, rfl⟩⟩) (hP.sub [3, 0, 1, 2] rfl) (hD.sub [3, 0, 1, 2] (by decide) rfl) hS ⟨Nat.le_of_ble_eq_true rfl, Nat.le_of_ble_eq_true rfl⟩ dX10_sheet_59
    have hz0 : z < 0 := Int32.not_le.mp cz_16
    refine lv_aload_n hx hb dX10_sheet_40 rfl (lv_at hl 0 rfl) ?_
    refine lv_ldc (own := RX10) (v := (-100003)) hx hb hown (hg _ k2_31) dX10_sheet_41 ?_
    refine ck_Vi (As := [.int (-100003)]) (rest := []) (wr := [(shs, .inl (N.2 1, 4, .inr (.inr (.inr (.inr shf))))), (q1, .inr (5, [.ref m1, .int (nI bt1), .int (nI ct1)])), (m1, .inl (N.2 0, 40, .inl nu1))]) C0 hP hD hS (c_X10_finding l N km sa hs shs ja uu tb ob fd (-100003) ) myX10_finding k2_15 ⟨Nat.le_of_ble_eq_true rfl, Nat.le_of_ble_eq_true rfl⟩ [0] [1, 2, 3] ⟨⟨rfl, rfl⟩, by decide, by decide, by decide⟩ 0 rfl rfl rfl rfl hl.1 rfl (Nat.le_of_ble_eq_true rfl) dX10_sheet_43 ⟨Nat.le_of_ble_eq_true rfl, Nat.le_of_ble_eq_true rfl⟩ (fun r_24 u0 H locs hw0 hP hD hS => ?_)
    have hw_25 : r_24 = (-100003) := hw0
    subst hw_25
    have hP : va_P N.1 vwCl [(shs, .inl (N.2 1, 4, .inr (.inr (.inr (.inr shf))))), (q1, .inr (5, [.ref m1, .int (nI bt1), .int (nI ct1)])), (m1, .inl (N.2 0, 40, .inl nu1)), (km, .inr (10, [.ref sa, .ref hs, .ref shs, .ref ja, .ref uu, .ref tb, .ref ob, .int (fd + nI 1)]))] H := hP
    have hD : va_D Ag [(shs, .inl (N.2 1, 4, .inr (.inr (.inr (.inr shf))))), (q1, .inr (5, [.ref m1, .int (nI bt1), .int (nI ct1)])), (m1, .inl (N.2 0, 40, .inl nu1)), (km, .inr (10, [.ref sa, .ref hs, .ref shs, .ref ja, .ref uu, .ref tb, .ref ob, .int (fd + nI 1)]))] := hD
    exact ck_iret hx hb hrt hlk ⟨(fd + nI 1), bt1, ct1, nu1⟩ (by have he := (((if_pos hy).trans (if_pos hz0)) : shF y z = (-100003)); exact ⟨ckRd_f he (by decide), Or.inr ⟨fun q => absurd (he.symm.trans q) (by decide), rfl, rfl, rfl⟩⟩) (hP.sub [3, 0, 1, 2] rfl) (hD.sub [3, 0, 1, 2] (by decide) rfl) hS ⟨Nat.le_of_ble_eq_true rfl, Nat.le_of_ble_eq_true rfl⟩ dX10_sheet_46
  refine lv_iload_n hx hb dX10_sheet_17 rfl (lv_at hl 2 rfl) ?_
  refine lv_bipush (v := (nI 16)) hx hb dX10_sheet_18 (by decide) ?_
  refine lv_icmp_eq (tgt := 36) hx hb dX10_sheet_20 (by decide) (fun cz_26 => ?_) (fun cz_26 => ?_)
  · have hy : y = 0 ∨ y = nI 8 ∨ y = nI 16 ∨ y = nI 32 := Or.inr (Or.inr (Or.inl cz_26))
    refine lv_iload_n hx hb dX10_sheet_36 rfl (lv_at hl 3 rfl) ?_
    refine lv_if_ge (tgt := 47) hx hb dX10_sheet_37 (by decide) (fun cz_27 => ?_) (fun cz_27 => ?_)
    · have hz0 : ¬ z < 0 := Int32.not_lt.mpr cz_27
      refine lv_iload_n hx hb dX10_sheet_47 rfl (lv_at hl 3 rfl) ?_
      refine lv_bipush (v := (nI 40)) hx hb dX10_sheet_48 (by decide) ?_
      refine lv_icmp_le (tgt := 60) hx hb dX10_sheet_50 (by decide) (fun cz_28 => ?_) (fun cz_28 => ?_)
      · have hz1 := cz_28
        have hyb : y = nI (ix y) ∧ ix y ≤ 32 := by rcases hy with rfl | rfl | rfl | rfl <;> decide
        obtain ⟨z0, hz01, rfl⟩ := nI_of hz0
        have hz40 : z0 ≤ 40 := (nI_leI hz01 (by decide)).mp hz1
        refine lv_aload_n hx hb dX10_sheet_60 rfl (lv_at hl 0 rfl) ?_
        refine va_get (ci := 10) (v := .ref shs) (C := RX10) (T := TX10) (N := 8) hx hb hg inX10 hown hE.1 hP 0 rfl rfl 2 (by decide) (hg _ k1_218) (fun _ h9 => h9) rfl dX10_sheet_61 ?_
        refine lv_iload_n hx hb dX10_sheet_64 rfl (lv_at hl 1 rfl) ?_
        refine ck_aalds hx hb hE hP 1 1 rfl rfl (by omega) (by decide) hq1 dX10_sheet_65 ?_
        refine lv_iload_n hx hb dX10_sheet_66 rfl (lv_at hl 2 rfl) ?_
        refine ck_top (y := (nI (ix y))) hyb.1 ?_
        refine lv_iload_n hx hb dX10_sheet_67 rfl (lv_at hl 3 rfl) ?_
        refine ck_Vv (As := [.int (nI (ix y)), .int (nI z0)]) (rest := []) (wr := [(km, .inr (10, [.ref sa, .ref hs, .ref shs, .ref ja, .ref uu, .ref tb, .ref ob, .int fd])), (shs, .inl (N.2 1, 4, .inr (.inr (.inr (.inr shf)))))]) C0 hP hD hS (c_X5_begin l N q1 m1 nu1 bt1 ct1 (ix y) z0 (by omega) (by omega)) myX5_begin k3_194 ⟨Nat.le_of_ble_eq_true rfl, Nat.le_of_ble_eq_true rfl⟩ [2, 3] [0, 1] ⟨⟨rfl, rfl⟩, by decide, by decide, by decide⟩ 2 rfl rfl rfl rfl hl.1 rfl (Nat.le_of_ble_eq_true rfl) dX10_sheet_68 ⟨Nat.le_of_ble_eq_true rfl, Nat.le_of_ble_eq_true rfl⟩ (fun u0 H locs hw0 hP hD hS => ?_)
        obtain ⟨g2_30, n2_31⟩ := u0
        have hw_32 : n2_31 = (if (ix y) = 0 then 0 else z0) ∧ ∀ j, j < n2_31 → g2_30 j = 0 := hw0
        have hP : va_P N.1 vwCl [(km, .inr (10, [.ref sa, .ref hs, .ref shs, .ref ja, .ref uu, .ref tb, .ref ob, .int fd])), (shs, .inl (N.2 1, 4, .inr (.inr (.inr (.inr shf))))), (q1, .inr (5, [.ref m1, .int (nI (ix y)), .int (nI n2_31)])), (m1, .inl (N.2 0, 40, .inl g2_30))] H := hP
        have hD : va_D Ag [(km, .inr (10, [.ref sa, .ref hs, .ref shs, .ref ja, .ref uu, .ref tb, .ref ob, .int fd])), (shs, .inl (N.2 1, 4, .inr (.inr (.inr (.inr shf))))), (q1, .inr (5, [.ref m1, .int (nI (ix y)), .int (nI n2_31)])), (m1, .inl (N.2 0, 40, .inl g2_30))] := hD
        have hsc := hw_32
        refine lv_aload_n hx hb dX10_sheet_71 rfl (lv_at hl 0 rfl) ?_
        refine va_get (ci := 10) (v := .ref shs) (C := RX10) (T := TX10) (N := 8) hx hb hg inX10 hown hE.1 hP 0 rfl rfl 2 (by decide) (hg _ k1_218) (fun _ h9 => h9) rfl dX10_sheet_72 ?_
        refine lv_iload_n hx hb dX10_sheet_75 rfl (lv_at hl 1 rfl) ?_
        refine ck_aalds hx hb hE hP 1 1 rfl rfl (by omega) (by decide) hq1 dX10_sheet_76 ?_
        refine va_getN (ci := 5) (v := .int (nI n2_31)) (C := RX5) (T := TX5) (N := 3) (host := "KiteMeet") hx hb hg inX5 hown hE.1 hP 2 rfl rfl 2 (by decide) (hE.nf 23 rfl _) (fun _ h9 => h9) rfl dX10_sheet_77 ?_
        exact ck_iret hx hb hrt hlk ⟨fd, (ix y), n2_31, g2_30⟩ (by have he := (((if_pos hy).trans ((if_neg (nI_pos hz01)).trans (if_pos hz1))) : shF y (nI z0) = 0); have hsq := hsc.1.trans (shC_eq hy hz01); exact ⟨ckRd_ok he (congrArg nI hsq), Or.inl ⟨he, hyb, hsq, hsc.2, rfl⟩⟩) hP hD hS ⟨Nat.le_of_ble_eq_true rfl, Nat.le_of_ble_eq_true rfl⟩ dX10_sheet_80
      have hz1 := cz_28
      refine lv_aload_n hx hb dX10_sheet_53 rfl (lv_at hl 0 rfl) ?_
      refine lv_ldc (own := RX10) (v := (-100001)) hx hb hown (hg _ k2_14) dX10_sheet_54 ?_
      refine ck_Vi (As := [.int (-100001)]) (rest := []) (wr := [(shs, .inl (N.2 1, 4, .inr (.inr (.inr (.inr shf))))), (q1, .inr (5, [.ref m1, .int (nI bt1), .int (nI ct1)])), (m1, .inl (N.2 0, 40, .inl nu1))]) C0 hP hD hS (c_X10_finding l N km sa hs shs ja uu tb ob fd (-100001) ) myX10_finding k2_15 ⟨Nat.le_of_ble_eq_true rfl, Nat.le_of_ble_eq_true rfl⟩ [0] [1, 2, 3] ⟨⟨rfl, rfl⟩, by decide, by decide, by decide⟩ 0 rfl rfl rfl rfl hl.1 rfl (Nat.le_of_ble_eq_true rfl) dX10_sheet_56 ⟨Nat.le_of_ble_eq_true rfl, Nat.le_of_ble_eq_true rfl⟩ (fun r_33 u0 H locs hw0 hP hD hS => ?_)
      have hw_34 : r_33 = (-100001) := hw0
      subst hw_34
      have hP : va_P N.1 vwCl [(shs, .inl (N.2 1, 4, .inr (.inr (.inr (.inr shf))))), (q1, .inr (5, [.ref m1, .int (nI bt1), .int (nI ct1)])), (m1, .inl (N.2 0, 40, .inl nu1)), (km, .inr (10, [.ref sa, .ref hs, .ref shs, .ref ja, .ref uu, .ref tb, .ref ob, .int (fd + nI 1)]))] H := hP
      have hD : va_D Ag [(shs, .inl (N.2 1, 4, .inr (.inr (.inr (.inr shf))))), (q1, .inr (5, [.ref m1, .int (nI bt1), .int (nI ct1)])), (m1, .inl (N.2 0, 40, .inl nu1)), (km, .inr (10, [.ref sa, .ref hs, .ref shs, .ref ja, .ref uu, .ref tb, .ref ob, .int (fd + nI 1)]))] := hD
      exact ck_iret hx hb hrt hlk ⟨(fd + nI 1), bt1, ct1, nu1⟩ (by have he := (((if_pos hy).trans ((if_neg hz0).trans (if_neg hz1))) : shF y z = (-100001)); exact ⟨ckRd_f he (by decide), Or.inr ⟨fun q => absurd (he.symm.trans q) (by decide), rfl, rfl, rfl⟩⟩) (hP.sub [3, 0, 1, 2] rfl) (hD.sub [3, 0, 1, 2] (by decide) rfl) hS ⟨Nat.le_of_ble_eq_true rfl, Nat.le_of_ble_eq_true rfl⟩ dX10_sheet_59
    have hz0 : z < 0 := Int32.not_le.mp cz_27
    refine lv_aload_n hx hb dX10_sheet_40 rfl (lv_at hl 0 rfl) ?_
    refine lv_ldc (own := RX10) (v := (-100003)) hx hb hown (hg _ k2_31) dX10_sheet_41 ?_
    refine ck_Vi (As := [.int (-100003)]) (rest := []) (wr := [(shs, .inl (N.2 1, 4, .inr (.inr (.inr (.inr shf))))), (q1, .inr (5, [.ref m1, .int (nI bt1), .int (nI ct1)])), (m1, .inl (N.2 0, 40, .inl nu1))]) C0 hP hD hS (c_X10_finding l N km sa hs shs ja uu tb ob fd (-100003) ) myX10_finding k2_15 ⟨Nat.le_of_ble_eq_true rfl, Nat.le_of_ble_eq_true rfl⟩ [0] [1, 2, 3] ⟨⟨rfl, rfl⟩, by decide, by decide, by decide⟩ 0 rfl rfl rfl rfl hl.1 rfl (Nat.le_of_ble_eq_true rfl) dX10_sheet_43 ⟨Nat.le_of_ble_eq_true rfl, Nat.le_of_ble_eq_true rfl⟩ (fun r_35 u0 H locs hw0 hP hD hS => ?_)
    have hw_36 : r_35 = (-100003) := hw0
    subst hw_36
    have hP : va_P N.1 vwCl [(shs, .inl (N.2 1, 4, .inr (.inr (.inr (.inr shf))))), (q1, .inr (5, [.ref m1, .int (nI bt1), .int (nI ct1)])), (m1, .inl (N.2 0, 40, .inl nu1)), (km, .inr (10, [.ref sa, .ref hs, .ref shs, .ref ja, .ref uu, .ref tb, .ref ob, .int (fd + nI 1)]))] H := hP
    have hD : va_D Ag [(shs, .inl (N.2 1, 4, .inr (.inr (.inr (.inr shf))))), (q1, .inr (5, [.ref m1, .int (nI bt1), .int (nI ct1)])), (m1, .inl (N.2 0, 40, .inl nu1)), (km, .inr (10, [.ref sa, .ref hs, .ref shs, .ref ja, .ref uu, .ref tb, .ref ob, .int (fd + nI 1)]))] := hD
    exact ck_iret hx hb hrt hlk ⟨(fd + nI 1), bt1, ct1, nu1⟩ (by have he := (((if_pos hy).trans (if_pos hz0)) : shF y z = (-100003)); exact ⟨ckRd_f he (by decide), Or.inr ⟨fun q => absurd (he.symm.trans q) (by decide), rfl, rfl, rfl⟩⟩) (hP.sub [3, 0, 1, 2] rfl) (hD.sub [3, 0, 1, 2] (by decide) rfl) hS ⟨Nat.le_of_ble_eq_true rfl, Nat.le_of_ble_eq_true rfl⟩ dX10_sheet_46
  refine lv_iload_n hx hb dX10_sheet_23 rfl (lv_at hl 2 rfl) ?_
  refine lv_bipush (v := (nI 32)) hx hb dX10_sheet_24 (by decide) ?_
  refine lv_icmp_eq (tgt := 36) hx hb dX10_sheet_26 (by decide) (fun cz_37 => ?_) (fun cz_37 => ?_)
  · have hy : y = 0 ∨ y = nI 8 ∨ y = nI 16 ∨ y = nI 32 := Or.inr (Or.inr (Or.inr cz_37))
    refine lv_iload_n hx hb dX10_sheet_36 rfl (lv_at hl 3 rfl) ?_
    refine lv_if_ge (tgt := 47) hx hb dX10_sheet_37 (by decide) (fun cz_38 => ?_) (fun cz_38 => ?_)
    · have hz0 : ¬ z < 0 := Int32.not_lt.mpr cz_38
      refine lv_iload_n hx hb dX10_sheet_47 rfl (lv_at hl 3 rfl) ?_
      refine lv_bipush (v := (nI 40)) hx hb dX10_sheet_48 (by decide) ?_
      refine lv_icmp_le (tgt := 60) hx hb dX10_sheet_50 (by decide) (fun cz_39 => ?_) (fun cz_39 => ?_)
      · have hz1 := cz_39
        have hyb : y = nI (ix y) ∧ ix y ≤ 32 := by rcases hy with rfl | rfl | rfl | rfl <;> decide
        obtain ⟨z0, hz01, rfl⟩ := nI_of hz0
        have hz40 : z0 ≤ 40 := (nI_leI hz01 (by decide)).mp hz1
        refine lv_aload_n hx hb dX10_sheet_60 rfl (lv_at hl 0 rfl) ?_
        refine va_get (ci := 10) (v := .ref shs) (C := RX10) (T := TX10) (N := 8) hx hb hg inX10 hown hE.1 hP 0 rfl rfl 2 (by decide) (hg _ k1_218) (fun _ h9 => h9) rfl dX10_sheet_61 ?_
        refine lv_iload_n hx hb dX10_sheet_64 rfl (lv_at hl 1 rfl) ?_
        refine ck_aalds hx hb hE hP 1 1 rfl rfl (by omega) (by decide) hq1 dX10_sheet_65 ?_
        refine lv_iload_n hx hb dX10_sheet_66 rfl (lv_at hl 2 rfl) ?_
        refine ck_top (y := (nI (ix y))) hyb.1 ?_
        refine lv_iload_n hx hb dX10_sheet_67 rfl (lv_at hl 3 rfl) ?_
        refine ck_Vv (As := [.int (nI (ix y)), .int (nI z0)]) (rest := []) (wr := [(km, .inr (10, [.ref sa, .ref hs, .ref shs, .ref ja, .ref uu, .ref tb, .ref ob, .int fd])), (shs, .inl (N.2 1, 4, .inr (.inr (.inr (.inr shf)))))]) C0 hP hD hS (c_X5_begin l N q1 m1 nu1 bt1 ct1 (ix y) z0 (by omega) (by omega)) myX5_begin k3_194 ⟨Nat.le_of_ble_eq_true rfl, Nat.le_of_ble_eq_true rfl⟩ [2, 3] [0, 1] ⟨⟨rfl, rfl⟩, by decide, by decide, by decide⟩ 2 rfl rfl rfl rfl hl.1 rfl (Nat.le_of_ble_eq_true rfl) dX10_sheet_68 ⟨Nat.le_of_ble_eq_true rfl, Nat.le_of_ble_eq_true rfl⟩ (fun u0 H locs hw0 hP hD hS => ?_)
        obtain ⟨g2_41, n2_42⟩ := u0
        have hw_43 : n2_42 = (if (ix y) = 0 then 0 else z0) ∧ ∀ j, j < n2_42 → g2_41 j = 0 := hw0
        have hP : va_P N.1 vwCl [(km, .inr (10, [.ref sa, .ref hs, .ref shs, .ref ja, .ref uu, .ref tb, .ref ob, .int fd])), (shs, .inl (N.2 1, 4, .inr (.inr (.inr (.inr shf))))), (q1, .inr (5, [.ref m1, .int (nI (ix y)), .int (nI n2_42)])), (m1, .inl (N.2 0, 40, .inl g2_41))] H := hP
        have hD : va_D Ag [(km, .inr (10, [.ref sa, .ref hs, .ref shs, .ref ja, .ref uu, .ref tb, .ref ob, .int fd])), (shs, .inl (N.2 1, 4, .inr (.inr (.inr (.inr shf))))), (q1, .inr (5, [.ref m1, .int (nI (ix y)), .int (nI n2_42)])), (m1, .inl (N.2 0, 40, .inl g2_41))] := hD
        have hsc := hw_43
        refine lv_aload_n hx hb dX10_sheet_71 rfl (lv_at hl 0 rfl) ?_
        refine va_get (ci := 10) (v := .ref shs) (C := RX10) (T := TX10) (N := 8) hx hb hg inX10 hown hE.1 hP 0 rfl rfl 2 (by decide) (hg _ k1_218) (fun _ h9 => h9) rfl dX10_sheet_72 ?_
        refine lv_iload_n hx hb dX10_sheet_75 rfl (lv_at hl 1 rfl) ?_
        refine ck_aalds hx hb hE hP 1 1 rfl rfl (by omega) (by decide) hq1 dX10_sheet_76 ?_
        refine va_getN (ci := 5) (v := .int (nI n2_42)) (C := RX5) (T := TX5) (N := 3) (host := "KiteMeet") hx hb hg inX5 hown hE.1 hP 2 rfl rfl 2 (by decide) (hE.nf 23 rfl _) (fun _ h9 => h9) rfl dX10_sheet_77 ?_
        exact ck_iret hx hb hrt hlk ⟨fd, (ix y), n2_42, g2_41⟩ (by have he := (((if_pos hy).trans ((if_neg (nI_pos hz01)).trans (if_pos hz1))) : shF y (nI z0) = 0); have hsq := hsc.1.trans (shC_eq hy hz01); exact ⟨ckRd_ok he (congrArg nI hsq), Or.inl ⟨he, hyb, hsq, hsc.2, rfl⟩⟩) hP hD hS ⟨Nat.le_of_ble_eq_true rfl, Nat.le_of_ble_eq_true rfl⟩ dX10_sheet_80
      have hz1 := cz_39
      refine lv_aload_n hx hb dX10_sheet_53 rfl (lv_at hl 0 rfl) ?_
      refine lv_ldc (own := RX10) (v := (-100001)) hx hb hown (hg _ k2_14) dX10_sheet_54 ?_
      refine ck_Vi (As := [.int (-100001)]) (rest := []) (wr := [(shs, .inl (N.2 1, 4, .inr (.inr (.inr (.inr shf))))), (q1, .inr (5, [.ref m1, .int (nI bt1), .int (nI ct1)])), (m1, .inl (N.2 0, 40, .inl nu1))]) C0 hP hD hS (c_X10_finding l N km sa hs shs ja uu tb ob fd (-100001) ) myX10_finding k2_15 ⟨Nat.le_of_ble_eq_true rfl, Nat.le_of_ble_eq_true rfl⟩ [0] [1, 2, 3] ⟨⟨rfl, rfl⟩, by decide, by decide, by decide⟩ 0 rfl rfl rfl rfl hl.1 rfl (Nat.le_of_ble_eq_true rfl) dX10_sheet_56 ⟨Nat.le_of_ble_eq_true rfl, Nat.le_of_ble_eq_true rfl⟩ (fun r_44 u0 H locs hw0 hP hD hS => ?_)
      have hw_45 : r_44 = (-100001) := hw0
      subst hw_45
      have hP : va_P N.1 vwCl [(shs, .inl (N.2 1, 4, .inr (.inr (.inr (.inr shf))))), (q1, .inr (5, [.ref m1, .int (nI bt1), .int (nI ct1)])), (m1, .inl (N.2 0, 40, .inl nu1)), (km, .inr (10, [.ref sa, .ref hs, .ref shs, .ref ja, .ref uu, .ref tb, .ref ob, .int (fd + nI 1)]))] H := hP
      have hD : va_D Ag [(shs, .inl (N.2 1, 4, .inr (.inr (.inr (.inr shf))))), (q1, .inr (5, [.ref m1, .int (nI bt1), .int (nI ct1)])), (m1, .inl (N.2 0, 40, .inl nu1)), (km, .inr (10, [.ref sa, .ref hs, .ref shs, .ref ja, .ref uu, .ref tb, .ref ob, .int (fd + nI 1)]))] := hD
      exact ck_iret hx hb hrt hlk ⟨(fd + nI 1), bt1, ct1, nu1⟩ (by have he := (((if_pos hy).trans ((if_neg hz0).trans (if_neg hz1))) : shF y z = (-100001)); exact ⟨ckRd_f he (by decide), Or.inr ⟨fun q => absurd (he.symm.trans q) (by decide), rfl, rfl, rfl⟩⟩) (hP.sub [3, 0, 1, 2] rfl) (hD.sub [3, 0, 1, 2] (by decide) rfl) hS ⟨Nat.le_of_ble_eq_true rfl, Nat.le_of_ble_eq_true rfl⟩ dX10_sheet_59
    have hz0 : z < 0 := Int32.not_le.mp cz_38
    refine lv_aload_n hx hb dX10_sheet_40 rfl (lv_at hl 0 rfl) ?_
    refine lv_ldc (own := RX10) (v := (-100003)) hx hb hown (hg _ k2_31) dX10_sheet_41 ?_
    refine ck_Vi (As := [.int (-100003)]) (rest := []) (wr := [(shs, .inl (N.2 1, 4, .inr (.inr (.inr (.inr shf))))), (q1, .inr (5, [.ref m1, .int (nI bt1), .int (nI ct1)])), (m1, .inl (N.2 0, 40, .inl nu1))]) C0 hP hD hS (c_X10_finding l N km sa hs shs ja uu tb ob fd (-100003) ) myX10_finding k2_15 ⟨Nat.le_of_ble_eq_true rfl, Nat.le_of_ble_eq_true rfl⟩ [0] [1, 2, 3] ⟨⟨rfl, rfl⟩, by decide, by decide, by decide⟩ 0 rfl rfl rfl rfl hl.1 rfl (Nat.le_of_ble_eq_true rfl) dX10_sheet_43 ⟨Nat.le_of_ble_eq_true rfl, Nat.le_of_ble_eq_true rfl⟩ (fun r_46 u0 H locs hw0 hP hD hS => ?_)
    have hw_47 : r_46 = (-100003) := hw0
    subst hw_47
    have hP : va_P N.1 vwCl [(shs, .inl (N.2 1, 4, .inr (.inr (.inr (.inr shf))))), (q1, .inr (5, [.ref m1, .int (nI bt1), .int (nI ct1)])), (m1, .inl (N.2 0, 40, .inl nu1)), (km, .inr (10, [.ref sa, .ref hs, .ref shs, .ref ja, .ref uu, .ref tb, .ref ob, .int (fd + nI 1)]))] H := hP
    have hD : va_D Ag [(shs, .inl (N.2 1, 4, .inr (.inr (.inr (.inr shf))))), (q1, .inr (5, [.ref m1, .int (nI bt1), .int (nI ct1)])), (m1, .inl (N.2 0, 40, .inl nu1)), (km, .inr (10, [.ref sa, .ref hs, .ref shs, .ref ja, .ref uu, .ref tb, .ref ob, .int (fd + nI 1)]))] := hD
    exact ck_iret hx hb hrt hlk ⟨(fd + nI 1), bt1, ct1, nu1⟩ (by have he := (((if_pos hy).trans (if_pos hz0)) : shF y z = (-100003)); exact ⟨ckRd_f he (by decide), Or.inr ⟨fun q => absurd (he.symm.trans q) (by decide), rfl, rfl, rfl⟩⟩) (hP.sub [3, 0, 1, 2] rfl) (hD.sub [3, 0, 1, 2] (by decide) rfl) hS ⟨Nat.le_of_ble_eq_true rfl, Nat.le_of_ble_eq_true rfl⟩ dX10_sheet_46
  refine lv_aload_n hx hb dX10_sheet_29 rfl (lv_at hl 0 rfl) ?_
  refine lv_ldc (own := RX10) (v := (-100001)) hx hb hown (hg _ k2_14) dX10_sheet_30 ?_
  refine ck_Vi (As := [.int (-100001)]) (rest := []) (wr := [(shs, .inl (N.2 1, 4, .inr (.inr (.inr (.inr shf))))), (q1, .inr (5, [.ref m1, .int (nI bt1), .int (nI ct1)])), (m1, .inl (N.2 0, 40, .inl nu1))]) C0 hP hD hS (c_X10_finding l N km sa hs shs ja uu tb ob fd (-100001) ) myX10_finding k2_15 ⟨Nat.le_of_ble_eq_true rfl, Nat.le_of_ble_eq_true rfl⟩ [0] [1, 2, 3] ⟨⟨rfl, rfl⟩, by decide, by decide, by decide⟩ 0 rfl rfl rfl rfl hl.1 rfl (Nat.le_of_ble_eq_true rfl) dX10_sheet_32 ⟨Nat.le_of_ble_eq_true rfl, Nat.le_of_ble_eq_true rfl⟩ (fun r_48 u0 H locs hw0 hP hD hS => ?_)
  have hw_49 : r_48 = (-100001) := hw0
  subst hw_49
  have hP : va_P N.1 vwCl [(shs, .inl (N.2 1, 4, .inr (.inr (.inr (.inr shf))))), (q1, .inr (5, [.ref m1, .int (nI bt1), .int (nI ct1)])), (m1, .inl (N.2 0, 40, .inl nu1)), (km, .inr (10, [.ref sa, .ref hs, .ref shs, .ref ja, .ref uu, .ref tb, .ref ob, .int (fd + nI 1)]))] H := hP
  have hD : va_D Ag [(shs, .inl (N.2 1, 4, .inr (.inr (.inr (.inr shf))))), (q1, .inr (5, [.ref m1, .int (nI bt1), .int (nI ct1)])), (m1, .inl (N.2 0, 40, .inl nu1)), (km, .inr (10, [.ref sa, .ref hs, .ref shs, .ref ja, .ref uu, .ref tb, .ref ob, .int (fd + nI 1)]))] := hD
  exact ck_iret hx hb hrt hlk ⟨(fd + nI 1), bt1, ct1, nu1⟩ (by have he := ((if_neg (fun q => q.elim cz_4 (fun q => q.elim cz_15 (fun q => q.elim cz_26 cz_37)))) : shF y z = (-100001)); exact ⟨ckRd_f he (by decide), Or.inr ⟨fun q => absurd (he.symm.trans q) (by decide), rfl, rfl, rfl⟩⟩) (hP.sub [3, 0, 1, 2] rfl) (hD.sub [3, 0, 1, 2] (by decide) rfl) hS ⟨Nat.le_of_ble_eq_true rfl, Nat.le_of_ble_eq_true rfl⟩ dX10_sheet_35
set_option maxHeartbeats 4000000 in
set_option maxRecDepth 100000 in
/-- X10_sheet -/
theorem c_X10_sheet_f (l : Launch) (N : ckN) (km : Nat) (sa : Nat) (hs : Nat) (shs : Nat) (ja : Nat) (uu : Nat) (tb : Nat) (ob : Nat) (fd : Int32) (x : Int32) (y : Int32) (z : Int32) (hbad : ckIn x (nI 0) (nI 3) = false) : ckI l yX10_sheet cX10_sheet 4 (some FieldType.int) { frames := 3, cells := 0, slots := 0, locals := 81 } N [.ref km, .int x, .int y, .int z] [(km, .inr (10, [.ref sa, .ref hs, .ref shs, .ref ja, .ref uu, .ref tb, .ref ob, .int fd]))] (fun (r : Int32) (u : Int32) => ckRd (-100001) (0) fd r u) (fun (u : Int32) => [(km, .inr (10, [.ref sa, .ref hs, .ref shs, .ref ja, .ref uu, .ref tb, .ref ob, .int u]))]) := by
  refine ckI.of (by decide) (Nat.le_of_ble_eq_true rfl) ?_
  intro pg eg sg mg blw mth cg Ag ls hx hb hrt hml hown hlk hin hg hE hA hP hD hS hl
  have hown : sg.vm.findClass RX10 = some mg.cls := hown
  have hl : lv_has ls 4 [(0, .ref km), (1, .int x), (2, .int y), (3, .int z)] := hl
  have C0 : ckC pg sg mg ([.ref km, .int x, .int y, .int z]).toArray cg cX10_sheet 4 RX10 N Ag := ⟨⟨hx, hb, hml, hown, hg⟩, hE, hA⟩
  generalize hHe : sg.heap = H at hP
  have hS : va_S Ag sg.heap H [] := hHe ▸ hS
  refine lv_iload_n hx hb dX10_sheet_0 rfl (lv_at hl 1 rfl) ?_
  refine ck_Si (As := [.int x]) (rest := []) (wr := [(km, .inr (10, [.ref sa, .ref hs, .ref shs, .ref ja, .ref uu, .ref tb, .ref ob, .int fd]))]) C0 hP hD hS (c_X10_isSheet l N x ) myX10_isSheet k3_149 ⟨Nat.le_of_ble_eq_true rfl, Nat.le_of_ble_eq_true rfl⟩ [] [0] ⟨⟨rfl, rfl⟩, by decide, by decide, by decide⟩ rfl hl.1 rfl (Nat.le_of_ble_eq_true rfl) dX10_sheet_1 ⟨Nat.le_of_ble_eq_true rfl, Nat.le_of_ble_eq_true rfl⟩ (fun r_1 u0 H locs hw0 hP hD hS => ?_)
  have hw_2 : r_1 = (b2i (ckIn x (nI 0) (nI 3))) := hw0
  subst hw_2
  have hP : va_P N.1 vwCl [(km, .inr (10, [.ref sa, .ref hs, .ref shs, .ref ja, .ref uu, .ref tb, .ref ob, .int fd]))] H := hP
  have hD : va_D Ag [(km, .inr (10, [.ref sa, .ref hs, .ref shs, .ref ja, .ref uu, .ref tb, .ref ob, .int fd]))] := hD
  refine ck_ifeq (b := ckIn x (nI 0) (nI 3)) (tgt := 29) hx hb dX10_sheet_4 (by decide) (fun cz_3 => ?_) (fun cz_3 => absurd cz_3 (by rw [hbad]; decide))
  refine lv_aload_n hx hb dX10_sheet_29 rfl (lv_at hl 0 rfl) ?_
  refine lv_ldc (own := RX10) (v := (-100001)) hx hb hown (hg _ k2_14) dX10_sheet_30 ?_
  refine ck_Vi (As := [.int (-100001)]) (rest := []) (wr := []) C0 hP hD hS (c_X10_finding l N km sa hs shs ja uu tb ob fd (-100001) ) myX10_finding k2_15 ⟨Nat.le_of_ble_eq_true rfl, Nat.le_of_ble_eq_true rfl⟩ [0] [] ⟨⟨rfl, rfl⟩, by decide, by decide, by decide⟩ 0 rfl rfl rfl rfl hl.1 rfl (Nat.le_of_ble_eq_true rfl) dX10_sheet_32 ⟨Nat.le_of_ble_eq_true rfl, Nat.le_of_ble_eq_true rfl⟩ (fun r_4 u0 H locs hw0 hP hD hS => ?_)
  have hw_5 : r_4 = (-100001) := hw0
  subst hw_5
  have hP : va_P N.1 vwCl [(km, .inr (10, [.ref sa, .ref hs, .ref shs, .ref ja, .ref uu, .ref tb, .ref ob, .int (fd + nI 1)]))] H := hP
  have hD : va_D Ag [(km, .inr (10, [.ref sa, .ref hs, .ref shs, .ref ja, .ref uu, .ref tb, .ref ob, .int (fd + nI 1)]))] := hD
  exact ck_iret hx hb hrt hlk ((fd + nI 1)) (ckRd_f rfl (by decide)) hP hD hS ⟨Nat.le_of_ble_eq_true rfl, Nat.le_of_ble_eq_true rfl⟩ dX10_sheet_35
set_option maxHeartbeats 4000000 in
set_option maxRecDepth 100000 in
/-- X10_put -/
theorem c_X10_put_k (l : Launch) (N : ckN) (km : Nat) (sa : Nat) (hs : Nat) (shs : Nat) (ja : Nat) (uu : Nat) (tb : Nat) (ob : Nat) (fd : Int32) (shf : Nat → Option Nat) (s1 : Nat) (q1 : Nat) (m1 : Nat) (bt1 : Nat) (ct1 : Nat) (nu1 : Nat → Int32) (y : Int32) (z : Int32) (hs1 : s1 < 4) (hq1 : shf s1 = some q1) (hb1 : bt1 ≤ 32) (hc1 : ct1 ≤ 40) : ckI l yX10_put cX10_put 4 (some FieldType.int) { frames := 3, cells := 0, slots := 0, locals := 83 } N [.ref km, .int (nI s1), .int y, .int z] [(km, .inr (10, [.ref sa, .ref hs, .ref shs, .ref ja, .ref uu, .ref tb, .ref ob, .int fd])), (shs, .inl (N.2 1, 4, .inr (.inr (.inr (.inr shf))))), (q1, .inr (5, [.ref m1, .int (nI bt1), .int (nI ct1)])), (m1, .inl (N.2 0, 40, .inl nu1))] (fun (r : Int32) (u : Int32 × (Nat → Int32)) => (ckRd (puF bt1 ct1 y) (0) fd r u.1) ∧ ((puF bt1 ct1 y = 0 ∧ u.2 = upd nu1 (ix y) (ckWr bt1 z)) ∨ (puF bt1 ct1 y ≠ 0 ∧ u.2 = nu1))) (fun (u : Int32 × (Nat → Int32)) => [(km, .inr (10, [.ref sa, .ref hs, .ref shs, .ref ja, .ref uu, .ref tb, .ref ob, .int u.1])), (shs, .inl (N.2 1, 4, .inr (.inr (.inr (.inr shf))))), (q1, .inr (5, [.ref m1, .int (nI bt1), .int (nI ct1)])), (m1, .inl (N.2 0, 40, .inl u.2))]) := by
  refine ckI.of (by decide) (Nat.le_of_ble_eq_true rfl) ?_
  intro pg eg sg mg blw mth cg Ag ls hx hb hrt hml hown hlk hin hg hE hA hP hD hS hl
  have hown : sg.vm.findClass RX10 = some mg.cls := hown
  have hl : lv_has ls 4 [(0, .ref km), (1, .int (nI s1)), (2, .int y), (3, .int z)] := hl
  have C0 : ckC pg sg mg ([.ref km, .int (nI s1), .int y, .int z]).toArray cg cX10_put 4 RX10 N Ag := ⟨⟨hx, hb, hml, hown, hg⟩, hE, hA⟩
  generalize hHe : sg.heap = H at hP
  have hS : va_S Ag sg.heap H [] := hHe ▸ hS
  have hk1 : ckIn (nI s1) (nI 0) (nI 3) = true := ckIn_in (by omega) (by omega) (by decide)
  refine lv_iload_n hx hb dX10_put_0 rfl (lv_at hl 1 rfl) ?_
  refine ck_Si (As := [.int (nI s1)]) (rest := []) (wr := [(km, .inr (10, [.ref sa, .ref hs, .ref shs, .ref ja, .ref uu, .ref tb, .ref ob, .int fd])), (shs, .inl (N.2 1, 4, .inr (.inr (.inr (.inr shf))))), (q1, .inr (5, [.ref m1, .int (nI bt1), .int (nI ct1)])), (m1, .inl (N.2 0, 40, .inl nu1))]) C0 hP hD hS (c_X10_isSheet l N (nI s1) ) myX10_isSheet k3_149 ⟨Nat.le_of_ble_eq_true rfl, Nat.le_of_ble_eq_true rfl⟩ [] [0, 1, 2, 3] ⟨⟨rfl, rfl⟩, by decide, by decide, by decide⟩ rfl hl.1 rfl (Nat.le_of_ble_eq_true rfl) dX10_put_1 ⟨Nat.le_of_ble_eq_true rfl, Nat.le_of_ble_eq_true rfl⟩ (fun r_1 u0 H locs hw0 hP hD hS => ?_)
  have hw_2 : r_1 = (b2i (ckIn (nI s1) (nI 0) (nI 3))) := hw0
  subst hw_2
  have hP : va_P N.1 vwCl [(km, .inr (10, [.ref sa, .ref hs, .ref shs, .ref ja, .ref uu, .ref tb, .ref ob, .int fd])), (shs, .inl (N.2 1, 4, .inr (.inr (.inr (.inr shf))))), (q1, .inr (5, [.ref m1, .int (nI bt1), .int (nI ct1)])), (m1, .inl (N.2 0, 40, .inl nu1))] H := hP
  have hD : va_D Ag [(km, .inr (10, [.ref sa, .ref hs, .ref shs, .ref ja, .ref uu, .ref tb, .ref ob, .int fd])), (shs, .inl (N.2 1, 4, .inr (.inr (.inr (.inr shf))))), (q1, .inr (5, [.ref m1, .int (nI bt1), .int (nI ct1)])), (m1, .inl (N.2 0, 40, .inl nu1))] := hD
  refine ck_ifne (b := ckIn (nI s1) (nI 0) (nI 3)) (tgt := 14) hx hb dX10_put_4 (by decide) (fun cz_3 => ?_) (fun cz_3 => absurd cz_3 (by rw [hk1]; decide))
  refine lv_aload_n hx hb dX10_put_14 rfl (lv_at hl 0 rfl) ?_
  refine va_get (ci := 10) (v := .ref shs) (C := RX10) (T := TX10) (N := 8) hx hb hg inX10 hown hE.1 hP 0 rfl rfl 2 (by decide) (hg _ k1_218) (fun _ h9 => h9) rfl dX10_put_15 ?_
  refine lv_iload_n hx hb dX10_put_18 rfl (lv_at hl 1 rfl) ?_
  refine ck_aalds hx hb hE hP 1 1 rfl rfl (by omega) (by decide) hq1 dX10_put_19 ?_
  refine ck_Vi (As := []) (rest := []) (wr := [(km, .inr (10, [.ref sa, .ref hs, .ref shs, .ref ja, .ref uu, .ref tb, .ref ob, .int fd])), (shs, .inl (N.2 1, 4, .inr (.inr (.inr (.inr shf)))))]) C0 hP hD hS (c_X5_isMissing l N q1 m1 nu1 bt1 ct1 (by omega)) myX5_isMissing k3_152 ⟨Nat.le_of_ble_eq_true rfl, Nat.le_of_ble_eq_true rfl⟩ [2, 3] [0, 1] ⟨⟨rfl, rfl⟩, by decide, by decide, by decide⟩ 2 rfl rfl rfl rfl hl.1 rfl (Nat.le_of_ble_eq_true rfl) dX10_put_20 ⟨Nat.le_of_ble_eq_true rfl, Nat.le_of_ble_eq_true rfl⟩ (fun r_4 u0 H locs hw0 hP hD hS => ?_)
  have hw_5 : r_4 = (b2i (decide (bt1 = 0))) := hw0
  subst hw_5
  have hP : va_P N.1 vwCl [(km, .inr (10, [.ref sa, .ref hs, .ref shs, .ref ja, .ref uu, .ref tb, .ref ob, .int fd])), (shs, .inl (N.2 1, 4, .inr (.inr (.inr (.inr shf))))), (q1, .inr (5, [.ref m1, .int (nI bt1), .int (nI ct1)])), (m1, .inl (N.2 0, 40, .inl nu1))] H := hP
  have hD : va_D Ag [(km, .inr (10, [.ref sa, .ref hs, .ref shs, .ref ja, .ref uu, .ref tb, .ref ob, .int fd])), (shs, .inl (N.2 1, 4, .inr (.inr (.inr (.inr shf))))), (q1, .inr (5, [.ref m1, .int (nI bt1), .int (nI ct1)])), (m1, .inl (N.2 0, 40, .inl nu1))] := hD
  refine ck_ifeq (b := decide (bt1 = 0)) (tgt := 33) hx hb dX10_put_23 (by decide) (fun cz_6 => ?_) (fun cz_6 => ?_)
  · have hbz := of_decide_eq_false cz_6
    refine lv_iload_n hx hb dX10_put_33 rfl (lv_at hl 2 rfl) ?_
    refine lv_if_lt (tgt := 50) hx hb dX10_put_34 (by decide) (fun cz_7 => ?_) (fun cz_7 => ?_)
    · have hq : ckLt y ct1 = false := by rw [ckLt]; have e0 : (0 : Int32).toInt = 0 := (by decide); have e1 := nI_toInt (n := ct1) (by omega); have z0 := cz_7; simp only [i_lt, i_le] at z0; exact decide_eq_false (by omega)
      refine lv_aload_n hx hb dX10_put_50 rfl (lv_at hl 0 rfl) ?_
      refine lv_ldc (own := RX10) (v := (-100001)) hx hb hown (hg _ k2_14) dX10_put_51 ?_
      refine ck_Vi (As := [.int (-100001)]) (rest := []) (wr := [(shs, .inl (N.2 1, 4, .inr (.inr (.inr (.inr shf))))), (q1, .inr (5, [.ref m1, .int (nI bt1), .int (nI ct1)])), (m1, .inl (N.2 0, 40, .inl nu1))]) C0 hP hD hS (c_X10_finding l N km sa hs shs ja uu tb ob fd (-100001) ) myX10_finding k2_15 ⟨Nat.le_of_ble_eq_true rfl, Nat.le_of_ble_eq_true rfl⟩ [0] [1, 2, 3] ⟨⟨rfl, rfl⟩, by decide, by decide, by decide⟩ 0 rfl rfl rfl rfl hl.1 rfl (Nat.le_of_ble_eq_true rfl) dX10_put_53 ⟨Nat.le_of_ble_eq_true rfl, Nat.le_of_ble_eq_true rfl⟩ (fun r_8 u0 H locs hw0 hP hD hS => ?_)
      have hw_9 : r_8 = (-100001) := hw0
      subst hw_9
      have hP : va_P N.1 vwCl [(shs, .inl (N.2 1, 4, .inr (.inr (.inr (.inr shf))))), (q1, .inr (5, [.ref m1, .int (nI bt1), .int (nI ct1)])), (m1, .inl (N.2 0, 40, .inl nu1)), (km, .inr (10, [.ref sa, .ref hs, .ref shs, .ref ja, .ref uu, .ref tb, .ref ob, .int (fd + nI 1)]))] H := hP
      have hD : va_D Ag [(shs, .inl (N.2 1, 4, .inr (.inr (.inr (.inr shf))))), (q1, .inr (5, [.ref m1, .int (nI bt1), .int (nI ct1)])), (m1, .inl (N.2 0, 40, .inl nu1)), (km, .inr (10, [.ref sa, .ref hs, .ref shs, .ref ja, .ref uu, .ref tb, .ref ob, .int (fd + nI 1)]))] := hD
      exact ck_iret hx hb hrt hlk ⟨(fd + nI 1), nu1⟩ (by have he : puF bt1 ct1 y = (-100001) := (by simp [puF, hbz, hq]); exact ⟨ckRd_f he (by decide), Or.inr ⟨fun q => absurd (he.symm.trans q) (by decide), rfl⟩⟩) (hP.sub [3, 0, 1, 2] rfl) (hD.sub [3, 0, 1, 2] (by decide) rfl) hS ⟨Nat.le_of_ble_eq_true rfl, Nat.le_of_ble_eq_true rfl⟩ dX10_put_56
    refine lv_iload_n hx hb dX10_put_37 rfl (lv_at hl 2 rfl) ?_
    refine lv_aload_n hx hb dX10_put_38 rfl (lv_at hl 0 rfl) ?_
    refine va_get (ci := 10) (v := .ref shs) (C := RX10) (T := TX10) (N := 8) hx hb hg inX10 hown hE.1 hP 0 rfl rfl 2 (by decide) (hg _ k1_218) (fun _ h9 => h9) rfl dX10_put_39 ?_
    refine lv_iload_n hx hb dX10_put_42 rfl (lv_at hl 1 rfl) ?_
    refine ck_aalds hx hb hE hP 1 1 rfl rfl (by omega) (by decide) hq1 dX10_put_43 ?_
    refine va_getN (ci := 5) (v := .int (nI ct1)) (C := RX5) (T := TX5) (N := 3) (host := "KiteMeet") hx hb hg inX5 hown hE.1 hP 2 rfl rfl 2 (by decide) (hE.nf 23 rfl _) (fun _ h9 => h9) rfl dX10_put_44 ?_
    refine lv_icmp_lt (tgt := 57) hx hb dX10_put_47 (by decide) (fun cz_10 => ?_) (fun cz_10 => ?_)
    · have hq : ckLt y ct1 = true := by rw [ckLt]; have e0 : (0 : Int32).toInt = 0 := (by decide); have e1 := nI_toInt (n := ct1) (by omega); have z0 := cz_7; have z1 := cz_10; simp only [i_lt, i_le] at z0 z1; exact decide_eq_true (by omega)
      have hq0 := hq
      obtain ⟨k, hk, rfl⟩ := (ckLt_t (by omega)).mp hq
      have exk : ix (nI k) = k := ix_nI (by omega)
      refine lv_aload_n hx hb dX10_put_57 rfl (lv_at hl 0 rfl) ?_
      refine va_get (ci := 10) (v := .ref shs) (C := RX10) (T := TX10) (N := 8) hx hb hg inX10 hown hE.1 hP 0 rfl rfl 2 (by decide) (hg _ k1_218) (fun _ h9 => h9) rfl dX10_put_58 ?_
      refine lv_iload_n hx hb dX10_put_61 rfl (lv_at hl 1 rfl) ?_
      refine ck_aalds hx hb hE hP 1 1 rfl rfl (by omega) (by decide) hq1 dX10_put_62 ?_
      refine lv_iload_n hx hb dX10_put_63 rfl (lv_at hl 2 rfl) ?_
      refine lv_iload_n hx hb dX10_put_64 rfl (lv_at hl 3 rfl) ?_
      refine ck_Vv (As := [.int (nI k), .int z]) (rest := []) (wr := [(km, .inr (10, [.ref sa, .ref hs, .ref shs, .ref ja, .ref uu, .ref tb, .ref ob, .int fd])), (shs, .inl (N.2 1, 4, .inr (.inr (.inr (.inr shf)))))]) C0 hP hD hS (c_X5_write l N q1 m1 nu1 bt1 ct1 k z (by omega) (by omega)) myX5_write k3_202 ⟨Nat.le_of_ble_eq_true rfl, Nat.le_of_ble_eq_true rfl⟩ [2, 3] [0, 1] ⟨⟨rfl, rfl⟩, by decide, by decide, by decide⟩ 2 rfl rfl rfl rfl hl.1 rfl (Nat.le_of_ble_eq_true rfl) dX10_put_65 ⟨Nat.le_of_ble_eq_true rfl, Nat.le_of_ble_eq_true rfl⟩ (fun u0 H locs hw0 hP hD hS => ?_)
      have hP : va_P N.1 vwCl [(km, .inr (10, [.ref sa, .ref hs, .ref shs, .ref ja, .ref uu, .ref tb, .ref ob, .int fd])), (shs, .inl (N.2 1, 4, .inr (.inr (.inr (.inr shf))))), (q1, .inr (5, [.ref m1, .int (nI bt1), .int (nI ct1)])), (m1, .inl (N.2 0, 40, .inl (upd nu1 k (ckWr bt1 z))))] H := hP
      have hD : va_D Ag [(km, .inr (10, [.ref sa, .ref hs, .ref shs, .ref ja, .ref uu, .ref tb, .ref ob, .int fd])), (shs, .inl (N.2 1, 4, .inr (.inr (.inr (.inr shf))))), (q1, .inr (5, [.ref m1, .int (nI bt1), .int (nI ct1)])), (m1, .inl (N.2 0, 40, .inl (upd nu1 k (ckWr bt1 z))))] := hD
      refine lv_iconst (v := (nI 0)) hx hb dX10_put_68 (by decide) ?_
      exact ck_iret hx hb hrt hlk ⟨fd, upd nu1 k (ckWr bt1 z)⟩ (by have he : puF bt1 ct1 (nI k) = 0 := (by simp [puF, hbz, hq0]); exact ⟨ckRd_ok he rfl, Or.inl ⟨he, (by rw [exk])⟩⟩) hP hD hS ⟨Nat.le_of_ble_eq_true rfl, Nat.le_of_ble_eq_true rfl⟩ dX10_put_69
    have hq : ckLt y ct1 = false := by rw [ckLt]; have e0 : (0 : Int32).toInt = 0 := (by decide); have e1 := nI_toInt (n := ct1) (by omega); have z0 := cz_7; have z1 := cz_10; simp only [i_lt, i_le] at z0 z1; exact decide_eq_false (by omega)
    refine lv_aload_n hx hb dX10_put_50 rfl (lv_at hl 0 rfl) ?_
    refine lv_ldc (own := RX10) (v := (-100001)) hx hb hown (hg _ k2_14) dX10_put_51 ?_
    refine ck_Vi (As := [.int (-100001)]) (rest := []) (wr := [(shs, .inl (N.2 1, 4, .inr (.inr (.inr (.inr shf))))), (q1, .inr (5, [.ref m1, .int (nI bt1), .int (nI ct1)])), (m1, .inl (N.2 0, 40, .inl nu1))]) C0 hP hD hS (c_X10_finding l N km sa hs shs ja uu tb ob fd (-100001) ) myX10_finding k2_15 ⟨Nat.le_of_ble_eq_true rfl, Nat.le_of_ble_eq_true rfl⟩ [0] [1, 2, 3] ⟨⟨rfl, rfl⟩, by decide, by decide, by decide⟩ 0 rfl rfl rfl rfl hl.1 rfl (Nat.le_of_ble_eq_true rfl) dX10_put_53 ⟨Nat.le_of_ble_eq_true rfl, Nat.le_of_ble_eq_true rfl⟩ (fun r_13 u0 H locs hw0 hP hD hS => ?_)
    have hw_14 : r_13 = (-100001) := hw0
    subst hw_14
    have hP : va_P N.1 vwCl [(shs, .inl (N.2 1, 4, .inr (.inr (.inr (.inr shf))))), (q1, .inr (5, [.ref m1, .int (nI bt1), .int (nI ct1)])), (m1, .inl (N.2 0, 40, .inl nu1)), (km, .inr (10, [.ref sa, .ref hs, .ref shs, .ref ja, .ref uu, .ref tb, .ref ob, .int (fd + nI 1)]))] H := hP
    have hD : va_D Ag [(shs, .inl (N.2 1, 4, .inr (.inr (.inr (.inr shf))))), (q1, .inr (5, [.ref m1, .int (nI bt1), .int (nI ct1)])), (m1, .inl (N.2 0, 40, .inl nu1)), (km, .inr (10, [.ref sa, .ref hs, .ref shs, .ref ja, .ref uu, .ref tb, .ref ob, .int (fd + nI 1)]))] := hD
    exact ck_iret hx hb hrt hlk ⟨(fd + nI 1), nu1⟩ (by have he : puF bt1 ct1 y = (-100001) := (by simp [puF, hbz, hq]); exact ⟨ckRd_f he (by decide), Or.inr ⟨fun q => absurd (he.symm.trans q) (by decide), rfl⟩⟩) (hP.sub [3, 0, 1, 2] rfl) (hD.sub [3, 0, 1, 2] (by decide) rfl) hS ⟨Nat.le_of_ble_eq_true rfl, Nat.le_of_ble_eq_true rfl⟩ dX10_put_56
  have hbz := of_decide_eq_true cz_6
  refine lv_aload_n hx hb dX10_put_26 rfl (lv_at hl 0 rfl) ?_
  refine lv_ldc (own := RX10) (v := (-100002)) hx hb hown (hg _ k3_156) dX10_put_27 ?_
  refine ck_Vi (As := [.int (-100002)]) (rest := []) (wr := [(shs, .inl (N.2 1, 4, .inr (.inr (.inr (.inr shf))))), (q1, .inr (5, [.ref m1, .int (nI bt1), .int (nI ct1)])), (m1, .inl (N.2 0, 40, .inl nu1))]) C0 hP hD hS (c_X10_finding l N km sa hs shs ja uu tb ob fd (-100002) ) myX10_finding k2_15 ⟨Nat.le_of_ble_eq_true rfl, Nat.le_of_ble_eq_true rfl⟩ [0] [1, 2, 3] ⟨⟨rfl, rfl⟩, by decide, by decide, by decide⟩ 0 rfl rfl rfl rfl hl.1 rfl (Nat.le_of_ble_eq_true rfl) dX10_put_29 ⟨Nat.le_of_ble_eq_true rfl, Nat.le_of_ble_eq_true rfl⟩ (fun r_15 u0 H locs hw0 hP hD hS => ?_)
  have hw_16 : r_15 = (-100002) := hw0
  subst hw_16
  have hP : va_P N.1 vwCl [(shs, .inl (N.2 1, 4, .inr (.inr (.inr (.inr shf))))), (q1, .inr (5, [.ref m1, .int (nI bt1), .int (nI ct1)])), (m1, .inl (N.2 0, 40, .inl nu1)), (km, .inr (10, [.ref sa, .ref hs, .ref shs, .ref ja, .ref uu, .ref tb, .ref ob, .int (fd + nI 1)]))] H := hP
  have hD : va_D Ag [(shs, .inl (N.2 1, 4, .inr (.inr (.inr (.inr shf))))), (q1, .inr (5, [.ref m1, .int (nI bt1), .int (nI ct1)])), (m1, .inl (N.2 0, 40, .inl nu1)), (km, .inr (10, [.ref sa, .ref hs, .ref shs, .ref ja, .ref uu, .ref tb, .ref ob, .int (fd + nI 1)]))] := hD
  exact ck_iret hx hb hrt hlk ⟨(fd + nI 1), nu1⟩ (by have he : puF bt1 ct1 y = (-100002) := (by simp [puF, hbz]); exact ⟨ckRd_f he (by decide), Or.inr ⟨fun q => absurd (he.symm.trans q) (by decide), rfl⟩⟩) (hP.sub [3, 0, 1, 2] rfl) (hD.sub [3, 0, 1, 2] (by decide) rfl) hS ⟨Nat.le_of_ble_eq_true rfl, Nat.le_of_ble_eq_true rfl⟩ dX10_put_32
set_option maxHeartbeats 4000000 in
set_option maxRecDepth 100000 in
/-- X10_put -/
theorem c_X10_put_f (l : Launch) (N : ckN) (km : Nat) (sa : Nat) (hs : Nat) (shs : Nat) (ja : Nat) (uu : Nat) (tb : Nat) (ob : Nat) (fd : Int32) (x : Int32) (y : Int32) (z : Int32) (hbad : ckIn x (nI 0) (nI 3) = false) : ckI l yX10_put cX10_put 4 (some FieldType.int) { frames := 3, cells := 0, slots := 0, locals := 81 } N [.ref km, .int x, .int y, .int z] [(km, .inr (10, [.ref sa, .ref hs, .ref shs, .ref ja, .ref uu, .ref tb, .ref ob, .int fd]))] (fun (r : Int32) (u : Int32) => ckRd (-100001) (0) fd r u) (fun (u : Int32) => [(km, .inr (10, [.ref sa, .ref hs, .ref shs, .ref ja, .ref uu, .ref tb, .ref ob, .int u]))]) := by
  refine ckI.of (by decide) (Nat.le_of_ble_eq_true rfl) ?_
  intro pg eg sg mg blw mth cg Ag ls hx hb hrt hml hown hlk hin hg hE hA hP hD hS hl
  have hown : sg.vm.findClass RX10 = some mg.cls := hown
  have hl : lv_has ls 4 [(0, .ref km), (1, .int x), (2, .int y), (3, .int z)] := hl
  have C0 : ckC pg sg mg ([.ref km, .int x, .int y, .int z]).toArray cg cX10_put 4 RX10 N Ag := ⟨⟨hx, hb, hml, hown, hg⟩, hE, hA⟩
  generalize hHe : sg.heap = H at hP
  have hS : va_S Ag sg.heap H [] := hHe ▸ hS
  refine lv_iload_n hx hb dX10_put_0 rfl (lv_at hl 1 rfl) ?_
  refine ck_Si (As := [.int x]) (rest := []) (wr := [(km, .inr (10, [.ref sa, .ref hs, .ref shs, .ref ja, .ref uu, .ref tb, .ref ob, .int fd]))]) C0 hP hD hS (c_X10_isSheet l N x ) myX10_isSheet k3_149 ⟨Nat.le_of_ble_eq_true rfl, Nat.le_of_ble_eq_true rfl⟩ [] [0] ⟨⟨rfl, rfl⟩, by decide, by decide, by decide⟩ rfl hl.1 rfl (Nat.le_of_ble_eq_true rfl) dX10_put_1 ⟨Nat.le_of_ble_eq_true rfl, Nat.le_of_ble_eq_true rfl⟩ (fun r_1 u0 H locs hw0 hP hD hS => ?_)
  have hw_2 : r_1 = (b2i (ckIn x (nI 0) (nI 3))) := hw0
  subst hw_2
  have hP : va_P N.1 vwCl [(km, .inr (10, [.ref sa, .ref hs, .ref shs, .ref ja, .ref uu, .ref tb, .ref ob, .int fd]))] H := hP
  have hD : va_D Ag [(km, .inr (10, [.ref sa, .ref hs, .ref shs, .ref ja, .ref uu, .ref tb, .ref ob, .int fd]))] := hD
  refine ck_ifne (b := ckIn x (nI 0) (nI 3)) (tgt := 14) hx hb dX10_put_4 (by decide) (fun cz_3 => absurd cz_3 (by rw [hbad]; decide)) (fun cz_3 => ?_)
  refine lv_aload_n hx hb dX10_put_7 rfl (lv_at hl 0 rfl) ?_
  refine lv_ldc (own := RX10) (v := (-100001)) hx hb hown (hg _ k2_14) dX10_put_8 ?_
  refine ck_Vi (As := [.int (-100001)]) (rest := []) (wr := []) C0 hP hD hS (c_X10_finding l N km sa hs shs ja uu tb ob fd (-100001) ) myX10_finding k2_15 ⟨Nat.le_of_ble_eq_true rfl, Nat.le_of_ble_eq_true rfl⟩ [0] [] ⟨⟨rfl, rfl⟩, by decide, by decide, by decide⟩ 0 rfl rfl rfl rfl hl.1 rfl (Nat.le_of_ble_eq_true rfl) dX10_put_10 ⟨Nat.le_of_ble_eq_true rfl, Nat.le_of_ble_eq_true rfl⟩ (fun r_4 u0 H locs hw0 hP hD hS => ?_)
  have hw_5 : r_4 = (-100001) := hw0
  subst hw_5
  have hP : va_P N.1 vwCl [(km, .inr (10, [.ref sa, .ref hs, .ref shs, .ref ja, .ref uu, .ref tb, .ref ob, .int (fd + nI 1)]))] H := hP
  have hD : va_D Ag [(km, .inr (10, [.ref sa, .ref hs, .ref shs, .ref ja, .ref uu, .ref tb, .ref ob, .int (fd + nI 1)]))] := hD
  exact ck_iret hx hb hrt hlk ((fd + nI 1)) (ckRd_f rfl (by decide)) hP hD hS ⟨Nat.le_of_ble_eq_true rfl, Nat.le_of_ble_eq_true rfl⟩ dX10_put_13
set_option maxHeartbeats 4000000 in
set_option maxRecDepth 100000 in
/-- X10_copy -/
theorem c_X10_copy_d (l : Launch) (N : ckN) (km : Nat) (sa : Nat) (hs : Nat) (shs : Nat) (ja : Nat) (uu : Nat) (tb : Nat) (ob : Nat) (fd : Int32) (shf : Nat → Option Nat) (s1 : Nat) (s2 : Nat) (q1 : Nat) (m1 : Nat) (bt1 : Nat) (ct1 : Nat) (nu1 : Nat → Int32) (q2 : Nat) (m2 : Nat) (bt2 : Nat) (ct2 : Nat) (nu2 : Nat → Int32) (x : Int32) (y : Int32) (z : Int32) (hs1 : s1 < 4) (hq1 : shf s1 = some q1) (hc1 : ct1 ≤ 40) (hb1 : bt1 ≤ 32) (hs2 : s2 < 4) (hq2 : shf s2 = some q2) (hc2 : ct2 ≤ 40) (hb2 : bt2 ≤ 32) : ckI l yX10_copy cX10_copy 6 (some FieldType.int) { frames := 3, cells := 0, slots := 0, locals := 82 } N [.ref km, .int (nI s1), .int x, .int (nI s2), .int y, .int z] [(km, .inr (10, [.ref sa, .ref hs, .ref shs, .ref ja, .ref uu, .ref tb, .ref ob, .int fd])), (shs, .inl (N.2 1, 4, .inr (.inr (.inr (.inr shf))))), (q1, .inr (5, [.ref m1, .int (nI bt1), .int (nI ct1)])), (m1, .inl (N.2 0, 40, .inl nu1)), (q2, .inr (5, [.ref m2, .int (nI bt2), .int (nI ct2)])), (m2, .inl (N.2 0, 40, .inl nu2))] (fun (r : Int32) (u : Int32 × (Nat → Int32)) => (ckRd (coF bt1 bt2 ct1 ct2 x y z) (z) fd r u.1) ∧ ((coF bt1 bt2 ct1 ct2 x y z = 0 ∧ u.2 = va_cpy nu1 nu2 (ix x) (ix y) (ix z)) ∨ (coF bt1 bt2 ct1 ct2 x y z ≠ 0 ∧ u.2 = nu2))) (fun (u : Int32 × (Nat → Int32)) => [(km, .inr (10, [.ref sa, .ref hs, .ref shs, .ref ja, .ref uu, .ref tb, .ref ob, .int u.1])), (shs, .inl (N.2 1, 4, .inr (.inr (.inr (.inr shf))))), (q1, .inr (5, [.ref m1, .int (nI bt1), .int (nI ct1)])), (m1, .inl (N.2 0, 40, .inl nu1)), (q2, .inr (5, [.ref m2, .int (nI bt2), .int (nI ct2)])), (m2, .inl (N.2 0, 40, .inl u.2))]) := by
  refine ckI.of (by decide) (Nat.le_of_ble_eq_true rfl) ?_
  intro pg eg sg mg blw mth cg Ag ls hx hb hrt hml hown hlk hin hg hE hA hP hD hS hl
  have hown : sg.vm.findClass RX10 = some mg.cls := hown
  have hl : lv_has ls 6 [(0, .ref km), (1, .int (nI s1)), (2, .int x), (3, .int (nI s2)), (4, .int y), (5, .int z)] := hl
  have C0 : ckC pg sg mg ([.ref km, .int (nI s1), .int x, .int (nI s2), .int y, .int z]).toArray cg cX10_copy 6 RX10 N Ag := ⟨⟨hx, hb, hml, hown, hg⟩, hE, hA⟩
  generalize hHe : sg.heap = H at hP
  have hS : va_S Ag sg.heap H [] := hHe ▸ hS
  have hk1 : ckIn (nI s1) (nI 0) (nI 3) = true := ckIn_in (by omega) (by omega) (by decide)
  have hk2 : ckIn (nI s2) (nI 0) (nI 3) = true := ckIn_in (by omega) (by omega) (by decide)
  refine lv_iload_n hx hb dX10_copy_0 rfl (lv_at hl 1 rfl) ?_
  refine ck_Si (As := [.int (nI s1)]) (rest := []) (wr := [(km, .inr (10, [.ref sa, .ref hs, .ref shs, .ref ja, .ref uu, .ref tb, .ref ob, .int fd])), (shs, .inl (N.2 1, 4, .inr (.inr (.inr (.inr shf))))), (q1, .inr (5, [.ref m1, .int (nI bt1), .int (nI ct1)])), (m1, .inl (N.2 0, 40, .inl nu1)), (q2, .inr (5, [.ref m2, .int (nI bt2), .int (nI ct2)])), (m2, .inl (N.2 0, 40, .inl nu2))]) C0 hP hD hS (c_X10_isSheet l N (nI s1) ) myX10_isSheet k3_149 ⟨Nat.le_of_ble_eq_true rfl, Nat.le_of_ble_eq_true rfl⟩ [] [0, 1, 2, 3, 4, 5] ⟨⟨rfl, rfl⟩, by decide, by decide, by decide⟩ rfl hl.1 rfl (Nat.le_of_ble_eq_true rfl) dX10_copy_1 ⟨Nat.le_of_ble_eq_true rfl, Nat.le_of_ble_eq_true rfl⟩ (fun r_1 u0 H locs hw0 hP hD hS => ?_)
  have hw_2 : r_1 = (b2i (ckIn (nI s1) (nI 0) (nI 3))) := hw0
  subst hw_2
  have hP : va_P N.1 vwCl [(km, .inr (10, [.ref sa, .ref hs, .ref shs, .ref ja, .ref uu, .ref tb, .ref ob, .int fd])), (shs, .inl (N.2 1, 4, .inr (.inr (.inr (.inr shf))))), (q1, .inr (5, [.ref m1, .int (nI bt1), .int (nI ct1)])), (m1, .inl (N.2 0, 40, .inl nu1)), (q2, .inr (5, [.ref m2, .int (nI bt2), .int (nI ct2)])), (m2, .inl (N.2 0, 40, .inl nu2))] H := hP
  have hD : va_D Ag [(km, .inr (10, [.ref sa, .ref hs, .ref shs, .ref ja, .ref uu, .ref tb, .ref ob, .int fd])), (shs, .inl (N.2 1, 4, .inr (.inr (.inr (.inr shf))))), (q1, .inr (5, [.ref m1, .int (nI bt1), .int (nI ct1)])), (m1, .inl (N.2 0, 40, .inl nu1)), (q2, .inr (5, [.ref m2, .int (nI bt2), .int (nI ct2)])), (m2, .inl (N.2 0, 40, .inl nu2))] := hD
  refine ck_ifeq (b := ckIn (nI s1) (nI 0) (nI 3)) (tgt := 14) hx hb dX10_copy_4 (by decide) (fun cz_3 => absurd cz_3 (by rw [hk1]; decide)) (fun cz_3 => ?_)
  refine lv_iload_n hx hb dX10_copy_7 rfl (lv_at hl 3 rfl) ?_
  refine ck_Si (As := [.int (nI s2)]) (rest := []) (wr := [(km, .inr (10, [.ref sa, .ref hs, .ref shs, .ref ja, .ref uu, .ref tb, .ref ob, .int fd])), (shs, .inl (N.2 1, 4, .inr (.inr (.inr (.inr shf))))), (q1, .inr (5, [.ref m1, .int (nI bt1), .int (nI ct1)])), (m1, .inl (N.2 0, 40, .inl nu1)), (q2, .inr (5, [.ref m2, .int (nI bt2), .int (nI ct2)])), (m2, .inl (N.2 0, 40, .inl nu2))]) C0 hP hD hS (c_X10_isSheet l N (nI s2) ) myX10_isSheet k3_149 ⟨Nat.le_of_ble_eq_true rfl, Nat.le_of_ble_eq_true rfl⟩ [] [0, 1, 2, 3, 4, 5] ⟨⟨rfl, rfl⟩, by decide, by decide, by decide⟩ rfl hl.1 rfl (Nat.le_of_ble_eq_true rfl) dX10_copy_8 ⟨Nat.le_of_ble_eq_true rfl, Nat.le_of_ble_eq_true rfl⟩ (fun r_4 u0 H locs hw0 hP hD hS => ?_)
  have hw_5 : r_4 = (b2i (ckIn (nI s2) (nI 0) (nI 3))) := hw0
  subst hw_5
  have hP : va_P N.1 vwCl [(km, .inr (10, [.ref sa, .ref hs, .ref shs, .ref ja, .ref uu, .ref tb, .ref ob, .int fd])), (shs, .inl (N.2 1, 4, .inr (.inr (.inr (.inr shf))))), (q1, .inr (5, [.ref m1, .int (nI bt1), .int (nI ct1)])), (m1, .inl (N.2 0, 40, .inl nu1)), (q2, .inr (5, [.ref m2, .int (nI bt2), .int (nI ct2)])), (m2, .inl (N.2 0, 40, .inl nu2))] H := hP
  have hD : va_D Ag [(km, .inr (10, [.ref sa, .ref hs, .ref shs, .ref ja, .ref uu, .ref tb, .ref ob, .int fd])), (shs, .inl (N.2 1, 4, .inr (.inr (.inr (.inr shf))))), (q1, .inr (5, [.ref m1, .int (nI bt1), .int (nI ct1)])), (m1, .inl (N.2 0, 40, .inl nu1)), (q2, .inr (5, [.ref m2, .int (nI bt2), .int (nI ct2)])), (m2, .inl (N.2 0, 40, .inl nu2))] := hD
  refine ck_ifne (b := ckIn (nI s2) (nI 0) (nI 3)) (tgt := 21) hx hb dX10_copy_11 (by decide) (fun cz_6 => ?_) (fun cz_6 => absurd cz_6 (by rw [hk2]; decide))
  refine lv_aload_n hx hb dX10_copy_21 rfl (lv_at hl 0 rfl) ?_
  refine va_get (ci := 10) (v := .ref shs) (C := RX10) (T := TX10) (N := 8) hx hb hg inX10 hown hE.1 hP 0 rfl rfl 2 (by decide) (hg _ k1_218) (fun _ h9 => h9) rfl dX10_copy_22 ?_
  refine lv_iload_n hx hb dX10_copy_25 rfl (lv_at hl 1 rfl) ?_
  refine ck_aalds hx hb hE hP 1 1 rfl rfl (by omega) (by decide) hq1 dX10_copy_26 ?_
  refine ck_Vi (As := []) (rest := []) (wr := [(km, .inr (10, [.ref sa, .ref hs, .ref shs, .ref ja, .ref uu, .ref tb, .ref ob, .int fd])), (shs, .inl (N.2 1, 4, .inr (.inr (.inr (.inr shf))))), (q2, .inr (5, [.ref m2, .int (nI bt2), .int (nI ct2)])), (m2, .inl (N.2 0, 40, .inl nu2))]) C0 hP hD hS (c_X5_isMissing l N q1 m1 nu1 bt1 ct1 (by omega)) myX5_isMissing k3_152 ⟨Nat.le_of_ble_eq_true rfl, Nat.le_of_ble_eq_true rfl⟩ [2, 3] [0, 1, 4, 5] ⟨⟨rfl, rfl⟩, by decide, by decide, by decide⟩ 2 rfl rfl rfl rfl hl.1 rfl (Nat.le_of_ble_eq_true rfl) dX10_copy_27 ⟨Nat.le_of_ble_eq_true rfl, Nat.le_of_ble_eq_true rfl⟩ (fun r_7 u0 H locs hw0 hP hD hS => ?_)
  have hw_8 : r_7 = (b2i (decide (bt1 = 0))) := hw0
  subst hw_8
  have hP : va_P N.1 vwCl [(km, .inr (10, [.ref sa, .ref hs, .ref shs, .ref ja, .ref uu, .ref tb, .ref ob, .int fd])), (shs, .inl (N.2 1, 4, .inr (.inr (.inr (.inr shf))))), (q2, .inr (5, [.ref m2, .int (nI bt2), .int (nI ct2)])), (m2, .inl (N.2 0, 40, .inl nu2)), (q1, .inr (5, [.ref m1, .int (nI bt1), .int (nI ct1)])), (m1, .inl (N.2 0, 40, .inl nu1))] H := hP
  have hD : va_D Ag [(km, .inr (10, [.ref sa, .ref hs, .ref shs, .ref ja, .ref uu, .ref tb, .ref ob, .int fd])), (shs, .inl (N.2 1, 4, .inr (.inr (.inr (.inr shf))))), (q2, .inr (5, [.ref m2, .int (nI bt2), .int (nI ct2)])), (m2, .inl (N.2 0, 40, .inl nu2)), (q1, .inr (5, [.ref m1, .int (nI bt1), .int (nI ct1)])), (m1, .inl (N.2 0, 40, .inl nu1))] := hD
  refine ck_ifne (b := decide (bt1 = 0)) (tgt := 45) hx hb dX10_copy_30 (by decide) (fun cz_9 => ?_) (fun cz_9 => ?_)
  · have hbza := of_decide_eq_true cz_9
    refine lv_aload_n hx hb dX10_copy_45 rfl (lv_at hl 0 rfl) ?_
    refine lv_ldc (own := RX10) (v := (-100002)) hx hb hown (hg _ k3_156) dX10_copy_46 ?_
    refine ck_Vi (As := [.int (-100002)]) (rest := []) (wr := [(shs, .inl (N.2 1, 4, .inr (.inr (.inr (.inr shf))))), (q2, .inr (5, [.ref m2, .int (nI bt2), .int (nI ct2)])), (m2, .inl (N.2 0, 40, .inl nu2)), (q1, .inr (5, [.ref m1, .int (nI bt1), .int (nI ct1)])), (m1, .inl (N.2 0, 40, .inl nu1))]) C0 hP hD hS (c_X10_finding l N km sa hs shs ja uu tb ob fd (-100002) ) myX10_finding k2_15 ⟨Nat.le_of_ble_eq_true rfl, Nat.le_of_ble_eq_true rfl⟩ [0] [1, 2, 3, 4, 5] ⟨⟨rfl, rfl⟩, by decide, by decide, by decide⟩ 0 rfl rfl rfl rfl hl.1 rfl (Nat.le_of_ble_eq_true rfl) dX10_copy_48 ⟨Nat.le_of_ble_eq_true rfl, Nat.le_of_ble_eq_true rfl⟩ (fun r_10 u0 H locs hw0 hP hD hS => ?_)
    have hw_11 : r_10 = (-100002) := hw0
    subst hw_11
    have hP : va_P N.1 vwCl [(shs, .inl (N.2 1, 4, .inr (.inr (.inr (.inr shf))))), (q2, .inr (5, [.ref m2, .int (nI bt2), .int (nI ct2)])), (m2, .inl (N.2 0, 40, .inl nu2)), (q1, .inr (5, [.ref m1, .int (nI bt1), .int (nI ct1)])), (m1, .inl (N.2 0, 40, .inl nu1)), (km, .inr (10, [.ref sa, .ref hs, .ref shs, .ref ja, .ref uu, .ref tb, .ref ob, .int (fd + nI 1)]))] H := hP
    have hD : va_D Ag [(shs, .inl (N.2 1, 4, .inr (.inr (.inr (.inr shf))))), (q2, .inr (5, [.ref m2, .int (nI bt2), .int (nI ct2)])), (m2, .inl (N.2 0, 40, .inl nu2)), (q1, .inr (5, [.ref m1, .int (nI bt1), .int (nI ct1)])), (m1, .inl (N.2 0, 40, .inl nu1)), (km, .inr (10, [.ref sa, .ref hs, .ref shs, .ref ja, .ref uu, .ref tb, .ref ob, .int (fd + nI 1)]))] := hD
    exact ck_iret hx hb hrt hlk ⟨(fd + nI 1), nu2⟩ (by have he : coF bt1 bt2 ct1 ct2 x y z = (-100002) := (by simp [coF, hbza]); exact ⟨ckRd_f he (by decide), Or.inr ⟨fun q => absurd (he.symm.trans q) (by decide), rfl⟩⟩) (hP.sub [5, 0, 3, 4, 1, 2] rfl) (hD.sub [5, 0, 3, 4, 1, 2] (by decide) rfl) hS ⟨Nat.le_of_ble_eq_true rfl, Nat.le_of_ble_eq_true rfl⟩ dX10_copy_51
  have hbza := of_decide_eq_false cz_9
  refine lv_aload_n hx hb dX10_copy_33 rfl (lv_at hl 0 rfl) ?_
  refine va_get (ci := 10) (v := .ref shs) (C := RX10) (T := TX10) (N := 8) hx hb hg inX10 hown hE.1 hP 0 rfl rfl 2 (by decide) (hg _ k1_218) (fun _ h9 => h9) rfl dX10_copy_34 ?_
  refine lv_iload_n hx hb dX10_copy_37 rfl (lv_at hl 3 rfl) ?_
  refine ck_aalds hx hb hE hP 1 1 rfl rfl (by omega) (by decide) hq2 dX10_copy_38 ?_
  refine ck_Vi (As := []) (rest := []) (wr := [(km, .inr (10, [.ref sa, .ref hs, .ref shs, .ref ja, .ref uu, .ref tb, .ref ob, .int fd])), (shs, .inl (N.2 1, 4, .inr (.inr (.inr (.inr shf))))), (q1, .inr (5, [.ref m1, .int (nI bt1), .int (nI ct1)])), (m1, .inl (N.2 0, 40, .inl nu1))]) C0 hP hD hS (c_X5_isMissing l N q2 m2 nu2 bt2 ct2 (by omega)) myX5_isMissing k3_152 ⟨Nat.le_of_ble_eq_true rfl, Nat.le_of_ble_eq_true rfl⟩ [2, 3] [0, 1, 4, 5] ⟨⟨rfl, rfl⟩, by decide, by decide, by decide⟩ 2 rfl rfl rfl rfl hl.1 rfl (Nat.le_of_ble_eq_true rfl) dX10_copy_39 ⟨Nat.le_of_ble_eq_true rfl, Nat.le_of_ble_eq_true rfl⟩ (fun r_12 u0 H locs hw0 hP hD hS => ?_)
  have hw_13 : r_12 = (b2i (decide (bt2 = 0))) := hw0
  subst hw_13
  have hP : va_P N.1 vwCl [(km, .inr (10, [.ref sa, .ref hs, .ref shs, .ref ja, .ref uu, .ref tb, .ref ob, .int fd])), (shs, .inl (N.2 1, 4, .inr (.inr (.inr (.inr shf))))), (q1, .inr (5, [.ref m1, .int (nI bt1), .int (nI ct1)])), (m1, .inl (N.2 0, 40, .inl nu1)), (q2, .inr (5, [.ref m2, .int (nI bt2), .int (nI ct2)])), (m2, .inl (N.2 0, 40, .inl nu2))] H := hP
  have hD : va_D Ag [(km, .inr (10, [.ref sa, .ref hs, .ref shs, .ref ja, .ref uu, .ref tb, .ref ob, .int fd])), (shs, .inl (N.2 1, 4, .inr (.inr (.inr (.inr shf))))), (q1, .inr (5, [.ref m1, .int (nI bt1), .int (nI ct1)])), (m1, .inl (N.2 0, 40, .inl nu1)), (q2, .inr (5, [.ref m2, .int (nI bt2), .int (nI ct2)])), (m2, .inl (N.2 0, 40, .inl nu2))] := hD
  refine ck_ifeq (b := decide (bt2 = 0)) (tgt := 52) hx hb dX10_copy_42 (by decide) (fun cz_14 => ?_) (fun cz_14 => ?_)
  · have hbzb := of_decide_eq_false cz_14
    refine lv_aload_n hx hb dX10_copy_52 rfl (lv_at hl 0 rfl) ?_
    refine va_get (ci := 10) (v := .ref shs) (C := RX10) (T := TX10) (N := 8) hx hb hg inX10 hown hE.1 hP 0 rfl rfl 2 (by decide) (hg _ k1_218) (fun _ h9 => h9) rfl dX10_copy_53 ?_
    refine lv_iload_n hx hb dX10_copy_56 rfl (lv_at hl 1 rfl) ?_
    refine ck_aalds hx hb hE hP 1 1 rfl rfl (by omega) (by decide) hq1 dX10_copy_57 ?_
    refine va_getN (ci := 5) (v := .int (nI bt1)) (C := RX5) (T := TX5) (N := 3) (host := "KiteMeet") hx hb hg inX5 hown hE.1 hP 2 rfl rfl 1 (by decide) (hE.nf 22 rfl _) (fun _ h9 => h9) rfl dX10_copy_58 ?_
    refine lv_aload_n hx hb dX10_copy_61 rfl (lv_at hl 0 rfl) ?_
    refine va_get (ci := 10) (v := .ref shs) (C := RX10) (T := TX10) (N := 8) hx hb hg inX10 hown hE.1 hP 0 rfl rfl 2 (by decide) (hg _ k1_218) (fun _ h9 => h9) rfl dX10_copy_62 ?_
    refine lv_iload_n hx hb dX10_copy_65 rfl (lv_at hl 3 rfl) ?_
    refine ck_aalds hx hb hE hP 1 1 rfl rfl (by omega) (by decide) hq2 dX10_copy_66 ?_
    refine va_getN (ci := 5) (v := .int (nI bt2)) (C := RX5) (T := TX5) (N := 3) (host := "KiteMeet") hx hb hg inX5 hown hE.1 hP 4 rfl rfl 1 (by decide) (hE.nf 22 rfl _) (fun _ h9 => h9) rfl dX10_copy_67 ?_
    refine ck_ic_eq (tgt := 80) hx hb dX10_copy_70 (by decide) (by omega) (by omega) (fun cz_15 => ?_) (fun cz_15 => ?_)
    · have hbe := cz_15
      refine lv_aload_n hx hb dX10_copy_80 rfl (lv_at hl 0 rfl) ?_
      refine va_get (ci := 10) (v := .ref shs) (C := RX10) (T := TX10) (N := 8) hx hb hg inX10 hown hE.1 hP 0 rfl rfl 2 (by decide) (hg _ k1_218) (fun _ h9 => h9) rfl dX10_copy_81 ?_
      refine lv_iload_n hx hb dX10_copy_84 rfl (lv_at hl 1 rfl) ?_
      refine ck_aalds hx hb hE hP 1 1 rfl rfl (by omega) (by decide) hq1 dX10_copy_85 ?_
      refine lv_iload_n hx hb dX10_copy_86 rfl (lv_at hl 2 rfl) ?_
      refine lv_iload hx hb dX10_copy_87 (lv_at hl 5 rfl) ?_
      refine ck_Vi (As := [.int x, .int z]) (rest := []) (wr := [(km, .inr (10, [.ref sa, .ref hs, .ref shs, .ref ja, .ref uu, .ref tb, .ref ob, .int fd])), (shs, .inl (N.2 1, 4, .inr (.inr (.inr (.inr shf))))), (q2, .inr (5, [.ref m2, .int (nI bt2), .int (nI ct2)])), (m2, .inl (N.2 0, 40, .inl nu2))]) C0 hP hD hS (c_X5_reaches l N q1 m1 nu1 bt1 ct1 x z (by omega)) myX5_reaches k3_210 ⟨Nat.le_of_ble_eq_true rfl, Nat.le_of_ble_eq_true rfl⟩ [2, 3] [0, 1, 4, 5] ⟨⟨rfl, rfl⟩, by decide, by decide, by decide⟩ 2 rfl rfl rfl rfl hl.1 rfl (Nat.le_of_ble_eq_true rfl) dX10_copy_89 ⟨Nat.le_of_ble_eq_true rfl, Nat.le_of_ble_eq_true rfl⟩ (fun r_16 u0 H locs hw0 hP hD hS => ?_)
      have hw_17 : r_16 = (b2i (decide (0 ≤ x.toInt ∧ 0 ≤ z.toInt ∧ x.toInt + z.toInt ≤ (ct1 : Int)))) := hw0
      subst hw_17
      have hP : va_P N.1 vwCl [(km, .inr (10, [.ref sa, .ref hs, .ref shs, .ref ja, .ref uu, .ref tb, .ref ob, .int fd])), (shs, .inl (N.2 1, 4, .inr (.inr (.inr (.inr shf))))), (q2, .inr (5, [.ref m2, .int (nI bt2), .int (nI ct2)])), (m2, .inl (N.2 0, 40, .inl nu2)), (q1, .inr (5, [.ref m1, .int (nI bt1), .int (nI ct1)])), (m1, .inl (N.2 0, 40, .inl nu1))] H := hP
      have hD : va_D Ag [(km, .inr (10, [.ref sa, .ref hs, .ref shs, .ref ja, .ref uu, .ref tb, .ref ob, .int fd])), (shs, .inl (N.2 1, 4, .inr (.inr (.inr (.inr shf))))), (q2, .inr (5, [.ref m2, .int (nI bt2), .int (nI ct2)])), (m2, .inl (N.2 0, 40, .inl nu2)), (q1, .inr (5, [.ref m1, .int (nI bt1), .int (nI ct1)])), (m1, .inl (N.2 0, 40, .inl nu1))] := hD
      refine ck_ifeq (b := decide (0 ≤ x.toInt ∧ 0 ≤ z.toInt ∧ x.toInt + z.toInt ≤ (ct1 : Int))) (tgt := 111) hx hb dX10_copy_92 (by decide) (fun cz_18 => ?_) (fun cz_18 => ?_)
      · have cz_cox : coO ct1 x z = false := cz_18
        refine lv_aload_n hx hb dX10_copy_111 rfl (lv_at hl 0 rfl) ?_
        refine lv_ldc (own := RX10) (v := (-100001)) hx hb hown (hg _ k2_14) dX10_copy_112 ?_
        refine ck_Vi (As := [.int (-100001)]) (rest := []) (wr := [(shs, .inl (N.2 1, 4, .inr (.inr (.inr (.inr shf))))), (q2, .inr (5, [.ref m2, .int (nI bt2), .int (nI ct2)])), (m2, .inl (N.2 0, 40, .inl nu2)), (q1, .inr (5, [.ref m1, .int (nI bt1), .int (nI ct1)])), (m1, .inl (N.2 0, 40, .inl nu1))]) C0 hP hD hS (c_X10_finding l N km sa hs shs ja uu tb ob fd (-100001) ) myX10_finding k2_15 ⟨Nat.le_of_ble_eq_true rfl, Nat.le_of_ble_eq_true rfl⟩ [0] [1, 2, 3, 4, 5] ⟨⟨rfl, rfl⟩, by decide, by decide, by decide⟩ 0 rfl rfl rfl rfl hl.1 rfl (Nat.le_of_ble_eq_true rfl) dX10_copy_114 ⟨Nat.le_of_ble_eq_true rfl, Nat.le_of_ble_eq_true rfl⟩ (fun r_19 u0 H locs hw0 hP hD hS => ?_)
        have hw_20 : r_19 = (-100001) := hw0
        subst hw_20
        have hP : va_P N.1 vwCl [(shs, .inl (N.2 1, 4, .inr (.inr (.inr (.inr shf))))), (q2, .inr (5, [.ref m2, .int (nI bt2), .int (nI ct2)])), (m2, .inl (N.2 0, 40, .inl nu2)), (q1, .inr (5, [.ref m1, .int (nI bt1), .int (nI ct1)])), (m1, .inl (N.2 0, 40, .inl nu1)), (km, .inr (10, [.ref sa, .ref hs, .ref shs, .ref ja, .ref uu, .ref tb, .ref ob, .int (fd + nI 1)]))] H := hP
        have hD : va_D Ag [(shs, .inl (N.2 1, 4, .inr (.inr (.inr (.inr shf))))), (q2, .inr (5, [.ref m2, .int (nI bt2), .int (nI ct2)])), (m2, .inl (N.2 0, 40, .inl nu2)), (q1, .inr (5, [.ref m1, .int (nI bt1), .int (nI ct1)])), (m1, .inl (N.2 0, 40, .inl nu1)), (km, .inr (10, [.ref sa, .ref hs, .ref shs, .ref ja, .ref uu, .ref tb, .ref ob, .int (fd + nI 1)]))] := hD
        exact ck_iret hx hb hrt hlk ⟨(fd + nI 1), nu2⟩ (by have he : coF bt1 bt2 ct1 ct2 x y z = (-100001) := (by simp [coF, hbza, hbzb, hbe, cz_cox]); exact ⟨ckRd_f he (by decide), Or.inr ⟨fun q => absurd (he.symm.trans q) (by decide), rfl⟩⟩) (hP.sub [5, 0, 3, 4, 1, 2] rfl) (hD.sub [5, 0, 3, 4, 1, 2] (by decide) rfl) hS ⟨Nat.le_of_ble_eq_true rfl, Nat.le_of_ble_eq_true rfl⟩ dX10_copy_117
      have cz_cox : coO ct1 x z = true := cz_18
      refine lv_aload_n hx hb dX10_copy_95 rfl (lv_at hl 0 rfl) ?_
      refine va_get (ci := 10) (v := .ref shs) (C := RX10) (T := TX10) (N := 8) hx hb hg inX10 hown hE.1 hP 0 rfl rfl 2 (by decide) (hg _ k1_218) (fun _ h9 => h9) rfl dX10_copy_96 ?_
      refine lv_iload_n hx hb dX10_copy_99 rfl (lv_at hl 3 rfl) ?_
      refine ck_aalds hx hb hE hP 1 1 rfl rfl (by omega) (by decide) hq2 dX10_copy_100 ?_
      refine lv_iload hx hb dX10_copy_101 (lv_at hl 4 rfl) ?_
      refine lv_iload hx hb dX10_copy_103 (lv_at hl 5 rfl) ?_
      refine ck_Vi (As := [.int y, .int z]) (rest := []) (wr := [(km, .inr (10, [.ref sa, .ref hs, .ref shs, .ref ja, .ref uu, .ref tb, .ref ob, .int fd])), (shs, .inl (N.2 1, 4, .inr (.inr (.inr (.inr shf))))), (q1, .inr (5, [.ref m1, .int (nI bt1), .int (nI ct1)])), (m1, .inl (N.2 0, 40, .inl nu1))]) C0 hP hD hS (c_X5_reaches l N q2 m2 nu2 bt2 ct2 y z (by omega)) myX5_reaches k3_210 ⟨Nat.le_of_ble_eq_true rfl, Nat.le_of_ble_eq_true rfl⟩ [2, 3] [0, 1, 4, 5] ⟨⟨rfl, rfl⟩, by decide, by decide, by decide⟩ 2 rfl rfl rfl rfl hl.1 rfl (Nat.le_of_ble_eq_true rfl) dX10_copy_105 ⟨Nat.le_of_ble_eq_true rfl, Nat.le_of_ble_eq_true rfl⟩ (fun r_21 u0 H locs hw0 hP hD hS => ?_)
      have hw_22 : r_21 = (b2i (decide (0 ≤ y.toInt ∧ 0 ≤ z.toInt ∧ y.toInt + z.toInt ≤ (ct2 : Int)))) := hw0
      subst hw_22
      have hP : va_P N.1 vwCl [(km, .inr (10, [.ref sa, .ref hs, .ref shs, .ref ja, .ref uu, .ref tb, .ref ob, .int fd])), (shs, .inl (N.2 1, 4, .inr (.inr (.inr (.inr shf))))), (q1, .inr (5, [.ref m1, .int (nI bt1), .int (nI ct1)])), (m1, .inl (N.2 0, 40, .inl nu1)), (q2, .inr (5, [.ref m2, .int (nI bt2), .int (nI ct2)])), (m2, .inl (N.2 0, 40, .inl nu2))] H := hP
      have hD : va_D Ag [(km, .inr (10, [.ref sa, .ref hs, .ref shs, .ref ja, .ref uu, .ref tb, .ref ob, .int fd])), (shs, .inl (N.2 1, 4, .inr (.inr (.inr (.inr shf))))), (q1, .inr (5, [.ref m1, .int (nI bt1), .int (nI ct1)])), (m1, .inl (N.2 0, 40, .inl nu1)), (q2, .inr (5, [.ref m2, .int (nI bt2), .int (nI ct2)])), (m2, .inl (N.2 0, 40, .inl nu2))] := hD
      refine ck_ifne (b := decide (0 ≤ y.toInt ∧ 0 ≤ z.toInt ∧ y.toInt + z.toInt ≤ (ct2 : Int))) (tgt := 118) hx hb dX10_copy_108 (by decide) (fun cz_23 => ?_) (fun cz_23 => ?_)
      · have cz_coy : coO ct2 y z = true := cz_23
        have ho1 : coO ct1 x z = true := cz_cox
        have ho2 : coO ct2 y z = true := cz_coy
        obtain ⟨i, k, rfl, rfl, hik⟩ := coO_t ho1 (by omega)
        obtain ⟨j, k2, rfl, hkk, hjk⟩ := coO_t ho2 (by omega)
        have exk0 : k < 2 ^ 31 := by omega
        have hk22 : k2 = k := ((nI_eq (by omega) exk0).mp hkk.symm)
        subst hk22
        have exi := ix_nI (j := i) (by omega)
        have exj := ix_nI (j := j) (by omega)
        have exk := ix_nI (j := k2) (by omega)
        refine lv_aload_n hx hb dX10_copy_118 rfl (lv_at hl 0 rfl) ?_
        refine va_get (ci := 10) (v := .ref shs) (C := RX10) (T := TX10) (N := 8) hx hb hg inX10 hown hE.1 hP 0 rfl rfl 2 (by decide) (hg _ k1_218) (fun _ h9 => h9) rfl dX10_copy_119 ?_
        refine lv_iload_n hx hb dX10_copy_122 rfl (lv_at hl 1 rfl) ?_
        refine ck_aalds hx hb hE hP 1 1 rfl rfl (by omega) (by decide) hq1 dX10_copy_123 ?_
        refine va_getN (ci := 5) (v := .ref m1) (C := RX5) (T := TX5) (N := 3) (host := "KiteMeet") hx hb hg inX5 hown hE.1 hP 2 rfl rfl 0 (by decide) (hE.nf 21 rfl _) (fun _ h9 => h9) rfl dX10_copy_124 ?_
        refine lv_iload_n hx hb dX10_copy_127 rfl (lv_at hl 2 rfl) ?_
        refine lv_aload_n hx hb dX10_copy_128 rfl (lv_at hl 0 rfl) ?_
        refine va_get (ci := 10) (v := .ref shs) (C := RX10) (T := TX10) (N := 8) hx hb hg inX10 hown hE.1 hP 0 rfl rfl 2 (by decide) (hg _ k1_218) (fun _ h9 => h9) rfl dX10_copy_129 ?_
        refine lv_iload_n hx hb dX10_copy_132 rfl (lv_at hl 3 rfl) ?_
        refine ck_aalds hx hb hE hP 1 1 rfl rfl (by omega) (by decide) hq2 dX10_copy_133 ?_
        refine va_getN (ci := 5) (v := .ref m2) (C := RX5) (T := TX5) (N := 3) (host := "KiteMeet") hx hb hg inX5 hown hE.1 hP 4 rfl rfl 0 (by decide) (hE.nf 21 rfl _) (fun _ h9 => h9) rfl dX10_copy_134 ?_
        refine lv_iload hx hb dX10_copy_137 (lv_at hl 4 rfl) ?_
        refine lv_iload hx hb dX10_copy_139 (lv_at hl 5 rfl) ?_
        refine ck_copy hx hb (by rw [hml]; exact hl.1.symm) hown (hg _ k3_214) (hg _ k2_52) (hg _ k2_51) (hg _ k1_13) hE hP hD hS 3 5 rfl rfl (by omega) (by omega) ⟨by omega, by omega, by omega⟩ (Nat.le_of_ble_eq_true rfl) (Nat.le_of_ble_eq_true rfl) dX10_copy_141 (ws1 := [(km, .inr (10, [.ref sa, .ref hs, .ref shs, .ref ja, .ref uu, .ref tb, .ref ob, .int fd])), (shs, .inl (N.2 1, 4, .inr (.inr (.inr (.inr shf))))), (q1, .inr (5, [.ref m1, .int (nI bt1), .int (nI ct1)])), (m1, .inl (N.2 0, 40, .inl nu1)), (q2, .inr (5, [.ref m2, .int (nI bt2), .int (nI ct2)])), (m2, .inl (N.2 0, 40, .inl (va_cpy nu1 nu2 i j k2)))]) rfl (fun H locs hP hD hS => ?_)
        refine lv_iload hx hb dX10_copy_144 (lv_at hl 5 rfl) ?_
        exact ck_iret hx hb hrt hlk ⟨fd, va_cpy nu1 nu2 i j k2⟩ (by have he : coF bt1 bt2 ct1 ct2 (nI i) (nI j) (nI k2) = 0 := (by simp [coF, hbza, hbzb, hbe, ho1, ho2]); exact ⟨ckRd_ok he rfl, Or.inl ⟨he, (by rw [exi, exj, exk])⟩⟩) hP hD hS ⟨Nat.le_of_ble_eq_true rfl, Nat.le_of_ble_eq_true rfl⟩ dX10_copy_146
      have cz_coy : coO ct2 y z = false := cz_23
      refine lv_aload_n hx hb dX10_copy_111 rfl (lv_at hl 0 rfl) ?_
      refine lv_ldc (own := RX10) (v := (-100001)) hx hb hown (hg _ k2_14) dX10_copy_112 ?_
      refine ck_Vi (As := [.int (-100001)]) (rest := []) (wr := [(shs, .inl (N.2 1, 4, .inr (.inr (.inr (.inr shf))))), (q1, .inr (5, [.ref m1, .int (nI bt1), .int (nI ct1)])), (m1, .inl (N.2 0, 40, .inl nu1)), (q2, .inr (5, [.ref m2, .int (nI bt2), .int (nI ct2)])), (m2, .inl (N.2 0, 40, .inl nu2))]) C0 hP hD hS (c_X10_finding l N km sa hs shs ja uu tb ob fd (-100001) ) myX10_finding k2_15 ⟨Nat.le_of_ble_eq_true rfl, Nat.le_of_ble_eq_true rfl⟩ [0] [1, 2, 3, 4, 5] ⟨⟨rfl, rfl⟩, by decide, by decide, by decide⟩ 0 rfl rfl rfl rfl hl.1 rfl (Nat.le_of_ble_eq_true rfl) dX10_copy_114 ⟨Nat.le_of_ble_eq_true rfl, Nat.le_of_ble_eq_true rfl⟩ (fun r_24 u0 H locs hw0 hP hD hS => ?_)
      have hw_25 : r_24 = (-100001) := hw0
      subst hw_25
      have hP : va_P N.1 vwCl [(shs, .inl (N.2 1, 4, .inr (.inr (.inr (.inr shf))))), (q1, .inr (5, [.ref m1, .int (nI bt1), .int (nI ct1)])), (m1, .inl (N.2 0, 40, .inl nu1)), (q2, .inr (5, [.ref m2, .int (nI bt2), .int (nI ct2)])), (m2, .inl (N.2 0, 40, .inl nu2)), (km, .inr (10, [.ref sa, .ref hs, .ref shs, .ref ja, .ref uu, .ref tb, .ref ob, .int (fd + nI 1)]))] H := hP
      have hD : va_D Ag [(shs, .inl (N.2 1, 4, .inr (.inr (.inr (.inr shf))))), (q1, .inr (5, [.ref m1, .int (nI bt1), .int (nI ct1)])), (m1, .inl (N.2 0, 40, .inl nu1)), (q2, .inr (5, [.ref m2, .int (nI bt2), .int (nI ct2)])), (m2, .inl (N.2 0, 40, .inl nu2)), (km, .inr (10, [.ref sa, .ref hs, .ref shs, .ref ja, .ref uu, .ref tb, .ref ob, .int (fd + nI 1)]))] := hD
      exact ck_iret hx hb hrt hlk ⟨(fd + nI 1), nu2⟩ (by have he : coF bt1 bt2 ct1 ct2 x y z = (-100001) := (by simp [coF, hbza, hbzb, hbe, cz_cox, cz_coy]); exact ⟨ckRd_f he (by decide), Or.inr ⟨fun q => absurd (he.symm.trans q) (by decide), rfl⟩⟩) (hP.sub [5, 0, 1, 2, 3, 4] rfl) (hD.sub [5, 0, 1, 2, 3, 4] (by decide) rfl) hS ⟨Nat.le_of_ble_eq_true rfl, Nat.le_of_ble_eq_true rfl⟩ dX10_copy_117
    have hbe := cz_15
    refine lv_aload_n hx hb dX10_copy_73 rfl (lv_at hl 0 rfl) ?_
    refine lv_ldc (own := RX10) (v := (-100004)) hx hb hown (hg _ k2_110) dX10_copy_74 ?_
    refine ck_Vi (As := [.int (-100004)]) (rest := []) (wr := [(shs, .inl (N.2 1, 4, .inr (.inr (.inr (.inr shf))))), (q1, .inr (5, [.ref m1, .int (nI bt1), .int (nI ct1)])), (m1, .inl (N.2 0, 40, .inl nu1)), (q2, .inr (5, [.ref m2, .int (nI bt2), .int (nI ct2)])), (m2, .inl (N.2 0, 40, .inl nu2))]) C0 hP hD hS (c_X10_finding l N km sa hs shs ja uu tb ob fd (-100004) ) myX10_finding k2_15 ⟨Nat.le_of_ble_eq_true rfl, Nat.le_of_ble_eq_true rfl⟩ [0] [1, 2, 3, 4, 5] ⟨⟨rfl, rfl⟩, by decide, by decide, by decide⟩ 0 rfl rfl rfl rfl hl.1 rfl (Nat.le_of_ble_eq_true rfl) dX10_copy_76 ⟨Nat.le_of_ble_eq_true rfl, Nat.le_of_ble_eq_true rfl⟩ (fun r_26 u0 H locs hw0 hP hD hS => ?_)
    have hw_27 : r_26 = (-100004) := hw0
    subst hw_27
    have hP : va_P N.1 vwCl [(shs, .inl (N.2 1, 4, .inr (.inr (.inr (.inr shf))))), (q1, .inr (5, [.ref m1, .int (nI bt1), .int (nI ct1)])), (m1, .inl (N.2 0, 40, .inl nu1)), (q2, .inr (5, [.ref m2, .int (nI bt2), .int (nI ct2)])), (m2, .inl (N.2 0, 40, .inl nu2)), (km, .inr (10, [.ref sa, .ref hs, .ref shs, .ref ja, .ref uu, .ref tb, .ref ob, .int (fd + nI 1)]))] H := hP
    have hD : va_D Ag [(shs, .inl (N.2 1, 4, .inr (.inr (.inr (.inr shf))))), (q1, .inr (5, [.ref m1, .int (nI bt1), .int (nI ct1)])), (m1, .inl (N.2 0, 40, .inl nu1)), (q2, .inr (5, [.ref m2, .int (nI bt2), .int (nI ct2)])), (m2, .inl (N.2 0, 40, .inl nu2)), (km, .inr (10, [.ref sa, .ref hs, .ref shs, .ref ja, .ref uu, .ref tb, .ref ob, .int (fd + nI 1)]))] := hD
    exact ck_iret hx hb hrt hlk ⟨(fd + nI 1), nu2⟩ (by have he : coF bt1 bt2 ct1 ct2 x y z = (-100004) := (by simp [coF, hbza, hbzb, hbe]); exact ⟨ckRd_f he (by decide), Or.inr ⟨fun q => absurd (he.symm.trans q) (by decide), rfl⟩⟩) (hP.sub [5, 0, 1, 2, 3, 4] rfl) (hD.sub [5, 0, 1, 2, 3, 4] (by decide) rfl) hS ⟨Nat.le_of_ble_eq_true rfl, Nat.le_of_ble_eq_true rfl⟩ dX10_copy_79
  have hbzb := of_decide_eq_true cz_14
  refine lv_aload_n hx hb dX10_copy_45 rfl (lv_at hl 0 rfl) ?_
  refine lv_ldc (own := RX10) (v := (-100002)) hx hb hown (hg _ k3_156) dX10_copy_46 ?_
  refine ck_Vi (As := [.int (-100002)]) (rest := []) (wr := [(shs, .inl (N.2 1, 4, .inr (.inr (.inr (.inr shf))))), (q1, .inr (5, [.ref m1, .int (nI bt1), .int (nI ct1)])), (m1, .inl (N.2 0, 40, .inl nu1)), (q2, .inr (5, [.ref m2, .int (nI bt2), .int (nI ct2)])), (m2, .inl (N.2 0, 40, .inl nu2))]) C0 hP hD hS (c_X10_finding l N km sa hs shs ja uu tb ob fd (-100002) ) myX10_finding k2_15 ⟨Nat.le_of_ble_eq_true rfl, Nat.le_of_ble_eq_true rfl⟩ [0] [1, 2, 3, 4, 5] ⟨⟨rfl, rfl⟩, by decide, by decide, by decide⟩ 0 rfl rfl rfl rfl hl.1 rfl (Nat.le_of_ble_eq_true rfl) dX10_copy_48 ⟨Nat.le_of_ble_eq_true rfl, Nat.le_of_ble_eq_true rfl⟩ (fun r_28 u0 H locs hw0 hP hD hS => ?_)
  have hw_29 : r_28 = (-100002) := hw0
  subst hw_29
  have hP : va_P N.1 vwCl [(shs, .inl (N.2 1, 4, .inr (.inr (.inr (.inr shf))))), (q1, .inr (5, [.ref m1, .int (nI bt1), .int (nI ct1)])), (m1, .inl (N.2 0, 40, .inl nu1)), (q2, .inr (5, [.ref m2, .int (nI bt2), .int (nI ct2)])), (m2, .inl (N.2 0, 40, .inl nu2)), (km, .inr (10, [.ref sa, .ref hs, .ref shs, .ref ja, .ref uu, .ref tb, .ref ob, .int (fd + nI 1)]))] H := hP
  have hD : va_D Ag [(shs, .inl (N.2 1, 4, .inr (.inr (.inr (.inr shf))))), (q1, .inr (5, [.ref m1, .int (nI bt1), .int (nI ct1)])), (m1, .inl (N.2 0, 40, .inl nu1)), (q2, .inr (5, [.ref m2, .int (nI bt2), .int (nI ct2)])), (m2, .inl (N.2 0, 40, .inl nu2)), (km, .inr (10, [.ref sa, .ref hs, .ref shs, .ref ja, .ref uu, .ref tb, .ref ob, .int (fd + nI 1)]))] := hD
  exact ck_iret hx hb hrt hlk ⟨(fd + nI 1), nu2⟩ (by have he : coF bt1 bt2 ct1 ct2 x y z = (-100002) := (by simp [coF, hbza, hbzb]); exact ⟨ckRd_f he (by decide), Or.inr ⟨fun q => absurd (he.symm.trans q) (by decide), rfl⟩⟩) (hP.sub [5, 0, 1, 2, 3, 4] rfl) (hD.sub [5, 0, 1, 2, 3, 4] (by decide) rfl) hS ⟨Nat.le_of_ble_eq_true rfl, Nat.le_of_ble_eq_true rfl⟩ dX10_copy_51
set_option maxHeartbeats 4000000 in
set_option maxRecDepth 100000 in
/-- X10_copy -/
theorem c_X10_copy_e (l : Launch) (N : ckN) (km : Nat) (sa : Nat) (hs : Nat) (shs : Nat) (ja : Nat) (uu : Nat) (tb : Nat) (ob : Nat) (fd : Int32) (shf : Nat → Option Nat) (s1 : Nat) (q1 : Nat) (m1 : Nat) (bt1 : Nat) (ct1 : Nat) (nu1 : Nat → Int32) (x : Int32) (y : Int32) (z : Int32) (hs1 : s1 < 4) (hq1 : shf s1 = some q1) (hc1 : ct1 ≤ 40) (hb1 : bt1 ≤ 32) : ckI l yX10_copy cX10_copy 6 (some FieldType.int) { frames := 3, cells := 0, slots := 0, locals := 82 } N [.ref km, .int (nI s1), .int x, .int (nI s1), .int y, .int z] [(km, .inr (10, [.ref sa, .ref hs, .ref shs, .ref ja, .ref uu, .ref tb, .ref ob, .int fd])), (shs, .inl (N.2 1, 4, .inr (.inr (.inr (.inr shf))))), (q1, .inr (5, [.ref m1, .int (nI bt1), .int (nI ct1)])), (m1, .inl (N.2 0, 40, .inl nu1))] (fun (r : Int32) (u : Int32 × (Nat → Int32)) => (ckRd (coF bt1 bt1 ct1 ct1 x y z) (z) fd r u.1) ∧ ((coF bt1 bt1 ct1 ct1 x y z = 0 ∧ u.2 = va_cpy nu1 nu1 (ix x) (ix y) (ix z)) ∨ (coF bt1 bt1 ct1 ct1 x y z ≠ 0 ∧ u.2 = nu1))) (fun (u : Int32 × (Nat → Int32)) => [(km, .inr (10, [.ref sa, .ref hs, .ref shs, .ref ja, .ref uu, .ref tb, .ref ob, .int u.1])), (shs, .inl (N.2 1, 4, .inr (.inr (.inr (.inr shf))))), (q1, .inr (5, [.ref m1, .int (nI bt1), .int (nI ct1)])), (m1, .inl (N.2 0, 40, .inl u.2))]) := by
  refine ckI.of (by decide) (Nat.le_of_ble_eq_true rfl) ?_
  intro pg eg sg mg blw mth cg Ag ls hx hb hrt hml hown hlk hin hg hE hA hP hD hS hl
  have hown : sg.vm.findClass RX10 = some mg.cls := hown
  have hl : lv_has ls 6 [(0, .ref km), (1, .int (nI s1)), (2, .int x), (3, .int (nI s1)), (4, .int y), (5, .int z)] := hl
  have C0 : ckC pg sg mg ([.ref km, .int (nI s1), .int x, .int (nI s1), .int y, .int z]).toArray cg cX10_copy 6 RX10 N Ag := ⟨⟨hx, hb, hml, hown, hg⟩, hE, hA⟩
  generalize hHe : sg.heap = H at hP
  have hS : va_S Ag sg.heap H [] := hHe ▸ hS
  have hk1 : ckIn (nI s1) (nI 0) (nI 3) = true := ckIn_in (by omega) (by omega) (by decide)
  refine lv_iload_n hx hb dX10_copy_0 rfl (lv_at hl 1 rfl) ?_
  refine ck_Si (As := [.int (nI s1)]) (rest := []) (wr := [(km, .inr (10, [.ref sa, .ref hs, .ref shs, .ref ja, .ref uu, .ref tb, .ref ob, .int fd])), (shs, .inl (N.2 1, 4, .inr (.inr (.inr (.inr shf))))), (q1, .inr (5, [.ref m1, .int (nI bt1), .int (nI ct1)])), (m1, .inl (N.2 0, 40, .inl nu1))]) C0 hP hD hS (c_X10_isSheet l N (nI s1) ) myX10_isSheet k3_149 ⟨Nat.le_of_ble_eq_true rfl, Nat.le_of_ble_eq_true rfl⟩ [] [0, 1, 2, 3] ⟨⟨rfl, rfl⟩, by decide, by decide, by decide⟩ rfl hl.1 rfl (Nat.le_of_ble_eq_true rfl) dX10_copy_1 ⟨Nat.le_of_ble_eq_true rfl, Nat.le_of_ble_eq_true rfl⟩ (fun r_1 u0 H locs hw0 hP hD hS => ?_)
  have hw_2 : r_1 = (b2i (ckIn (nI s1) (nI 0) (nI 3))) := hw0
  subst hw_2
  have hP : va_P N.1 vwCl [(km, .inr (10, [.ref sa, .ref hs, .ref shs, .ref ja, .ref uu, .ref tb, .ref ob, .int fd])), (shs, .inl (N.2 1, 4, .inr (.inr (.inr (.inr shf))))), (q1, .inr (5, [.ref m1, .int (nI bt1), .int (nI ct1)])), (m1, .inl (N.2 0, 40, .inl nu1))] H := hP
  have hD : va_D Ag [(km, .inr (10, [.ref sa, .ref hs, .ref shs, .ref ja, .ref uu, .ref tb, .ref ob, .int fd])), (shs, .inl (N.2 1, 4, .inr (.inr (.inr (.inr shf))))), (q1, .inr (5, [.ref m1, .int (nI bt1), .int (nI ct1)])), (m1, .inl (N.2 0, 40, .inl nu1))] := hD
  refine ck_ifeq (b := ckIn (nI s1) (nI 0) (nI 3)) (tgt := 14) hx hb dX10_copy_4 (by decide) (fun cz_3 => absurd cz_3 (by rw [hk1]; decide)) (fun cz_3 => ?_)
  refine lv_iload_n hx hb dX10_copy_7 rfl (lv_at hl 3 rfl) ?_
  refine ck_Si (As := [.int (nI s1)]) (rest := []) (wr := [(km, .inr (10, [.ref sa, .ref hs, .ref shs, .ref ja, .ref uu, .ref tb, .ref ob, .int fd])), (shs, .inl (N.2 1, 4, .inr (.inr (.inr (.inr shf))))), (q1, .inr (5, [.ref m1, .int (nI bt1), .int (nI ct1)])), (m1, .inl (N.2 0, 40, .inl nu1))]) C0 hP hD hS (c_X10_isSheet l N (nI s1) ) myX10_isSheet k3_149 ⟨Nat.le_of_ble_eq_true rfl, Nat.le_of_ble_eq_true rfl⟩ [] [0, 1, 2, 3] ⟨⟨rfl, rfl⟩, by decide, by decide, by decide⟩ rfl hl.1 rfl (Nat.le_of_ble_eq_true rfl) dX10_copy_8 ⟨Nat.le_of_ble_eq_true rfl, Nat.le_of_ble_eq_true rfl⟩ (fun r_4 u0 H locs hw0 hP hD hS => ?_)
  have hw_5 : r_4 = (b2i (ckIn (nI s1) (nI 0) (nI 3))) := hw0
  subst hw_5
  have hP : va_P N.1 vwCl [(km, .inr (10, [.ref sa, .ref hs, .ref shs, .ref ja, .ref uu, .ref tb, .ref ob, .int fd])), (shs, .inl (N.2 1, 4, .inr (.inr (.inr (.inr shf))))), (q1, .inr (5, [.ref m1, .int (nI bt1), .int (nI ct1)])), (m1, .inl (N.2 0, 40, .inl nu1))] H := hP
  have hD : va_D Ag [(km, .inr (10, [.ref sa, .ref hs, .ref shs, .ref ja, .ref uu, .ref tb, .ref ob, .int fd])), (shs, .inl (N.2 1, 4, .inr (.inr (.inr (.inr shf))))), (q1, .inr (5, [.ref m1, .int (nI bt1), .int (nI ct1)])), (m1, .inl (N.2 0, 40, .inl nu1))] := hD
  refine ck_ifne (b := ckIn (nI s1) (nI 0) (nI 3)) (tgt := 21) hx hb dX10_copy_11 (by decide) (fun cz_6 => ?_) (fun cz_6 => absurd cz_6 (by rw [hk1]; decide))
  refine lv_aload_n hx hb dX10_copy_21 rfl (lv_at hl 0 rfl) ?_
  refine va_get (ci := 10) (v := .ref shs) (C := RX10) (T := TX10) (N := 8) hx hb hg inX10 hown hE.1 hP 0 rfl rfl 2 (by decide) (hg _ k1_218) (fun _ h9 => h9) rfl dX10_copy_22 ?_
  refine lv_iload_n hx hb dX10_copy_25 rfl (lv_at hl 1 rfl) ?_
  refine ck_aalds hx hb hE hP 1 1 rfl rfl (by omega) (by decide) hq1 dX10_copy_26 ?_
  refine ck_Vi (As := []) (rest := []) (wr := [(km, .inr (10, [.ref sa, .ref hs, .ref shs, .ref ja, .ref uu, .ref tb, .ref ob, .int fd])), (shs, .inl (N.2 1, 4, .inr (.inr (.inr (.inr shf)))))]) C0 hP hD hS (c_X5_isMissing l N q1 m1 nu1 bt1 ct1 (by omega)) myX5_isMissing k3_152 ⟨Nat.le_of_ble_eq_true rfl, Nat.le_of_ble_eq_true rfl⟩ [2, 3] [0, 1] ⟨⟨rfl, rfl⟩, by decide, by decide, by decide⟩ 2 rfl rfl rfl rfl hl.1 rfl (Nat.le_of_ble_eq_true rfl) dX10_copy_27 ⟨Nat.le_of_ble_eq_true rfl, Nat.le_of_ble_eq_true rfl⟩ (fun r_7 u0 H locs hw0 hP hD hS => ?_)
  have hw_8 : r_7 = (b2i (decide (bt1 = 0))) := hw0
  subst hw_8
  have hP : va_P N.1 vwCl [(km, .inr (10, [.ref sa, .ref hs, .ref shs, .ref ja, .ref uu, .ref tb, .ref ob, .int fd])), (shs, .inl (N.2 1, 4, .inr (.inr (.inr (.inr shf))))), (q1, .inr (5, [.ref m1, .int (nI bt1), .int (nI ct1)])), (m1, .inl (N.2 0, 40, .inl nu1))] H := hP
  have hD : va_D Ag [(km, .inr (10, [.ref sa, .ref hs, .ref shs, .ref ja, .ref uu, .ref tb, .ref ob, .int fd])), (shs, .inl (N.2 1, 4, .inr (.inr (.inr (.inr shf))))), (q1, .inr (5, [.ref m1, .int (nI bt1), .int (nI ct1)])), (m1, .inl (N.2 0, 40, .inl nu1))] := hD
  refine ck_ifne (b := decide (bt1 = 0)) (tgt := 45) hx hb dX10_copy_30 (by decide) (fun cz_9 => ?_) (fun cz_9 => ?_)
  · have hbza := of_decide_eq_true cz_9
    refine lv_aload_n hx hb dX10_copy_45 rfl (lv_at hl 0 rfl) ?_
    refine lv_ldc (own := RX10) (v := (-100002)) hx hb hown (hg _ k3_156) dX10_copy_46 ?_
    refine ck_Vi (As := [.int (-100002)]) (rest := []) (wr := [(shs, .inl (N.2 1, 4, .inr (.inr (.inr (.inr shf))))), (q1, .inr (5, [.ref m1, .int (nI bt1), .int (nI ct1)])), (m1, .inl (N.2 0, 40, .inl nu1))]) C0 hP hD hS (c_X10_finding l N km sa hs shs ja uu tb ob fd (-100002) ) myX10_finding k2_15 ⟨Nat.le_of_ble_eq_true rfl, Nat.le_of_ble_eq_true rfl⟩ [0] [1, 2, 3] ⟨⟨rfl, rfl⟩, by decide, by decide, by decide⟩ 0 rfl rfl rfl rfl hl.1 rfl (Nat.le_of_ble_eq_true rfl) dX10_copy_48 ⟨Nat.le_of_ble_eq_true rfl, Nat.le_of_ble_eq_true rfl⟩ (fun r_10 u0 H locs hw0 hP hD hS => ?_)
    have hw_11 : r_10 = (-100002) := hw0
    subst hw_11
    have hP : va_P N.1 vwCl [(shs, .inl (N.2 1, 4, .inr (.inr (.inr (.inr shf))))), (q1, .inr (5, [.ref m1, .int (nI bt1), .int (nI ct1)])), (m1, .inl (N.2 0, 40, .inl nu1)), (km, .inr (10, [.ref sa, .ref hs, .ref shs, .ref ja, .ref uu, .ref tb, .ref ob, .int (fd + nI 1)]))] H := hP
    have hD : va_D Ag [(shs, .inl (N.2 1, 4, .inr (.inr (.inr (.inr shf))))), (q1, .inr (5, [.ref m1, .int (nI bt1), .int (nI ct1)])), (m1, .inl (N.2 0, 40, .inl nu1)), (km, .inr (10, [.ref sa, .ref hs, .ref shs, .ref ja, .ref uu, .ref tb, .ref ob, .int (fd + nI 1)]))] := hD
    exact ck_iret hx hb hrt hlk ⟨(fd + nI 1), nu1⟩ (by have he : coF bt1 bt1 ct1 ct1 x y z = (-100002) := (by simp [coF, hbza]); exact ⟨ckRd_f he (by decide), Or.inr ⟨fun q => absurd (he.symm.trans q) (by decide), rfl⟩⟩) (hP.sub [3, 0, 1, 2] rfl) (hD.sub [3, 0, 1, 2] (by decide) rfl) hS ⟨Nat.le_of_ble_eq_true rfl, Nat.le_of_ble_eq_true rfl⟩ dX10_copy_51
  have hbza := of_decide_eq_false cz_9
  refine lv_aload_n hx hb dX10_copy_33 rfl (lv_at hl 0 rfl) ?_
  refine va_get (ci := 10) (v := .ref shs) (C := RX10) (T := TX10) (N := 8) hx hb hg inX10 hown hE.1 hP 0 rfl rfl 2 (by decide) (hg _ k1_218) (fun _ h9 => h9) rfl dX10_copy_34 ?_
  refine lv_iload_n hx hb dX10_copy_37 rfl (lv_at hl 3 rfl) ?_
  refine ck_aalds hx hb hE hP 1 1 rfl rfl (by omega) (by decide) hq1 dX10_copy_38 ?_
  refine ck_Vi (As := []) (rest := []) (wr := [(km, .inr (10, [.ref sa, .ref hs, .ref shs, .ref ja, .ref uu, .ref tb, .ref ob, .int fd])), (shs, .inl (N.2 1, 4, .inr (.inr (.inr (.inr shf)))))]) C0 hP hD hS (c_X5_isMissing l N q1 m1 nu1 bt1 ct1 (by omega)) myX5_isMissing k3_152 ⟨Nat.le_of_ble_eq_true rfl, Nat.le_of_ble_eq_true rfl⟩ [2, 3] [0, 1] ⟨⟨rfl, rfl⟩, by decide, by decide, by decide⟩ 2 rfl rfl rfl rfl hl.1 rfl (Nat.le_of_ble_eq_true rfl) dX10_copy_39 ⟨Nat.le_of_ble_eq_true rfl, Nat.le_of_ble_eq_true rfl⟩ (fun r_12 u0 H locs hw0 hP hD hS => ?_)
  have hw_13 : r_12 = (b2i (decide (bt1 = 0))) := hw0
  subst hw_13
  have hP : va_P N.1 vwCl [(km, .inr (10, [.ref sa, .ref hs, .ref shs, .ref ja, .ref uu, .ref tb, .ref ob, .int fd])), (shs, .inl (N.2 1, 4, .inr (.inr (.inr (.inr shf))))), (q1, .inr (5, [.ref m1, .int (nI bt1), .int (nI ct1)])), (m1, .inl (N.2 0, 40, .inl nu1))] H := hP
  have hD : va_D Ag [(km, .inr (10, [.ref sa, .ref hs, .ref shs, .ref ja, .ref uu, .ref tb, .ref ob, .int fd])), (shs, .inl (N.2 1, 4, .inr (.inr (.inr (.inr shf))))), (q1, .inr (5, [.ref m1, .int (nI bt1), .int (nI ct1)])), (m1, .inl (N.2 0, 40, .inl nu1))] := hD
  refine ck_ifeq (b := decide (bt1 = 0)) (tgt := 52) hx hb dX10_copy_42 (by decide) (fun cz_14 => ?_) (fun cz_14 => ?_)
  · have hbzb := of_decide_eq_false cz_14
    refine lv_aload_n hx hb dX10_copy_52 rfl (lv_at hl 0 rfl) ?_
    refine va_get (ci := 10) (v := .ref shs) (C := RX10) (T := TX10) (N := 8) hx hb hg inX10 hown hE.1 hP 0 rfl rfl 2 (by decide) (hg _ k1_218) (fun _ h9 => h9) rfl dX10_copy_53 ?_
    refine lv_iload_n hx hb dX10_copy_56 rfl (lv_at hl 1 rfl) ?_
    refine ck_aalds hx hb hE hP 1 1 rfl rfl (by omega) (by decide) hq1 dX10_copy_57 ?_
    refine va_getN (ci := 5) (v := .int (nI bt1)) (C := RX5) (T := TX5) (N := 3) (host := "KiteMeet") hx hb hg inX5 hown hE.1 hP 2 rfl rfl 1 (by decide) (hE.nf 22 rfl _) (fun _ h9 => h9) rfl dX10_copy_58 ?_
    refine lv_aload_n hx hb dX10_copy_61 rfl (lv_at hl 0 rfl) ?_
    refine va_get (ci := 10) (v := .ref shs) (C := RX10) (T := TX10) (N := 8) hx hb hg inX10 hown hE.1 hP 0 rfl rfl 2 (by decide) (hg _ k1_218) (fun _ h9 => h9) rfl dX10_copy_62 ?_
    refine lv_iload_n hx hb dX10_copy_65 rfl (lv_at hl 3 rfl) ?_
    refine ck_aalds hx hb hE hP 1 1 rfl rfl (by omega) (by decide) hq1 dX10_copy_66 ?_
    refine va_getN (ci := 5) (v := .int (nI bt1)) (C := RX5) (T := TX5) (N := 3) (host := "KiteMeet") hx hb hg inX5 hown hE.1 hP 2 rfl rfl 1 (by decide) (hE.nf 22 rfl _) (fun _ h9 => h9) rfl dX10_copy_67 ?_
    refine ck_ic_eq (tgt := 80) hx hb dX10_copy_70 (by decide) (by omega) (by omega) (fun cz_15 => ?_) (fun cz_15 => ?_)
    · refine lv_aload_n hx hb dX10_copy_80 rfl (lv_at hl 0 rfl) ?_
      refine va_get (ci := 10) (v := .ref shs) (C := RX10) (T := TX10) (N := 8) hx hb hg inX10 hown hE.1 hP 0 rfl rfl 2 (by decide) (hg _ k1_218) (fun _ h9 => h9) rfl dX10_copy_81 ?_
      refine lv_iload_n hx hb dX10_copy_84 rfl (lv_at hl 1 rfl) ?_
      refine ck_aalds hx hb hE hP 1 1 rfl rfl (by omega) (by decide) hq1 dX10_copy_85 ?_
      refine lv_iload_n hx hb dX10_copy_86 rfl (lv_at hl 2 rfl) ?_
      refine lv_iload hx hb dX10_copy_87 (lv_at hl 5 rfl) ?_
      refine ck_Vi (As := [.int x, .int z]) (rest := []) (wr := [(km, .inr (10, [.ref sa, .ref hs, .ref shs, .ref ja, .ref uu, .ref tb, .ref ob, .int fd])), (shs, .inl (N.2 1, 4, .inr (.inr (.inr (.inr shf)))))]) C0 hP hD hS (c_X5_reaches l N q1 m1 nu1 bt1 ct1 x z (by omega)) myX5_reaches k3_210 ⟨Nat.le_of_ble_eq_true rfl, Nat.le_of_ble_eq_true rfl⟩ [2, 3] [0, 1] ⟨⟨rfl, rfl⟩, by decide, by decide, by decide⟩ 2 rfl rfl rfl rfl hl.1 rfl (Nat.le_of_ble_eq_true rfl) dX10_copy_89 ⟨Nat.le_of_ble_eq_true rfl, Nat.le_of_ble_eq_true rfl⟩ (fun r_16 u0 H locs hw0 hP hD hS => ?_)
      have hw_17 : r_16 = (b2i (decide (0 ≤ x.toInt ∧ 0 ≤ z.toInt ∧ x.toInt + z.toInt ≤ (ct1 : Int)))) := hw0
      subst hw_17
      have hP : va_P N.1 vwCl [(km, .inr (10, [.ref sa, .ref hs, .ref shs, .ref ja, .ref uu, .ref tb, .ref ob, .int fd])), (shs, .inl (N.2 1, 4, .inr (.inr (.inr (.inr shf))))), (q1, .inr (5, [.ref m1, .int (nI bt1), .int (nI ct1)])), (m1, .inl (N.2 0, 40, .inl nu1))] H := hP
      have hD : va_D Ag [(km, .inr (10, [.ref sa, .ref hs, .ref shs, .ref ja, .ref uu, .ref tb, .ref ob, .int fd])), (shs, .inl (N.2 1, 4, .inr (.inr (.inr (.inr shf))))), (q1, .inr (5, [.ref m1, .int (nI bt1), .int (nI ct1)])), (m1, .inl (N.2 0, 40, .inl nu1))] := hD
      refine ck_ifeq (b := decide (0 ≤ x.toInt ∧ 0 ≤ z.toInt ∧ x.toInt + z.toInt ≤ (ct1 : Int))) (tgt := 111) hx hb dX10_copy_92 (by decide) (fun cz_18 => ?_) (fun cz_18 => ?_)
      · have cz_cox : coO ct1 x z = false := cz_18
        refine lv_aload_n hx hb dX10_copy_111 rfl (lv_at hl 0 rfl) ?_
        refine lv_ldc (own := RX10) (v := (-100001)) hx hb hown (hg _ k2_14) dX10_copy_112 ?_
        refine ck_Vi (As := [.int (-100001)]) (rest := []) (wr := [(shs, .inl (N.2 1, 4, .inr (.inr (.inr (.inr shf))))), (q1, .inr (5, [.ref m1, .int (nI bt1), .int (nI ct1)])), (m1, .inl (N.2 0, 40, .inl nu1))]) C0 hP hD hS (c_X10_finding l N km sa hs shs ja uu tb ob fd (-100001) ) myX10_finding k2_15 ⟨Nat.le_of_ble_eq_true rfl, Nat.le_of_ble_eq_true rfl⟩ [0] [1, 2, 3] ⟨⟨rfl, rfl⟩, by decide, by decide, by decide⟩ 0 rfl rfl rfl rfl hl.1 rfl (Nat.le_of_ble_eq_true rfl) dX10_copy_114 ⟨Nat.le_of_ble_eq_true rfl, Nat.le_of_ble_eq_true rfl⟩ (fun r_19 u0 H locs hw0 hP hD hS => ?_)
        have hw_20 : r_19 = (-100001) := hw0
        subst hw_20
        have hP : va_P N.1 vwCl [(shs, .inl (N.2 1, 4, .inr (.inr (.inr (.inr shf))))), (q1, .inr (5, [.ref m1, .int (nI bt1), .int (nI ct1)])), (m1, .inl (N.2 0, 40, .inl nu1)), (km, .inr (10, [.ref sa, .ref hs, .ref shs, .ref ja, .ref uu, .ref tb, .ref ob, .int (fd + nI 1)]))] H := hP
        have hD : va_D Ag [(shs, .inl (N.2 1, 4, .inr (.inr (.inr (.inr shf))))), (q1, .inr (5, [.ref m1, .int (nI bt1), .int (nI ct1)])), (m1, .inl (N.2 0, 40, .inl nu1)), (km, .inr (10, [.ref sa, .ref hs, .ref shs, .ref ja, .ref uu, .ref tb, .ref ob, .int (fd + nI 1)]))] := hD
        exact ck_iret hx hb hrt hlk ⟨(fd + nI 1), nu1⟩ (by have he : coF bt1 bt1 ct1 ct1 x y z = (-100001) := (by simp [coF, hbza, hbzb, cz_cox]); exact ⟨ckRd_f he (by decide), Or.inr ⟨fun q => absurd (he.symm.trans q) (by decide), rfl⟩⟩) (hP.sub [3, 0, 1, 2] rfl) (hD.sub [3, 0, 1, 2] (by decide) rfl) hS ⟨Nat.le_of_ble_eq_true rfl, Nat.le_of_ble_eq_true rfl⟩ dX10_copy_117
      have cz_cox : coO ct1 x z = true := cz_18
      refine lv_aload_n hx hb dX10_copy_95 rfl (lv_at hl 0 rfl) ?_
      refine va_get (ci := 10) (v := .ref shs) (C := RX10) (T := TX10) (N := 8) hx hb hg inX10 hown hE.1 hP 0 rfl rfl 2 (by decide) (hg _ k1_218) (fun _ h9 => h9) rfl dX10_copy_96 ?_
      refine lv_iload_n hx hb dX10_copy_99 rfl (lv_at hl 3 rfl) ?_
      refine ck_aalds hx hb hE hP 1 1 rfl rfl (by omega) (by decide) hq1 dX10_copy_100 ?_
      refine lv_iload hx hb dX10_copy_101 (lv_at hl 4 rfl) ?_
      refine lv_iload hx hb dX10_copy_103 (lv_at hl 5 rfl) ?_
      refine ck_Vi (As := [.int y, .int z]) (rest := []) (wr := [(km, .inr (10, [.ref sa, .ref hs, .ref shs, .ref ja, .ref uu, .ref tb, .ref ob, .int fd])), (shs, .inl (N.2 1, 4, .inr (.inr (.inr (.inr shf)))))]) C0 hP hD hS (c_X5_reaches l N q1 m1 nu1 bt1 ct1 y z (by omega)) myX5_reaches k3_210 ⟨Nat.le_of_ble_eq_true rfl, Nat.le_of_ble_eq_true rfl⟩ [2, 3] [0, 1] ⟨⟨rfl, rfl⟩, by decide, by decide, by decide⟩ 2 rfl rfl rfl rfl hl.1 rfl (Nat.le_of_ble_eq_true rfl) dX10_copy_105 ⟨Nat.le_of_ble_eq_true rfl, Nat.le_of_ble_eq_true rfl⟩ (fun r_21 u0 H locs hw0 hP hD hS => ?_)
      have hw_22 : r_21 = (b2i (decide (0 ≤ y.toInt ∧ 0 ≤ z.toInt ∧ y.toInt + z.toInt ≤ (ct1 : Int)))) := hw0
      subst hw_22
      have hP : va_P N.1 vwCl [(km, .inr (10, [.ref sa, .ref hs, .ref shs, .ref ja, .ref uu, .ref tb, .ref ob, .int fd])), (shs, .inl (N.2 1, 4, .inr (.inr (.inr (.inr shf))))), (q1, .inr (5, [.ref m1, .int (nI bt1), .int (nI ct1)])), (m1, .inl (N.2 0, 40, .inl nu1))] H := hP
      have hD : va_D Ag [(km, .inr (10, [.ref sa, .ref hs, .ref shs, .ref ja, .ref uu, .ref tb, .ref ob, .int fd])), (shs, .inl (N.2 1, 4, .inr (.inr (.inr (.inr shf))))), (q1, .inr (5, [.ref m1, .int (nI bt1), .int (nI ct1)])), (m1, .inl (N.2 0, 40, .inl nu1))] := hD
      refine ck_ifne (b := decide (0 ≤ y.toInt ∧ 0 ≤ z.toInt ∧ y.toInt + z.toInt ≤ (ct1 : Int))) (tgt := 118) hx hb dX10_copy_108 (by decide) (fun cz_23 => ?_) (fun cz_23 => ?_)
      · have cz_coy : coO ct1 y z = true := cz_23
        have ho1 : coO ct1 x z = true := cz_cox
        have ho2 : coO ct1 y z = true := cz_coy
        obtain ⟨i, k, rfl, rfl, hik⟩ := coO_t ho1 (by omega)
        obtain ⟨j, k2, rfl, hkk, hjk⟩ := coO_t ho2 (by omega)
        have exk0 : k < 2 ^ 31 := by omega
        have hk22 : k2 = k := ((nI_eq (by omega) exk0).mp hkk.symm)
        subst hk22
        have exi := ix_nI (j := i) (by omega)
        have exj := ix_nI (j := j) (by omega)
        have exk := ix_nI (j := k2) (by omega)
        refine lv_aload_n hx hb dX10_copy_118 rfl (lv_at hl 0 rfl) ?_
        refine va_get (ci := 10) (v := .ref shs) (C := RX10) (T := TX10) (N := 8) hx hb hg inX10 hown hE.1 hP 0 rfl rfl 2 (by decide) (hg _ k1_218) (fun _ h9 => h9) rfl dX10_copy_119 ?_
        refine lv_iload_n hx hb dX10_copy_122 rfl (lv_at hl 1 rfl) ?_
        refine ck_aalds hx hb hE hP 1 1 rfl rfl (by omega) (by decide) hq1 dX10_copy_123 ?_
        refine va_getN (ci := 5) (v := .ref m1) (C := RX5) (T := TX5) (N := 3) (host := "KiteMeet") hx hb hg inX5 hown hE.1 hP 2 rfl rfl 0 (by decide) (hE.nf 21 rfl _) (fun _ h9 => h9) rfl dX10_copy_124 ?_
        refine lv_iload_n hx hb dX10_copy_127 rfl (lv_at hl 2 rfl) ?_
        refine lv_aload_n hx hb dX10_copy_128 rfl (lv_at hl 0 rfl) ?_
        refine va_get (ci := 10) (v := .ref shs) (C := RX10) (T := TX10) (N := 8) hx hb hg inX10 hown hE.1 hP 0 rfl rfl 2 (by decide) (hg _ k1_218) (fun _ h9 => h9) rfl dX10_copy_129 ?_
        refine lv_iload_n hx hb dX10_copy_132 rfl (lv_at hl 3 rfl) ?_
        refine ck_aalds hx hb hE hP 1 1 rfl rfl (by omega) (by decide) hq1 dX10_copy_133 ?_
        refine va_getN (ci := 5) (v := .ref m1) (C := RX5) (T := TX5) (N := 3) (host := "KiteMeet") hx hb hg inX5 hown hE.1 hP 2 rfl rfl 0 (by decide) (hE.nf 21 rfl _) (fun _ h9 => h9) rfl dX10_copy_134 ?_
        refine lv_iload hx hb dX10_copy_137 (lv_at hl 4 rfl) ?_
        refine lv_iload hx hb dX10_copy_139 (lv_at hl 5 rfl) ?_
        refine ck_copy hx hb (by rw [hml]; exact hl.1.symm) hown (hg _ k3_214) (hg _ k2_52) (hg _ k2_51) (hg _ k1_13) hE hP hD hS 3 3 rfl rfl (by omega) (by omega) ⟨by omega, by omega, by omega⟩ (Nat.le_of_ble_eq_true rfl) (Nat.le_of_ble_eq_true rfl) dX10_copy_141 (ws1 := [(km, .inr (10, [.ref sa, .ref hs, .ref shs, .ref ja, .ref uu, .ref tb, .ref ob, .int fd])), (shs, .inl (N.2 1, 4, .inr (.inr (.inr (.inr shf))))), (q1, .inr (5, [.ref m1, .int (nI bt1), .int (nI ct1)])), (m1, .inl (N.2 0, 40, .inl (va_cpy nu1 nu1 i j k2)))]) rfl (fun H locs hP hD hS => ?_)
        refine lv_iload hx hb dX10_copy_144 (lv_at hl 5 rfl) ?_
        exact ck_iret hx hb hrt hlk ⟨fd, va_cpy nu1 nu1 i j k2⟩ (by have he : coF bt1 bt1 ct1 ct1 (nI i) (nI j) (nI k2) = 0 := (by simp [coF, hbza, hbzb, ho1, ho2]); exact ⟨ckRd_ok he rfl, Or.inl ⟨he, (by rw [exi, exj, exk])⟩⟩) hP hD hS ⟨Nat.le_of_ble_eq_true rfl, Nat.le_of_ble_eq_true rfl⟩ dX10_copy_146
      have cz_coy : coO ct1 y z = false := cz_23
      refine lv_aload_n hx hb dX10_copy_111 rfl (lv_at hl 0 rfl) ?_
      refine lv_ldc (own := RX10) (v := (-100001)) hx hb hown (hg _ k2_14) dX10_copy_112 ?_
      refine ck_Vi (As := [.int (-100001)]) (rest := []) (wr := [(shs, .inl (N.2 1, 4, .inr (.inr (.inr (.inr shf))))), (q1, .inr (5, [.ref m1, .int (nI bt1), .int (nI ct1)])), (m1, .inl (N.2 0, 40, .inl nu1))]) C0 hP hD hS (c_X10_finding l N km sa hs shs ja uu tb ob fd (-100001) ) myX10_finding k2_15 ⟨Nat.le_of_ble_eq_true rfl, Nat.le_of_ble_eq_true rfl⟩ [0] [1, 2, 3] ⟨⟨rfl, rfl⟩, by decide, by decide, by decide⟩ 0 rfl rfl rfl rfl hl.1 rfl (Nat.le_of_ble_eq_true rfl) dX10_copy_114 ⟨Nat.le_of_ble_eq_true rfl, Nat.le_of_ble_eq_true rfl⟩ (fun r_24 u0 H locs hw0 hP hD hS => ?_)
      have hw_25 : r_24 = (-100001) := hw0
      subst hw_25
      have hP : va_P N.1 vwCl [(shs, .inl (N.2 1, 4, .inr (.inr (.inr (.inr shf))))), (q1, .inr (5, [.ref m1, .int (nI bt1), .int (nI ct1)])), (m1, .inl (N.2 0, 40, .inl nu1)), (km, .inr (10, [.ref sa, .ref hs, .ref shs, .ref ja, .ref uu, .ref tb, .ref ob, .int (fd + nI 1)]))] H := hP
      have hD : va_D Ag [(shs, .inl (N.2 1, 4, .inr (.inr (.inr (.inr shf))))), (q1, .inr (5, [.ref m1, .int (nI bt1), .int (nI ct1)])), (m1, .inl (N.2 0, 40, .inl nu1)), (km, .inr (10, [.ref sa, .ref hs, .ref shs, .ref ja, .ref uu, .ref tb, .ref ob, .int (fd + nI 1)]))] := hD
      exact ck_iret hx hb hrt hlk ⟨(fd + nI 1), nu1⟩ (by have he : coF bt1 bt1 ct1 ct1 x y z = (-100001) := (by simp [coF, hbza, hbzb, cz_cox, cz_coy]); exact ⟨ckRd_f he (by decide), Or.inr ⟨fun q => absurd (he.symm.trans q) (by decide), rfl⟩⟩) (hP.sub [3, 0, 1, 2] rfl) (hD.sub [3, 0, 1, 2] (by decide) rfl) hS ⟨Nat.le_of_ble_eq_true rfl, Nat.le_of_ble_eq_true rfl⟩ dX10_copy_117
    exact absurd rfl cz_15
  exact absurd (of_decide_eq_true cz_14) hbza
set_option maxHeartbeats 4000000 in
set_option maxRecDepth 100000 in
/-- X10_copy -/
theorem c_X10_copy_f (l : Launch) (N : ckN) (km : Nat) (sa : Nat) (hs : Nat) (shs : Nat) (ja : Nat) (uu : Nat) (tb : Nat) (ob : Nat) (fd : Int32) (x : Int32) (y : Int32) (z : Int32) (x1 : Int32) (y1 : Int32) (hbad : (ckIn x1 (nI 0) (nI 3) && ckIn y1 (nI 0) (nI 3)) = false) : ckI l yX10_copy cX10_copy 6 (some FieldType.int) { frames := 3, cells := 0, slots := 0, locals := 81 } N [.ref km, .int x1, .int x, .int y1, .int y, .int z] [(km, .inr (10, [.ref sa, .ref hs, .ref shs, .ref ja, .ref uu, .ref tb, .ref ob, .int fd]))] (fun (r : Int32) (u : Int32) => ckRd (-100001) (0) fd r u) (fun (u : Int32) => [(km, .inr (10, [.ref sa, .ref hs, .ref shs, .ref ja, .ref uu, .ref tb, .ref ob, .int u]))]) := by
  refine ckI.of (by decide) (Nat.le_of_ble_eq_true rfl) ?_
  intro pg eg sg mg blw mth cg Ag ls hx hb hrt hml hown hlk hin hg hE hA hP hD hS hl
  have hown : sg.vm.findClass RX10 = some mg.cls := hown
  have hl : lv_has ls 6 [(0, .ref km), (1, .int x1), (2, .int x), (3, .int y1), (4, .int y), (5, .int z)] := hl
  have C0 : ckC pg sg mg ([.ref km, .int x1, .int x, .int y1, .int y, .int z]).toArray cg cX10_copy 6 RX10 N Ag := ⟨⟨hx, hb, hml, hown, hg⟩, hE, hA⟩
  generalize hHe : sg.heap = H at hP
  have hS : va_S Ag sg.heap H [] := hHe ▸ hS
  refine lv_iload_n hx hb dX10_copy_0 rfl (lv_at hl 1 rfl) ?_
  refine ck_Si (As := [.int x1]) (rest := []) (wr := [(km, .inr (10, [.ref sa, .ref hs, .ref shs, .ref ja, .ref uu, .ref tb, .ref ob, .int fd]))]) C0 hP hD hS (c_X10_isSheet l N x1 ) myX10_isSheet k3_149 ⟨Nat.le_of_ble_eq_true rfl, Nat.le_of_ble_eq_true rfl⟩ [] [0] ⟨⟨rfl, rfl⟩, by decide, by decide, by decide⟩ rfl hl.1 rfl (Nat.le_of_ble_eq_true rfl) dX10_copy_1 ⟨Nat.le_of_ble_eq_true rfl, Nat.le_of_ble_eq_true rfl⟩ (fun r_1 u0 H locs hw0 hP hD hS => ?_)
  have hw_2 : r_1 = (b2i (ckIn x1 (nI 0) (nI 3))) := hw0
  subst hw_2
  have hP : va_P N.1 vwCl [(km, .inr (10, [.ref sa, .ref hs, .ref shs, .ref ja, .ref uu, .ref tb, .ref ob, .int fd]))] H := hP
  have hD : va_D Ag [(km, .inr (10, [.ref sa, .ref hs, .ref shs, .ref ja, .ref uu, .ref tb, .ref ob, .int fd]))] := hD
  refine ck_ifeq (b := ckIn x1 (nI 0) (nI 3)) (tgt := 14) hx hb dX10_copy_4 (by decide) (fun cz_3 => ?_) (fun cz_3 => ?_)
  · refine lv_aload_n hx hb dX10_copy_14 rfl (lv_at hl 0 rfl) ?_
    refine lv_ldc (own := RX10) (v := (-100001)) hx hb hown (hg _ k2_14) dX10_copy_15 ?_
    refine ck_Vi (As := [.int (-100001)]) (rest := []) (wr := []) C0 hP hD hS (c_X10_finding l N km sa hs shs ja uu tb ob fd (-100001) ) myX10_finding k2_15 ⟨Nat.le_of_ble_eq_true rfl, Nat.le_of_ble_eq_true rfl⟩ [0] [] ⟨⟨rfl, rfl⟩, by decide, by decide, by decide⟩ 0 rfl rfl rfl rfl hl.1 rfl (Nat.le_of_ble_eq_true rfl) dX10_copy_17 ⟨Nat.le_of_ble_eq_true rfl, Nat.le_of_ble_eq_true rfl⟩ (fun r_4 u0 H locs hw0 hP hD hS => ?_)
    have hw_5 : r_4 = (-100001) := hw0
    subst hw_5
    have hP : va_P N.1 vwCl [(km, .inr (10, [.ref sa, .ref hs, .ref shs, .ref ja, .ref uu, .ref tb, .ref ob, .int (fd + nI 1)]))] H := hP
    have hD : va_D Ag [(km, .inr (10, [.ref sa, .ref hs, .ref shs, .ref ja, .ref uu, .ref tb, .ref ob, .int (fd + nI 1)]))] := hD
    exact ck_iret hx hb hrt hlk ((fd + nI 1)) (ckRd_f rfl (by decide)) hP hD hS ⟨Nat.le_of_ble_eq_true rfl, Nat.le_of_ble_eq_true rfl⟩ dX10_copy_20
  refine lv_iload_n hx hb dX10_copy_7 rfl (lv_at hl 3 rfl) ?_
  refine ck_Si (As := [.int y1]) (rest := []) (wr := [(km, .inr (10, [.ref sa, .ref hs, .ref shs, .ref ja, .ref uu, .ref tb, .ref ob, .int fd]))]) C0 hP hD hS (c_X10_isSheet l N y1 ) myX10_isSheet k3_149 ⟨Nat.le_of_ble_eq_true rfl, Nat.le_of_ble_eq_true rfl⟩ [] [0] ⟨⟨rfl, rfl⟩, by decide, by decide, by decide⟩ rfl hl.1 rfl (Nat.le_of_ble_eq_true rfl) dX10_copy_8 ⟨Nat.le_of_ble_eq_true rfl, Nat.le_of_ble_eq_true rfl⟩ (fun r_6 u0 H locs hw0 hP hD hS => ?_)
  have hw_7 : r_6 = (b2i (ckIn y1 (nI 0) (nI 3))) := hw0
  subst hw_7
  have hP : va_P N.1 vwCl [(km, .inr (10, [.ref sa, .ref hs, .ref shs, .ref ja, .ref uu, .ref tb, .ref ob, .int fd]))] H := hP
  have hD : va_D Ag [(km, .inr (10, [.ref sa, .ref hs, .ref shs, .ref ja, .ref uu, .ref tb, .ref ob, .int fd]))] := hD
  refine ck_ifne (b := ckIn y1 (nI 0) (nI 3)) (tgt := 21) hx hb dX10_copy_11 (by decide) (fun cz_8 => absurd cz_8 (by intro q; rw [cz_3, q] at hbad; cases hbad)) (fun cz_8 => ?_)
  refine lv_aload_n hx hb dX10_copy_14 rfl (lv_at hl 0 rfl) ?_
  refine lv_ldc (own := RX10) (v := (-100001)) hx hb hown (hg _ k2_14) dX10_copy_15 ?_
  refine ck_Vi (As := [.int (-100001)]) (rest := []) (wr := []) C0 hP hD hS (c_X10_finding l N km sa hs shs ja uu tb ob fd (-100001) ) myX10_finding k2_15 ⟨Nat.le_of_ble_eq_true rfl, Nat.le_of_ble_eq_true rfl⟩ [0] [] ⟨⟨rfl, rfl⟩, by decide, by decide, by decide⟩ 0 rfl rfl rfl rfl hl.1 rfl (Nat.le_of_ble_eq_true rfl) dX10_copy_17 ⟨Nat.le_of_ble_eq_true rfl, Nat.le_of_ble_eq_true rfl⟩ (fun r_9 u0 H locs hw0 hP hD hS => ?_)
  have hw_10 : r_9 = (-100001) := hw0
  subst hw_10
  have hP : va_P N.1 vwCl [(km, .inr (10, [.ref sa, .ref hs, .ref shs, .ref ja, .ref uu, .ref tb, .ref ob, .int (fd + nI 1)]))] H := hP
  have hD : va_D Ag [(km, .inr (10, [.ref sa, .ref hs, .ref shs, .ref ja, .ref uu, .ref tb, .ref ob, .int (fd + nI 1)]))] := hD
  exact ck_iret hx hb hrt hlk ((fd + nI 1)) (ckRd_f rfl (by decide)) hP hD hS ⟨Nat.le_of_ble_eq_true rfl, Nat.le_of_ble_eq_true rfl⟩ dX10_copy_20
