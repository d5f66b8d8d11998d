/-! rows of the law's own walk -/
section LWR
variable {p : Program} {l : Launch} {e : Env} {s : State} {m : MethodId} {args : Array Value} {below : List Frame} {meth : Method} {c0 : Code} {H : Heap} {locs : List Loc} {cells slots : Nat} {Q : State → Prop} {R : Room}
variable {b L i pc a1 a2 : Nat} {xs : Nat → Int32} {A : Nat → Prop} {ls : Array Slot} {rest : List Value}
theorem lw_rd (j : Nat) {v : Int} (hx : p.tables.exec = Jvm.exec) (hb : c0.code = code) (hX : va_X b L xs s s.heap) (hbl : b < s.heap.size) (hbA : ¬ A b) (hS : va_S A s.heap H locs) (hl : lv_has ls 4 [(0, .ref b), (1, .ref a1), (2, .ref a2), (3, .int (nI i))]) (hi : i + 7 ≤ L) (hL4 : L ≤ 448) (hj : j < 7) (hv : Int32.ofInt v = nI j) (d1 : decode code pc = .ok (.aload_n 0, 1)) (d2 : decode code (pc + 1) = .ok (.iload_n 3, 1)) (d3 : decode code (pc + 2) = .ok (.iconst v, 1)) (d4 : decode code (pc + 3) = .ok (.iadd, 1)) (d5 : decode code (pc + 4) = .ok (.iaload, 1))
    (kk : W p l e R s m args below meth c0 H locs cells slots Q (F0 m (pc + 5) ls (.int (xs (i + j)) :: rest))) : W p l e R s m args below meth c0 H locs cells slots Q (F0 m pc ls rest) := by
  refine lv_aload_n hx hb d1 rfl (lv_at hl 0 rfl) ?_
  refine lv_iload_n hx hb d2 rfl (lv_at hl 3 rfl) ?_
  refine lv_iconst (v := nI j) hx hb d3 hv ?_
  refine lv_iadd hx hb d4 ?_
  rw [nI_add]
  refine va_sld hx hb hX hbl hbA hS (vp_in_nI (by omega) (by omega)) d5 ?_
  rw [nI_clamp (by omega)]
  exact kk
theorem lw_rd6 (j : Nat) {v : Int} (hx : p.tables.exec = Jvm.exec) (hb : c0.code = code) (hX : va_X b L xs s s.heap) (hbl : b < s.heap.size) (hbA : ¬ A b) (hS : va_S A s.heap H locs) (hl : lv_has ls 4 [(0, .ref b), (1, .ref a1), (2, .ref a2), (3, .int (nI i))]) (hi : i + 7 ≤ L) (hL4 : L ≤ 448) (hj : j < 7) (hv : (Int8.ofInt v).toInt32 = nI j) (d1 : decode code pc = .ok (.aload_n 0, 1)) (d2 : decode code (pc + 1) = .ok (.iload_n 3, 1)) (d3 : decode code (pc + 2) = .ok (.bipush v, 2)) (d4 : decode code (pc + 4) = .ok (.iadd, 1)) (d5 : decode code (pc + 5) = .ok (.iaload, 1))
    (kk : W p l e R s m args below meth c0 H locs cells slots Q (F0 m (pc + 6) ls (.int (xs (i + j)) :: rest))) : W p l e R s m args below meth c0 H locs cells slots Q (F0 m pc ls rest) := by
  refine lv_aload_n hx hb d1 rfl (lv_at hl 0 rfl) ?_
  refine lv_iload_n hx hb d2 rfl (lv_at hl 3 rfl) ?_
  refine lv_bipush (v := nI j) hx hb d3 hv ?_
  refine lv_iadd hx hb d4 ?_
  rw [nI_add]
  refine va_sld hx hb hX hbl hbA hS (vp_in_nI (by omega) (by omega)) d5 ?_
  rw [nI_clamp (by omega)]
  exact kk

theorem lw_nz {x : Int32} (hx : p.tables.exec = Jvm.exec) (hb : c0.code = code) (d1 : decode code pc = .ok (.ifCond .eq 7, 3)) (d2 : decode code (pc + 3) = .ok (.iconst 1, 1)) (d3 : decode code (pc + 4) = .ok (.goto 4, 3)) (d4 : decode code (pc + 7) = .ok (.iconst 0, 1))
    (kk : W p l e R s m args below meth c0 H locs cells slots Q (F0 m (pc + 8) ls (.int (b2i (decide (x ≠ 0))) :: rest))) : W p l e R s m args below meth c0 H locs cells slots Q (F0 m pc ls (.int x :: rest)) := by
  refine lv_if_eq (tgt := pc + 7) hx hb d1 (by omega) (fun h => ?_) (fun h => ?_)
  · refine lv_iconst (v := 0) hx hb d4 (by decide) ?_
    rw [decide_eq_false (fun q => q h)] at kk
    exact kk
  · refine lv_iconst (v := 1) hx hb d2 (by decide) ?_
    refine lv_goto (tgt := pc + 8) hx hb d3 (by omega) ?_
    rw [decide_eq_true h] at kk
    exact kk
end LWR
/-- what the law's walk takes with it -/
def LC (p : Program) (s : State) (m : MethodId) (c0 : Code) (cells slots : Nat) (N : ckN) (A : Nat → Prop) (b L i : Nat) (xs : Nat → Int32) (ls : Array Slot) (ad am : Nat → Nat) : Prop :=
  p.tables.exec = Jvm.exec ∧ c0.code = code ∧ ckC p s m #[Value.ref b] c0 code 4 "KiteMeetLaw" N A ∧ va_X b L xs s s.heap ∧ b < s.heap.size ∧ ¬ A b ∧ i + 7 ≤ L ∧ L ≤ 448 ∧ lv_has ls 4 [(0, .ref b), (1, .ref (ad 0)), (2, .ref (am 0)), (3, .int (nI i))] ∧ cells + 16 ≤ 600000 ∧ slots + 596 ≤ 7302250
/-- where it goes on behind a call -/
def LK (p : Program) (l : Launch) (e : Env) (s : State) (m : MethodId) (below : List Frame) (meth : Method) (c0 : Code) (cells slots : Nat) (Q : State → Prop) (N : ckN) (A : Nat → Prop) (b : Nat) (ls : Array Slot) (ad am : Nat → Nat) (shp : Nat → Option Nat) : Prop :=
  ∀ (c ch cs : Nat → Nat → Int32) (nn bt ct ns : Nat → Nat) (ii : Nat → Int32) (stf : Nat → Option Nat) (sl : Nat → va_W) (w : Nat → List Nat) (cm : Nat → Nat → Int32) (mn : Nat) (H : Heap) (locs : List Loc), Jv N ad shp c ch nn bt ct ii stf sl w cm → va_P N.1 vwCl (CW N ad shp c ch cs nn bt ct ns ii stf sl ++ MW N am cm (nn 2) (nn 3) (ii 1) mn) H → va_D A (CW N ad shp c ch cs nn bt ct ns ii stf sl ++ MW N am cm (nn 2) (nn 3) (ii 1) mn) → va_S A s.heap H locs → W p l e room_1 s m #[Value.ref b] below meth c0 H locs (cells + 16) (slots + 596) Q (F0 m 1238 ls [])
theorem rw_ix {x : Int32} (h : rwF x = 0) : 2 ≤ ix x ∧ ix x ≤ 5 := by
  obtain ⟨j, h1, h2, h3⟩ := (ckIn_n (by decide) (by decide)).mp (ifF (by decide) h).1
  rw [h3, ix_nI (by omega)]
  exact ⟨h1, h2⟩
/-- a sheet is made anew -/
theorem JH_up {ad : Nat → Nat} {shp : Nat → Option Nat} {ch : Nat → Nat → Int32} {bt ct : Nat → Nat} {sb sz st sb4 sz4 st4 : Nat → Int32} {s1 bt4 ct4 : Nat} {nu4 : Nat → Int32} (h : JH ad shp ch bt ct sb sz st) (hs1 : s1 < 4) (hc : ct4 ≤ 40) (hb : bt4 = 0 ∨ bt4 = 8 ∨ bt4 = 16 ∨ bt4 = 32) (h1 : sb4 = upd sb s1 (nI bt4)) (h2 : sz4 = upd sz s1 (nI ct4)) (h3 : ∀ k, k < ct4 → st4 (40 * s1 + k) = nu4 k) (h4 : ∀ j, ¬ (40 * s1 ≤ j ∧ j < 40 * s1 + 40) → st4 j = st j) : JH ad shp (up1 ch s1 nu4) (up1 bt s1 bt4) (up1 ct s1 ct4) sb4 sz4 st4 := by
  intro s hs
  obtain ⟨a1, a2, a3, a4, a5, a6⟩ := h s hs
  by_cases e : s = s1
  · subst e
    rw [up1_at, up1_at, up1_at, h1, h2, pk_us, pk_us]
    exact ⟨a1, hc, hb, rfl, rfl, h3⟩
  · rw [up1_ne e, up1_ne e, up1_ne e, h1, h2, pk_un e, pk_un e]
    exact ⟨a1, a2, a3, a4, a5, fun k hk => by rw [h4 _ (by omega)]; exact a6 k hk⟩
/-- numbers of a sheet change -/
theorem JH_nu {ad : Nat → Nat} {shp : Nat → Option Nat} {ch : Nat → Nat → Int32} {bt ct : Nat → Nat} {sb sz st st4 : Nat → Int32} {s1 : Nat} {nu4 : Nat → Int32} (h : JH ad shp ch bt ct sb sz st) (hs1 : s1 < 4) (h3 : ∀ k, k < ct s1 → st4 (40 * s1 + k) = nu4 k) (h4 : ∀ j, ¬ (40 * s1 ≤ j ∧ j < 40 * s1 + 40) → st4 j = st j) : JH ad shp (up1 ch s1 nu4) bt ct sb sz st4 := by
  intro s hs
  obtain ⟨a1, a2, a3, a4, a5, a6⟩ := h s hs
  by_cases e : s = s1
  · subst e
    rw [up1_at]
    exact ⟨a1, a2, a3, a4, a5, h3⟩
  · rw [up1_ne e]
    exact ⟨a1, a2, a3, a4, a5, fun k hk => by rw [h4 _ (by omega)]; exact a6 k hk⟩
theorem JH_put {ad : Nat → Nat} {shp : Nat → Option Nat} {ch : Nat → Nat → Int32} {bt ct : Nat → Nat} {sb sz st : Nat → Int32} {s1 : Nat} {y z : Int32} (h : JH ad shp ch bt ct sb sz st) (hs1 : s1 < 4) (hF : puF (bt s1) (ct s1) y = 0) : JH ad shp (up1 ch s1 (upd (ch s1) (ix y) (ckWr (bt s1) z))) bt ct sb sz (upd st (40 * s1 + ix y) (pvW (bt s1) z)) := by
  obtain ⟨a1, a2, a3, a4, a5, a6⟩ := h s1 hs1
  have hb0 : ¬ bt s1 = 0 := fun q => by rw [puF, if_pos q] at hF; exact absurd hF (by decide)
  rw [puF, if_neg hb0] at hF
  obtain ⟨j, hj, e⟩ := (ckLt_t (by omega)).mp (ifF (by decide) hF).1
  have ej : ix y = j := by rw [e, ix_nI (by omega)]
  refine JH_nu h hs1 (fun k hk => ?_) (fun q hq => pk_un (by omega))
  by_cases hk2 : k = ix y
  · rw [hk2, pk_us, pk_us, ckWr_pv z (by omega)]
  · rw [pk_un hk2, pk_un (by omega)]
    exact a6 k hk
theorem sh_b {y : Int32} (h : y = 0 ∨ y = nI 8 ∨ y = nI 16 ∨ y = nI 32) : (ix y = 0 ∨ ix y = 8 ∨ ix y = 16 ∨ ix y = 32) := by
  rcases h with h | h | h | h
  · left; rw [h]; rfl
  · right; left; rw [h]; exact ix_nI (by decide)
  · right; right; left; rw [h]; exact ix_nI (by decide)
  · right; right; right; rw [h]; exact ix_nI (by decide)
