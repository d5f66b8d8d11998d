/-! how rows of letters are held -/
def Rp (g : Nat → Int32) (b : Nat) (w : List Nat) : Prop := ∀ k, k < w.length → g (b + k) = nI (w.getD k 0)
def JR (jl : Nat → Int32) (r : List Nat) : Prop := ∀ k, k < r.length → jl k = nI (r.getD (r.length - 1 - k) 0)
def ckWd (lf gf : Nat → Int32) (n : Nat) (w : Nat → List Nat) : Prop := ∀ p, p < n → lf p = nI (w p).length ∧ (w p).length ≤ 60 ∧ L20 (w p) ∧ Rp gf (p * 60) (w p)
theorem L20_getD {r : List Nat} (h : L20 r) {k : Nat} (hk : k < r.length) : r.getD k 0 < 20 := by
  rw [List.getD_eq_getElem?_getD, List.getElem?_eq_getElem hk]
  exact h _ (List.getElem_mem hk)
theorem JR_nil {jl : Nat → Int32} : JR jl [] := fun k hk => absurd hk (Nat.not_lt_zero k)
theorem JR_top {jl : Nat → Int32} {r : List Nat} (h : JR jl r) (hl : 0 < r.length) : jl (r.length - 1) = nI (r.getD 0 0) := by
  rw [h (r.length - 1) (by omega), Nat.sub_self]
theorem JR_tail {jl : Nat → Int32} {r : List Nat} (h : JR jl r) : JR jl r.tail := by
  cases r with
  | nil => exact h
  | cons x xs =>
    intro k hk
    have hk : k < xs.length := hk
    have := h k (by rw [List.length_cons]; omega)
    rw [this, List.length_cons, show xs.length + 1 - 1 - k = (xs.length - 1 - k) + 1 by omega, List.getD_cons_succ]
    rfl
theorem JR_cons {jl : Nat → Int32} {r : List Nat} (h : JR jl r) (t : Nat) : JR (upd jl r.length (nI t)) (t :: r) := by
  intro k hk
  rw [List.length_cons] at hk ⊢
  by_cases hkr : k = r.length
  · subst hkr
    rw [upd, if_pos rfl, show r.length + 1 - 1 - r.length = 0 by omega, List.getD_cons_zero]
  · rw [upd, if_neg hkr, h k (by omega), show r.length + 1 - 1 - k = (r.length - 1 - k) + 1 by omega, List.getD_cons_succ]
theorem JR_rev {jl : Nat → Int32} {r : List Nat} (h : JR jl r) : Rp jl 0 r.reverse := by
  intro k hk
  rw [List.length_reverse] at hk
  rw [Nat.zero_add, h k hk, List.getD_eq_getElem?_getD, List.getD_eq_getElem?_getD, List.getElem?_reverse hk]
theorem push_pop {t : Nat} {r : List Nat} (hl : 0 < r.length) (e : r.getD 0 0 = ckT t) : push t r = r.tail ∧ (push t r).length = r.length - 1 := by
  cases r with
  | nil => exact absurd hl (Nat.lt_irrefl 0)
  | cons x xs =>
    have e : x = ckT t := e
    rw [push, if_pos e]
    exact ⟨rfl, by simp⟩
theorem push_put {t : Nat} {r : List Nat} (h : r.length = 0 ∨ r.getD 0 0 ≠ ckT t) : push t r = t :: r := by
  cases r with
  | nil => rfl
  | cons x xs =>
    rcases h with h | h
    · cases h
    · exact if_neg h
theorem take_next {w : List Nat} {k : Nat} (hk : k < w.length) : w.take (k + 1) = w.take k ++ [w.getD k 0] := by
  rw [List.take_succ, List.getD_eq_getElem?_getD, List.getElem?_eq_getElem hk]
  rfl
theorem mul_next {r w : List Nat} {k : Nat} (hk : k < w.length) : mul r (w.take (k + 1)) = push (w.getD k 0) (mul r (w.take k)) := by rw [take_next hk, mul_snoc]
theorem turnW_getD {w : List Nat} {k : Nat} (hk : k < w.length) : (turnW w).getD k 0 = ckT (w.getD (w.length - 1 - k) 0) := by
  have h2 : w.length - 1 - k < w.length := by omega
  rw [turnW, List.getD_eq_getElem?_getD, List.getElem?_reverse (by rw [List.length_map]; exact hk), List.length_map, List.getElem?_map, List.getElem?_eq_getElem h2, List.getD_eq_getElem?_getD, List.getElem?_eq_getElem h2]
  rfl
theorem L20_take {w : List Nat} (h : L20 w) (k : Nat) : L20 (w.take k) := fun x hx => h x (List.mem_of_mem_take hx)
theorem take_len (w : List Nat) (k : Nat) : (w.take k).length ≤ k := by rw [List.length_take]; omega
theorem ck_neg {c : Nat} (h : c < 2 ^ 31) : nI c - nI 1 < 0 ↔ c = 0 := by
  have e0 : (0 : Int32).toInt = 0 := (by decide)
  have e1 : (nI 1).toInt = 1 := (by decide)
  have ec := nI_toInt h
  rw [i_lt, fb_subI (by omega) (by omega)]
  omega
theorem ck_dec {c : Nat} (h : 0 < c) : nI c - nI 1 + (-1) = nI (c - 1) - nI 1 := by
  obtain ⟨d, rfl⟩ : ∃ d, c = d + 1 := ⟨c - 1, by omega⟩
  rw [pk_sub (a := d + 1) (b := 1) (by omega), Nat.add_sub_cancel]
  rw [Int32.sub_eq_add_neg]
  rfl
/-- a word laid down at a place -/
theorem ckWd_set {lf gf sf : Nat → Int32} {n p fm : Nat} {w : Nat → List Nat} {x : List Nat} (h : ckWd lf gf n w) (hn : n ≤ 5) (hl : x.length ≤ 60) (h20 : L20 x) (hs : Rp sf fm x) : ckWd (upd lf p (nI x.length)) (va_cpy sf gf fm (p * 60) x.length) n (fun q => if q = p then x else w q) := by
  intro q hq
  by_cases hqp : q = p
  · subst hqp
    dsimp only
    rw [if_pos rfl]
    refine ⟨pk_us, hl, h20, fun k hk => ?_⟩
    rw [pk_cpy_in (by omega) (by omega), show q * 60 + k - q * 60 = k by omega]
    exact hs k hk
  · dsimp only
    rw [if_neg hqp]
    obtain ⟨h1, h2, h3, h4⟩ := h q hq
    refine ⟨(pk_un hqp).trans h1, h2, h3, fun k hk => ?_⟩
    rw [pk_cpy_out (by omega)]
    exact h4 k hk
theorem ckWd_push {lf gf sf : Nat → Int32} {k fm : Nat} {w : Nat → List Nat} (h : ckWd lf gf k w) (hk : k < 5) (hl : (w k).length ≤ 60) (h20 : L20 (w k)) (hs : Rp sf fm (w k)) : ckWd (upd lf k (nI (w k).length)) (va_cpy sf gf fm (k * 60) (w k).length) (k + 1) w := by
  intro q hq
  by_cases hqp : q = k
  · subst hqp
    refine ⟨pk_us, hl, h20, fun j hj => ?_⟩
    rw [pk_cpy_in (by omega) (by omega), show q * 60 + j - q * 60 = j by omega]
    exact hs j hj
  · obtain ⟨h1, h2, h3, h4⟩ := h q (by omega)
    refine ⟨(pk_un hqp).trans h1, h2, h3, fun j hj => ?_⟩
    rw [pk_cpy_out (by omega)]
    exact h4 j hj
theorem ckWd_one {lf gf : Nat → Int32} {n p : Nat} {w : Nat → List Nat} (h : ckWd lf gf n w) (hp : p < n) : w p = [p] ↔ (w p).length = 1 ∧ gf (p * 60 + 0) = nI p ∧ p < 2 ^ 31 ∨ w p = [p] := ⟨Or.inr, fun z => z.elim (fun q => by
    obtain ⟨q1, q2, q3⟩ := q
    obtain ⟨-, -, h3, h4⟩ := h p hp
    match hw : w p, q1 with
    | [y], _ =>
      have h5 := h4 0 (by rw [hw]; exact Nat.one_pos)
      rw [hw] at h5 h3
      rw [h5] at q2
      have hy : y < 20 := h3 y List.mem_cons_self
      have := (nI_eq (a := y) (by omega) q3).mp q2
      rw [this]) id⟩
def first0 : Nat → List Nat := fun p => [p]
theorem ckWd_first {lf gf : Nat → Int32} {k : Nat} (h : ckWd lf gf k first0) (hk : k < 5) : ckWd (upd lf k (nI 1)) (upd gf (k * 60) (nI k)) (k + 1) first0 := by
  intro q hq
  by_cases hqk : q = k
  · subst hqk
    refine ⟨pk_us, Nat.le_of_ble_eq_true rfl, fun x hx => ?_, fun j hj => ?_⟩
    · cases hx with
      | head => omega
      | tail _ h => cases h
    · have hj : j < 1 := hj
      rw [show j = 0 by omega]
      exact pk_us
  · obtain ⟨h1, h2, h3, h4⟩ := h q (by omega)
    refine ⟨(pk_un hqk).trans h1, h2, h3, fun j hj => ?_⟩
    have hj1 : j < 1 := hj
    rw [pk_un (by omega)]
    exact h4 j hj
set_option maxHeartbeats 4000000 in
set_option maxRecDepth 100000 in
/-- X3_init -/
theorem c_X3_init (l : Launch) (N : ckN) (ja : Nat)  : ckV l yX3_init cX3_init 1 none { frames := 2, cells := 1, slots := 180, locals := 60 } N [.ref ja] [(ja, .inr (3, [.null, .int (nI 0)]))] (fun (u : Nat) => True) (fun (u : Nat) => [(ja, .inr (3, [.ref u, .int (nI 0)])), (u, .inl (N.2 0, 180, .inl (fun _ => 0)))]) := by
  refine ckV.of (by decide) (Nat.le_of_ble_eq_true rfl) ?_
  intro pg eg sg mg blw mth cg Ag ls hx hb hrt hml hown hlk hin hg hE hA hP hD hS hl
  have hown : sg.vm.findClass RX3 = some mg.cls := hown
  have hl : lv_has ls 1 [(0, .ref ja)] := hl
  have C0 : ckC pg sg mg ([.ref ja]).toArray cg cX3_init 1 RX3 N Ag := ⟨⟨hx, hb, hml, hown, hg⟩, hE, hA⟩
  generalize hHe : sg.heap = H at hP
  have hS : va_S Ag sg.heap H [] := hHe ▸ hS
  refine lv_aload_n hx hb dX3_init_0 rfl (lv_at hl 0 rfl) ?_
  refine W.objInit hx hb hown (hg _ k1_175) (hg _ k1_22) (hg _ k1_23) rfl (by rw [hml]; exact hl.1) rfl dX3_init_1 (Nat.le_of_ble_eq_true rfl) (Nat.le_of_ble_eq_true rfl) ?_
  refine W.eq (g2 := F0 mg 4 ls []) rfl ?_
  refine lv_aload_n hx hb dX3_init_4 rfl (lv_at hl 0 rfl) ?_
  refine lv_sipush (v := (nI 180)) hx hb dX3_init_5 (by decide) ?_
  refine ck_newa (n := 180) hx hb (hg _ k1_51) hE hP hD hS hA (by decide) (by decide) (Nat.le_of_ble_eq_true rfl) (Nat.le_of_ble_eq_true rfl) dX3_init_8 (fun q_1 H hP hD hS => ?_)
  have hP : va_P N.1 vwCl [(ja, .inr (3, [.null, .int (nI 0)])), (q_1, .inl (N.2 0, 180, .inl (fun _ => 0)))] H := hP
  have hD : va_D Ag [(ja, .inr (3, [.null, .int (nI 0)])), (q_1, .inl (N.2 0, 180, .inl (fun _ => 0)))] := hD
  refine va_putF (ci := 3) (v := .ref q_1) (C := RX3) (T := TX3) (N := 2) hx hb hg inX3 tyX3 tyX3_ok nmX3 hown hE.1 hP hD hS 0 rfl rfl 0 (by decide) (hg _ k1_176) (fun _ h9 => h9) rfl hin rfl (tyX3_ok 0 (by decide)) rfl rfl (Nat.le_of_ble_eq_true rfl) dX3_init_10 (fun H locs hP hD hS => ?_)
  have hP : va_P N.1 vwCl [(ja, .inr (3, [.ref q_1, .int (nI 0)])), (q_1, .inl (N.2 0, 180, .inl (fun _ => 0)))] H := hP
  have hD : va_D Ag [(ja, .inr (3, [.ref q_1, .int (nI 0)])), (q_1, .inl (N.2 0, 180, .inl (fun _ => 0)))] := hD
  exact ck_vret hx hb hrt hlk (q_1) trivial hP hD hS ⟨Nat.le_of_ble_eq_true rfl, Nat.le_of_ble_eq_true rfl⟩ dX3_init_13
set_option maxHeartbeats 4000000 in
set_option maxRecDepth 100000 in
/-- X3_begin -/
theorem c_X3_begin (l : Launch) (N : ckN) (ja : Nat) (jj : Nat) (jl : Nat → Int32) (x : Int32)  : ckV l yX3_begin cX3_begin 1 none { frames := 2, cells := 0, slots := 0, locals := 60 } N [.ref ja] [(ja, .inr (3, [.ref jj, .int x])), (jj, .inl (N.2 0, 180, .inl jl))] (fun (u : Unit) => True) (fun (u : Unit) => [(ja, .inr (3, [.ref jj, .int (nI 0)])), (jj, .inl (N.2 0, 180, .inl jl))]) := by
  refine ckV.of (by decide) (Nat.le_of_ble_eq_true rfl) ?_
  intro pg eg sg mg blw mth cg Ag ls hx hb hrt hml hown hlk hin hg hE hA hP hD hS hl
  have hown : sg.vm.findClass RX3 = some mg.cls := hown
  have hl : lv_has ls 1 [(0, .ref ja)] := hl
  have C0 : ckC pg sg mg ([.ref ja]).toArray cg cX3_begin 1 RX3 N Ag := ⟨⟨hx, hb, hml, hown, hg⟩, hE, hA⟩
  generalize hHe : sg.heap = H at hP
  have hS : va_S Ag sg.heap H [] := hHe ▸ hS
  refine lv_aload_n hx hb dX3_begin_0 rfl (lv_at hl 0 rfl) ?_
  refine lv_iconst (v := (nI 0)) hx hb dX3_begin_1 (by decide) ?_
  refine va_put (ci := 3) (v := .int (nI 0)) (C := RX3) (T := TX3) (N := 2) hx hb hg inX3 tyX3 tyX3_ok nmX3 hown hE.1 hP hD hS 0 rfl rfl 1 (by decide) (hg _ k1_178) (fun _ h9 => h9) rfl (tyX3_ok 1 (by decide)) rfl rfl (Nat.le_of_ble_eq_true rfl) dX3_begin_2 (fun H locs hP hD hS => ?_)
  have hP : va_P N.1 vwCl [(ja, .inr (3, [.ref jj, .int (nI 0)])), (jj, .inl (N.2 0, 180, .inl jl))] H := hP
  have hD : va_D Ag [(ja, .inr (3, [.ref jj, .int (nI 0)])), (jj, .inl (N.2 0, 180, .inl jl))] := hD
  exact ck_vret hx hb hrt hlk () trivial hP hD hS ⟨Nat.le_of_ble_eq_true rfl, Nat.le_of_ble_eq_true rfl⟩ dX3_begin_5
set_option maxHeartbeats 4000000 in
set_option maxRecDepth 100000 in
/-- X3_add -/
theorem c_X3_add (l : Launch) (N : ckN) (ja : Nat) (jj : Nat) (jl : Nat → Int32) (r : List Nat) (t : Nat) (hr : JR jl r) (h20 : L20 r) (ht : t < 20) (hc : r.length < 180) : ckV l yX3_add cX3_add 2 none { frames := 3, cells := 0, slots := 0, locals := 80 } N [.ref ja, .int (nI t)] [(ja, .inr (3, [.ref jj, .int (nI r.length)])), (jj, .inl (N.2 0, 180, .inl jl))] (fun (u : (Nat → Int32)) => JR u (push t r)) (fun (u : (Nat → Int32)) => [(ja, .inr (3, [.ref jj, .int (nI ((push t r).length))])), (jj, .inl (N.2 0, 180, .inl u))]) := by
  refine ckV.of (by decide) (Nat.le_of_ble_eq_true rfl) ?_
  intro pg eg sg mg blw mth cg Ag ls hx hb hrt hml hown hlk hin hg hE hA hP hD hS hl
  have hown : sg.vm.findClass RX3 = some mg.cls := hown
  have hl : lv_has ls 2 [(0, .ref ja), (1, .int (nI t))] := hl
  have C0 : ckC pg sg mg ([.ref ja, .int (nI t)]).toArray cg cX3_add 2 RX3 N Ag := ⟨⟨hx, hb, hml, hown, hg⟩, hE, hA⟩
  generalize hHe : sg.heap = H at hP
  have hS : va_S Ag sg.heap H [] := hHe ▸ hS
  refine lv_aload_n hx hb dX3_add_0 rfl (lv_at hl 0 rfl) ?_
  refine va_get (ci := 3) (v := .int (nI r.length)) (C := RX3) (T := TX3) (N := 2) hx hb hg inX3 hown hE.1 hP 0 rfl rfl 1 (by decide) (hg _ k1_178) (fun _ h9 => h9) rfl dX3_add_1 ?_
  refine ck_if0_le (tgt := 38) hx hb dX3_add_4 (by decide) (by omega) (fun cz_1 => ?_) (fun cz_1 => ?_)
  · refine lv_aload_n hx hb dX3_add_38 rfl (lv_at hl 0 rfl) ?_
    refine va_get (ci := 3) (v := .int (nI r.length)) (C := RX3) (T := TX3) (N := 2) hx hb hg inX3 hown hE.1 hP 0 rfl rfl 1 (by decide) (hg _ k1_178) (fun _ h9 => h9) rfl dX3_add_39 ?_
    refine lv_aload_n hx hb dX3_add_42 rfl (lv_at hl 0 rfl) ?_
    refine va_get (ci := 3) (v := .ref jj) (C := RX3) (T := TX3) (N := 2) hx hb hg inX3 hown hE.1 hP 0 rfl rfl 0 (by decide) (hg _ k1_176) (fun _ h9 => h9) rfl dX3_add_43 ?_
    refine va_alen (v := nI 180) hx hb hE.1 hP 1 0 rfl rfl rfl dX3_add_46 ?_
    refine ck_ic_ge (tgt := 70) hx hb dX3_add_47 (by decide) (by omega) (by omega) (fun cz_2 => absurd cz_2 (by omega)) (fun cz_2 => ?_)
    refine lv_aload_n hx hb dX3_add_50 rfl (lv_at hl 0 rfl) ?_
    refine va_get (ci := 3) (v := .ref jj) (C := RX3) (T := TX3) (N := 2) hx hb hg inX3 hown hE.1 hP 0 rfl rfl 0 (by decide) (hg _ k1_176) (fun _ h9 => h9) rfl dX3_add_51 ?_
    refine lv_aload_n hx hb dX3_add_54 rfl (lv_at hl 0 rfl) ?_
    refine va_get (ci := 3) (v := .int (nI r.length)) (C := RX3) (T := TX3) (N := 2) hx hb hg inX3 hown hE.1 hP 0 rfl rfl 1 (by decide) (hg _ k1_178) (fun _ h9 => h9) rfl dX3_add_55 ?_
    refine lv_iload_n hx hb dX3_add_58 rfl (lv_at hl 1 rfl) ?_
    refine ck_iast hx hb hE hP hD hS 1 rfl (by omega) (by decide) dX3_add_59 (ws1 := [(ja, .inr (3, [.ref jj, .int (nI r.length)])), (jj, .inl (N.2 0, 180, .inl (upd jl r.length (nI t))))]) rfl (fun H locs hP hD hS => ?_)
    refine lv_aload_n hx hb dX3_add_60 rfl (lv_at hl 0 rfl) ?_
    refine lv_dup hx hb dX3_add_61 rfl ?_
    refine va_get (ci := 3) (v := .int (nI r.length)) (C := RX3) (T := TX3) (N := 2) hx hb hg inX3 hown hE.1 hP 0 rfl rfl 1 (by decide) (hg _ k1_178) (fun _ h9 => h9) rfl dX3_add_62 ?_
    refine lv_iconst (v := (nI 1)) hx hb dX3_add_65 (by decide) ?_
    refine lv_iadd hx hb dX3_add_66 ?_
    refine ck_top (y := (nI (r.length + 1))) (nI_add _ _) ?_
    refine va_put (ci := 3) (v := .int (nI (r.length + 1))) (C := RX3) (T := TX3) (N := 2) hx hb hg inX3 tyX3 tyX3_ok nmX3 hown hE.1 hP hD hS 0 rfl rfl 1 (by decide) (hg _ k1_178) (fun _ h9 => h9) rfl (tyX3_ok 1 (by decide)) rfl rfl (Nat.le_of_ble_eq_true rfl) dX3_add_67 (fun H locs hP hD hS => ?_)
    have hP : va_P N.1 vwCl [(ja, .inr (3, [.ref jj, .int (nI (r.length + 1))])), (jj, .inl (N.2 0, 180, .inl (upd jl r.length (nI t))))] H := hP
    have hD : va_D Ag [(ja, .inr (3, [.ref jj, .int (nI (r.length + 1))])), (jj, .inl (N.2 0, 180, .inl (upd jl r.length (nI t))))] := hD
    have hle : (push t r).length = r.length + 1 := (by rw [push_put (Or.inl cz_1)]; rfl)
    rw [← hle] at hP hD
    exact ck_vret hx hb hrt hlk (upd jl r.length (nI t)) (by rw [push_put (Or.inl cz_1)]; exact JR_cons hr t) hP hD hS ⟨Nat.le_of_ble_eq_true rfl, Nat.le_of_ble_eq_true rfl⟩ dX3_add_70
  refine lv_aload_n hx hb dX3_add_7 rfl (lv_at hl 0 rfl) ?_
  refine va_get (ci := 3) (v := .ref jj) (C := RX3) (T := TX3) (N := 2) hx hb hg inX3 hown hE.1 hP 0 rfl rfl 0 (by decide) (hg _ k1_176) (fun _ h9 => h9) rfl dX3_add_8 ?_
  refine lv_aload_n hx hb dX3_add_11 rfl (lv_at hl 0 rfl) ?_
  refine va_get (ci := 3) (v := .int (nI r.length)) (C := RX3) (T := TX3) (N := 2) hx hb hg inX3 hown hE.1 hP 0 rfl rfl 1 (by decide) (hg _ k1_178) (fun _ h9 => h9) rfl dX3_add_12 ?_
  refine lv_iconst (v := (nI 1)) hx hb dX3_add_15 (by decide) ?_
  refine lv_isub hx hb dX3_add_16 ?_
  refine ck_top (y := (nI (r.length - 1))) (pk_sub (by omega)) ?_
  refine ck_iald hx hb hE hP 1 rfl (by omega) (by decide) dX3_add_17 ?_
  refine ck_top (y := (nI (r.getD 0 0))) (JR_top hr (by omega)) ?_
  refine lv_iload_n hx hb dX3_add_18 rfl (lv_at hl 1 rfl) ?_
  refine ck_Si (As := [.int (nI t)]) (rest := [.int (nI (r.getD 0 0))]) (wr := [(ja, .inr (3, [.ref jj, .int (nI r.length)])), (jj, .inl (N.2 0, 180, .inl jl))]) C0 hP hD hS (c_X3_turned l N t (by omega)) myX3_turned k3_45 ⟨Nat.le_of_ble_eq_true rfl, Nat.le_of_ble_eq_true rfl⟩ [] [0, 1] ⟨⟨rfl, rfl⟩, by decide, by decide, by decide⟩ rfl hl.1 rfl (Nat.le_of_ble_eq_true rfl) dX3_add_19 ⟨Nat.le_of_ble_eq_true rfl, Nat.le_of_ble_eq_true rfl⟩ (fun r_3 u0 H locs hw0 hP hD hS => ?_)
  have hw_4 : r_3 = (nI (ckT t)) := hw0
  subst hw_4
  have hP : va_P N.1 vwCl [(ja, .inr (3, [.ref jj, .int (nI r.length)])), (jj, .inl (N.2 0, 180, .inl jl))] H := hP
  have hD : va_D Ag [(ja, .inr (3, [.ref jj, .int (nI r.length)])), (jj, .inl (N.2 0, 180, .inl jl))] := hD
  refine ck_ic_ne (tgt := 38) hx hb dX3_add_22 (by decide) (Nat.lt_trans (L20_getD h20 (by omega)) (by decide)) (Nat.lt_trans (ckT_lt ht) (by decide)) (fun cz_5 => ?_) (fun cz_5 => ?_)
  · refine lv_aload_n hx hb dX3_add_38 rfl (lv_at hl 0 rfl) ?_
    refine va_get (ci := 3) (v := .int (nI r.length)) (C := RX3) (T := TX3) (N := 2) hx hb hg inX3 hown hE.1 hP 0 rfl rfl 1 (by decide) (hg _ k1_178) (fun _ h9 => h9) rfl dX3_add_39 ?_
    refine lv_aload_n hx hb dX3_add_42 rfl (lv_at hl 0 rfl) ?_
    refine va_get (ci := 3) (v := .ref jj) (C := RX3) (T := TX3) (N := 2) hx hb hg inX3 hown hE.1 hP 0 rfl rfl 0 (by decide) (hg _ k1_176) (fun _ h9 => h9) rfl dX3_add_43 ?_
    refine va_alen (v := nI 180) hx hb hE.1 hP 1 0 rfl rfl rfl dX3_add_46 ?_
    refine ck_ic_ge (tgt := 70) hx hb dX3_add_47 (by decide) (by omega) (by omega) (fun cz_6 => absurd cz_6 (by omega)) (fun cz_6 => ?_)
    refine lv_aload_n hx hb dX3_add_50 rfl (lv_at hl 0 rfl) ?_
    refine va_get (ci := 3) (v := .ref jj) (C := RX3) (T := TX3) (N := 2) hx hb hg inX3 hown hE.1 hP 0 rfl rfl 0 (by decide) (hg _ k1_176) (fun _ h9 => h9) rfl dX3_add_51 ?_
    refine lv_aload_n hx hb dX3_add_54 rfl (lv_at hl 0 rfl) ?_
    refine va_get (ci := 3) (v := .int (nI r.length)) (C := RX3) (T := TX3) (N := 2) hx hb hg inX3 hown hE.1 hP 0 rfl rfl 1 (by decide) (hg _ k1_178) (fun _ h9 => h9) rfl dX3_add_55 ?_
    refine lv_iload_n hx hb dX3_add_58 rfl (lv_at hl 1 rfl) ?_
    refine ck_iast hx hb hE hP hD hS 1 rfl (by omega) (by decide) dX3_add_59 (ws1 := [(ja, .inr (3, [.ref jj, .int (nI r.length)])), (jj, .inl (N.2 0, 180, .inl (upd jl r.length (nI t))))]) rfl (fun H locs hP hD hS => ?_)
    refine lv_aload_n hx hb dX3_add_60 rfl (lv_at hl 0 rfl) ?_
    refine lv_dup hx hb dX3_add_61 rfl ?_
    refine va_get (ci := 3) (v := .int (nI r.length)) (C := RX3) (T := TX3) (N := 2) hx hb hg inX3 hown hE.1 hP 0 rfl rfl 1 (by decide) (hg _ k1_178) (fun _ h9 => h9) rfl dX3_add_62 ?_
    refine lv_iconst (v := (nI 1)) hx hb dX3_add_65 (by decide) ?_
    refine lv_iadd hx hb dX3_add_66 ?_
    refine ck_top (y := (nI (r.length + 1))) (nI_add _ _) ?_
    refine va_put (ci := 3) (v := .int (nI (r.length + 1))) (C := RX3) (T := TX3) (N := 2) hx hb hg inX3 tyX3 tyX3_ok nmX3 hown hE.1 hP hD hS 0 rfl rfl 1 (by decide) (hg _ k1_178) (fun _ h9 => h9) rfl (tyX3_ok 1 (by decide)) rfl rfl (Nat.le_of_ble_eq_true rfl) dX3_add_67 (fun H locs hP hD hS => ?_)
    have hP : va_P N.1 vwCl [(ja, .inr (3, [.ref jj, .int (nI (r.length + 1))])), (jj, .inl (N.2 0, 180, .inl (upd jl r.length (nI t))))] H := hP
    have hD : va_D Ag [(ja, .inr (3, [.ref jj, .int (nI (r.length + 1))])), (jj, .inl (N.2 0, 180, .inl (upd jl r.length (nI t))))] := hD
    have hle : (push t r).length = r.length + 1 := (by rw [push_put (Or.inr cz_5)]; rfl)
    rw [← hle] at hP hD
    exact ck_vret hx hb hrt hlk (upd jl r.length (nI t)) (by rw [push_put (Or.inr cz_5)]; exact JR_cons hr t) hP hD hS ⟨Nat.le_of_ble_eq_true rfl, Nat.le_of_ble_eq_true rfl⟩ dX3_add_70
  refine lv_aload_n hx hb dX3_add_25 rfl (lv_at hl 0 rfl) ?_
  refine lv_dup hx hb dX3_add_26 rfl ?_
  refine va_get (ci := 3) (v := .int (nI r.length)) (C := RX3) (T := TX3) (N := 2) hx hb hg inX3 hown hE.1 hP 0 rfl rfl 1 (by decide) (hg _ k1_178) (fun _ h9 => h9) rfl dX3_add_27 ?_
  refine lv_iconst (v := (nI 1)) hx hb dX3_add_30 (by decide) ?_
  refine lv_isub hx hb dX3_add_31 ?_
  refine ck_top (y := (nI (r.length - 1))) (pk_sub (by omega)) ?_
  refine va_put (ci := 3) (v := .int (nI (r.length - 1))) (C := RX3) (T := TX3) (N := 2) hx hb hg inX3 tyX3 tyX3_ok nmX3 hown hE.1 hP hD hS 0 rfl rfl 1 (by decide) (hg _ k1_178) (fun _ h9 => h9) rfl (tyX3_ok 1 (by decide)) rfl rfl (Nat.le_of_ble_eq_true rfl) dX3_add_32 (fun H locs hP hD hS => ?_)
  have hP : va_P N.1 vwCl [(ja, .inr (3, [.ref jj, .int (nI (r.length - 1))])), (jj, .inl (N.2 0, 180, .inl jl))] H := hP
  have hD : va_D Ag [(ja, .inr (3, [.ref jj, .int (nI (r.length - 1))])), (jj, .inl (N.2 0, 180, .inl jl))] := hD
  refine lv_goto (tgt := 70) hx hb dX3_add_35 (by decide) ?_
  have hle : (push t r).length = r.length - 1 := (push_pop cz_1 cz_5).2
  rw [← hle] at hP hD
  exact ck_vret hx hb hrt hlk (jl) (by rw [(push_pop cz_1 cz_5).1]; exact JR_tail hr) hP hD hS ⟨Nat.le_of_ble_eq_true rfl, Nat.le_of_ble_eq_true rfl⟩ dX3_add_70
set_option maxHeartbeats 4000000 in
set_option maxRecDepth 100000 in
/-- X9_told -/
theorem c_X9_told (l : Launch) (N : ckN) (b : Nat) (lw : Nat) (gw : Nat) (lf : Nat → Int32) (gf : Nat → Int32) (n : Nat) (p : Nat) (i : Nat) (hi : p * 60 + i < 300) : ckI l yX9_told cX9_told 3 (some FieldType.int) { frames := 2, cells := 0, slots := 0, locals := 60 } N [.ref b, .int (nI p), .int (nI i)] [(b, .inr (9, [.ref lw, .ref gw, .int (nI n)])), (lw, .inl (N.2 0, 5, .inl lf)), (gw, .inl (N.2 0, 300, .inl gf))] (fun (r : Int32) (u : Unit) => r = (gf (p * 60 + i))) (fun (u : Unit) => [(b, .inr (9, [.ref lw, .ref gw, .int (nI n)])), (lw, .inl (N.2 0, 5, .inl lf)), (gw, .inl (N.2 0, 300, .inl gf))]) := by
  refine ckI.of (by decide) (Nat.le_of_ble_eq_true rfl) ?_
  intro pg eg sg mg blw mth cg Ag ls hx hb hrt hml hown hlk hin hg hE hA hP hD hS hl
  have hown : sg.vm.findClass RX9 = some mg.cls := hown
  have hl : lv_has ls 3 [(0, .ref b), (1, .int (nI p)), (2, .int (nI i))] := hl
  have C0 : ckC pg sg mg ([.ref b, .int (nI p), .int (nI i)]).toArray cg cX9_told 3 RX9 N Ag := ⟨⟨hx, hb, hml, hown, hg⟩, hE, hA⟩
  generalize hHe : sg.heap = H at hP
  have hS : va_S Ag sg.heap H [] := hHe ▸ hS
  refine lv_aload_n hx hb dX9_told_0 rfl (lv_at hl 0 rfl) ?_
  refine va_get (ci := 9) (v := .ref gw) (C := RX9) (T := TX9) (N := 3) hx hb hg inX9 hown hE.1 hP 0 rfl rfl 1 (by decide) (hg _ k1_94) (fun _ h9 => h9) rfl dX9_told_1 ?_
  refine lv_iload_n hx hb dX9_told_4 rfl (lv_at hl 1 rfl) ?_
  refine lv_bipush (v := (nI 60)) hx hb dX9_told_5 (by decide) ?_
  refine lv_imul hx hb dX9_told_7 ?_
  refine ck_top (y := (nI (p * 60))) (pk_mul _ _) ?_
  refine lv_iload_n hx hb dX9_told_8 rfl (lv_at hl 2 rfl) ?_
  refine lv_iadd hx hb dX9_told_9 ?_
  refine ck_top (y := (nI (p * 60 + i))) (nI_add _ _) ?_
  refine ck_iald hx hb hE hP 2 rfl (by omega) (by decide) dX9_told_10 ?_
  exact ck_iret hx hb hrt hlk () rfl hP hD hS ⟨Nat.le_of_ble_eq_true rfl, Nat.le_of_ble_eq_true rfl⟩ dX9_told_11
set_option maxHeartbeats 4000000 in
set_option maxRecDepth 100000 in
/-- X3_addWord -/
theorem c_X3_addWord (l : Launch) (N : ckN) (ja : Nat) (jj : Nat) (jl : Nat → Int32) (b : Nat) (lw : Nat) (gw : Nat) (lf : Nat → Int32) (gf : Nat → Int32) (n : Nat) (r : List Nat) (w : Nat → List Nat) (p : Nat) (hr : JR jl r) (h20 : L20 r) (hw : ckWd lf gf n w) (hp : p < n) (hn : n ≤ 5) (hc : r.length + (w p).length ≤ 180) : ckV l yX3_addWord cX3_addWord 4 none { frames := 4, cells := 0, slots := 0, locals := 101 } N [.ref ja, .ref b, .int (nI p)] [(ja, .inr (3, [.ref jj, .int (nI r.length)])), (jj, .inl (N.2 0, 180, .inl jl)), (b, .inr (9, [.ref lw, .ref gw, .int (nI n)])), (lw, .inl (N.2 0, 5, .inl lf)), (gw, .inl (N.2 0, 300, .inl gf))] (fun (u : (Nat → Int32)) => JR u (mul r (w p))) (fun (u : (Nat → Int32)) => [(ja, .inr (3, [.ref jj, .int (nI ((mul r (w p)).length))])), (jj, .inl (N.2 0, 180, .inl u)), (b, .inr (9, [.ref lw, .ref gw, .int (nI n)])), (lw, .inl (N.2 0, 5, .inl lf)), (gw, .inl (N.2 0, 300, .inl gf))]) := by
  refine ckV.of (by decide) (Nat.le_of_ble_eq_true rfl) ?_
  intro pg eg sg mg blw mth cg Ag ls hx hb hrt hml hown hlk hin hg hE hA hP hD hS hl
  have hown : sg.vm.findClass RX3 = some mg.cls := hown
  have hl : lv_has ls 4 [(0, .ref ja), (1, .ref b), (2, .int (nI p))] := hl
  have C0 : ckC pg sg mg ([.ref ja, .ref b, .int (nI p)]).toArray cg cX3_addWord 4 RX3 N Ag := ⟨⟨hx, hb, hml, hown, hg⟩, hE, hA⟩
  generalize hHe : sg.heap = H at hP
  have hS : va_S Ag sg.heap H [] := hHe ▸ hS
  obtain ⟨hp1, hp2, hp3, hp4⟩ := hw p hp
  refine lv_iconst (v := (nI 0)) hx hb dX3_addWord_0 (by decide) ?_
  refine lv_istore_n (lv' := [(3, .int (nI 0)), (0, .ref ja), (1, .ref b), (2, .int (nI p))]) hx hb dX3_addWord_1 rfl hl (by decide) rfl (fun ls hl => ?_)
  have lp_2 : ∀ (dz : Nat) (k : Nat) (rr : List Nat) (jl1 : Nat → Int32) (hdz : (w p).length - k = dz) (hk : k ≤ (w p).length) (hrr : rr = mul r ((w p).take k)) (hjr : JR jl1 rr) (H : Heap) (locs : List Loc) (ls : Array Slot), va_P N.1 vwCl [(ja, .inr (3, [.ref jj, .int (nI rr.length)])), (jj, .inl (N.2 0, 180, .inl jl1)), (b, .inr (9, [.ref lw, .ref gw, .int (nI n)])), (lw, .inl (N.2 0, 5, .inl lf)), (gw, .inl (N.2 0, 300, .inl gf))] H → va_D Ag [(ja, .inr (3, [.ref jj, .int (nI rr.length)])), (jj, .inl (N.2 0, 180, .inl jl1)), (b, .inr (9, [.ref lw, .ref gw, .int (nI n)])), (lw, .inl (N.2 0, 5, .inl lf)), (gw, .inl (N.2 0, 300, .inl gf))] → va_S Ag sg.heap H locs → lv_has ls 4 [(3, .int (nI k)), (0, .ref ja), (1, .ref b), (2, .int (nI p))] → W pg l eg { frames := 4, cells := 0, slots := 0, locals := 101 } sg mg ([.ref ja, .ref b, .int (nI p)]).toArray blw mth cg H locs 0 0 (ckQv N Ag blw sg ([.ref ja, .ref b, .int (nI p)]).toArray { frames := 4, cells := 0, slots := 0, locals := 101 } (fun (u : (Nat → Int32)) => JR u (mul r (w p))) (fun (u : (Nat → Int32)) => [(ja, .inr (3, [.ref jj, .int (nI ((mul r (w p)).length))])), (jj, .inl (N.2 0, 180, .inl u)), (b, .inr (9, [.ref lw, .ref gw, .int (nI n)])), (lw, .inl (N.2 0, 5, .inl lf)), (gw, .inl (N.2 0, 300, .inl gf))])) (F0 mg 2 ls []) := by
    intro dz
    induction dz using Nat.strongRecOn with
    | _ dz ih_2 =>
      intro k rr jl1 hdz hk hrr hjr H locs ls hP hD hS hl
      subst hdz
      refine lv_iload_n hx hb dX3_addWord_2 rfl (lv_at hl 0 rfl) ?_
      refine lv_aload_n hx hb dX3_addWord_3 rfl (lv_at hl 2 rfl) ?_
      refine va_getN (ci := 9) (v := .ref lw) (C := RX9) (T := TX9) (N := 3) (host := "KiteMeet") hx hb hg inX9 hown hE.1 hP 2 rfl rfl 0 (by decide) (hE.nf 6 rfl _) (fun _ h9 => h9) rfl dX3_addWord_4 ?_
      refine lv_iload_n hx hb dX3_addWord_7 rfl (lv_at hl 3 rfl) ?_
      refine ck_iald hx hb hE hP 3 rfl (by omega) (by decide) dX3_addWord_8 ?_
      refine ck_top (y := (nI ((w p).length))) hp1 ?_
      refine ck_ic_ge (tgt := 28) hx hb dX3_addWord_9 (by decide) (by omega) (by omega) (fun cz_1 => ?_) (fun cz_1 => ?_)
      · have hrr2 : rr = mul r (w p) := by rw [hrr, (show k = (w p).length by omega), List.take_length]
        rw [hrr2] at hP hD hjr
        exact ck_vret hx hb hrt hlk (jl1) hjr hP hD hS ⟨Nat.le_of_ble_eq_true rfl, Nat.le_of_ble_eq_true rfl⟩ dX3_addWord_28
      refine lv_aload_n hx hb dX3_addWord_12 rfl (lv_at hl 1 rfl) ?_
      refine lv_aload_n hx hb dX3_addWord_13 rfl (lv_at hl 2 rfl) ?_
      refine lv_iload_n hx hb dX3_addWord_14 rfl (lv_at hl 3 rfl) ?_
      refine lv_iload_n hx hb dX3_addWord_15 rfl (lv_at hl 0 rfl) ?_
      refine ck_Vi (As := [.int (nI p), .int (nI k)]) (rest := [.ref ja]) (wr := [(ja, .inr (3, [.ref jj, .int (nI rr.length)])), (jj, .inl (N.2 0, 180, .inl jl1))]) C0 hP hD hS (c_X9_told l N b lw gw lf gf n p k (by omega)) myX9_told k3_37 ⟨Nat.le_of_ble_eq_true rfl, Nat.le_of_ble_eq_true rfl⟩ [2, 3, 4] [0, 1] ⟨⟨rfl, rfl⟩, by decide, by decide, by decide⟩ 2 rfl rfl rfl rfl hl.1 rfl (Nat.le_of_ble_eq_true rfl) dX3_addWord_16 ⟨Nat.le_of_ble_eq_true rfl, Nat.le_of_ble_eq_true rfl⟩ (fun r_2 u0 H locs hw0 hP hD hS => ?_)
      have hw_3 : r_2 = (gf (p * 60 + k)) := hw0
      subst hw_3
      have hP : va_P N.1 vwCl [(ja, .inr (3, [.ref jj, .int (nI rr.length)])), (jj, .inl (N.2 0, 180, .inl jl1)), (b, .inr (9, [.ref lw, .ref gw, .int (nI n)])), (lw, .inl (N.2 0, 5, .inl lf)), (gw, .inl (N.2 0, 300, .inl gf))] H := hP
      have hD : va_D Ag [(ja, .inr (3, [.ref jj, .int (nI rr.length)])), (jj, .inl (N.2 0, 180, .inl jl1)), (b, .inr (9, [.ref lw, .ref gw, .int (nI n)])), (lw, .inl (N.2 0, 5, .inl lf)), (gw, .inl (N.2 0, 300, .inl gf))] := hD
      refine ck_top (y := (nI ((w p).getD k 0))) (hp4 k (by omega)) ?_
      refine ck_Vv (As := [.int (nI ((w p).getD k 0))]) (rest := []) (wr := [(b, .inr (9, [.ref lw, .ref gw, .int (nI n)])), (lw, .inl (N.2 0, 5, .inl lf)), (gw, .inl (N.2 0, 300, .inl gf))]) C0 hP hD hS (c_X3_add l N ja jj jl1 rr ((w p).getD k 0) hjr (by rw [hrr]; exact mul_lt h20 (L20_take hp3 k)) (L20_getD hp3 (by omega)) (by have := mul_len ((w p).take k) r; have := take_len (w p) k; rw [hrr]; omega)) myX3_add k3_41 ⟨Nat.le_of_ble_eq_true rfl, Nat.le_of_ble_eq_true rfl⟩ [0, 1] [2, 3, 4] ⟨⟨rfl, rfl⟩, by decide, by decide, by decide⟩ 0 rfl rfl rfl rfl hl.1 rfl (Nat.le_of_ble_eq_true rfl) dX3_addWord_19 ⟨Nat.le_of_ble_eq_true rfl, Nat.le_of_ble_eq_true rfl⟩ (fun u0 H locs hw0 hP hD hS => ?_)
      obtain ⟨jl2, rfl⟩ : ∃ z, z = u0 := ⟨_, rfl⟩
      have hw_5 : JR jl2 (push ((w p).getD k 0) rr) := hw0
      have hP : va_P N.1 vwCl [(b, .inr (9, [.ref lw, .ref gw, .int (nI n)])), (lw, .inl (N.2 0, 5, .inl lf)), (gw, .inl (N.2 0, 300, .inl gf)), (ja, .inr (3, [.ref jj, .int (nI ((push ((w p).getD k 0) rr).length))])), (jj, .inl (N.2 0, 180, .inl jl2))] H := hP
      have hD : va_D Ag [(b, .inr (9, [.ref lw, .ref gw, .int (nI n)])), (lw, .inl (N.2 0, 5, .inl lf)), (gw, .inl (N.2 0, 300, .inl gf)), (ja, .inr (3, [.ref jj, .int (nI ((push ((w p).getD k 0) rr).length))])), (jj, .inl (N.2 0, 180, .inl jl2))] := hD
      refine lv_iinc (v := (nI (k + 1))) (lv' := [(3, .int (nI (k + 1))), (0, .ref ja), (1, .ref b), (2, .int (nI p))]) hx hb dX3_addWord_22 hl (k := 0) rfl (nI_1 _) (by decide) rfl (fun ls hl => ?_)
      refine lv_goto (tgt := 2) hx hb dX3_addWord_25 (by decide) ?_
      exact ih_2 _ (by omega) (k + 1) (push ((w p).getD k 0) rr) jl2 rfl (by omega) (by rw [hrr, mul_next (by omega)]) hw_5 _ _ ls (hP.sub [3, 4, 0, 1, 2] rfl) (hD.sub [3, 4, 0, 1, 2] (by decide) rfl) hS hl
  exact lp_2 _ 0 r jl rfl (by omega) rfl hr _ _ ls hP hD hS hl
set_option maxHeartbeats 4000000 in
set_option maxRecDepth 100000 in
/-- X3_addTurned -/
theorem c_X3_addTurned (l : Launch) (N : ckN) (ja : Nat) (jj : Nat) (jl : Nat → Int32) (b : Nat) (lw : Nat) (gw : Nat) (lf : Nat → Int32) (gf : Nat → Int32) (n : Nat) (r : List Nat) (w : Nat → List Nat) (p : Nat) (hr : JR jl r) (h20 : L20 r) (hw : ckWd lf gf n w) (hp : p < n) (hn : n ≤ 5) (hc : r.length + (w p).length ≤ 180) : ckV l yX3_addTurned cX3_addTurned 4 none { frames := 4, cells := 0, slots := 0, locals := 101 } N [.ref ja, .ref b, .int (nI p)] [(ja, .inr (3, [.ref jj, .int (nI r.length)])), (jj, .inl (N.2 0, 180, .inl jl)), (b, .inr (9, [.ref lw, .ref gw, .int (nI n)])), (lw, .inl (N.2 0, 5, .inl lf)), (gw, .inl (N.2 0, 300, .inl gf))] (fun (u : (Nat → Int32)) => JR u (mul r (turnW (w p)))) (fun (u : (Nat → Int32)) => [(ja, .inr (3, [.ref jj, .int (nI ((mul r (turnW (w p))).length))])), (jj, .inl (N.2 0, 180, .inl u)), (b, .inr (9, [.ref lw, .ref gw, .int (nI n)])), (lw, .inl (N.2 0, 5, .inl lf)), (gw, .inl (N.2 0, 300, .inl gf))]) := by
  refine ckV.of (by decide) (Nat.le_of_ble_eq_true rfl) ?_
  intro pg eg sg mg blw mth cg Ag ls hx hb hrt hml hown hlk hin hg hE hA hP hD hS hl
  have hown : sg.vm.findClass RX3 = some mg.cls := hown
  have hl : lv_has ls 4 [(0, .ref ja), (1, .ref b), (2, .int (nI p))] := hl
  have C0 : ckC pg sg mg ([.ref ja, .ref b, .int (nI p)]).toArray cg cX3_addTurned 4 RX3 N Ag := ⟨⟨hx, hb, hml, hown, hg⟩, hE, hA⟩
  generalize hHe : sg.heap = H at hP
  have hS : va_S Ag sg.heap H [] := hHe ▸ hS
  obtain ⟨hp1, hp2, hp3, hp4⟩ := hw p hp
  refine lv_aload_n hx hb dX3_addTurned_0 rfl (lv_at hl 1 rfl) ?_
  refine va_getN (ci := 9) (v := .ref lw) (C := RX9) (T := TX9) (N := 3) (host := "KiteMeet") hx hb hg inX9 hown hE.1 hP 2 rfl rfl 0 (by decide) (hE.nf 6 rfl _) (fun _ h9 => h9) rfl dX3_addTurned_1 ?_
  refine lv_iload_n hx hb dX3_addTurned_4 rfl (lv_at hl 2 rfl) ?_
  refine ck_iald hx hb hE hP 3 rfl (by omega) (by decide) dX3_addTurned_5 ?_
  refine ck_top (y := (nI ((w p).length))) hp1 ?_
  refine lv_iconst (v := (nI 1)) hx hb dX3_addTurned_6 (by decide) ?_
  refine lv_isub hx hb dX3_addTurned_7 ?_
  refine lv_istore_n (lv' := [(3, .int ((nI ((w p).length)) - (nI 1))), (0, .ref ja), (1, .ref b), (2, .int (nI p))]) hx hb dX3_addTurned_8 rfl hl (by decide) rfl (fun ls hl => ?_)
  have lp_9 : ∀ (dz : Nat) (c1 : Nat) (rr : List Nat) (jl1 : Nat → Int32) (hdz : c1 = dz) (hk : c1 ≤ (w p).length) (hrr : rr = mul r ((turnW (w p)).take ((w p).length - c1))) (hjr : JR jl1 rr) (H : Heap) (locs : List Loc) (ls : Array Slot), va_P N.1 vwCl [(ja, .inr (3, [.ref jj, .int (nI rr.length)])), (jj, .inl (N.2 0, 180, .inl jl1)), (b, .inr (9, [.ref lw, .ref gw, .int (nI n)])), (lw, .inl (N.2 0, 5, .inl lf)), (gw, .inl (N.2 0, 300, .inl gf))] H → va_D Ag [(ja, .inr (3, [.ref jj, .int (nI rr.length)])), (jj, .inl (N.2 0, 180, .inl jl1)), (b, .inr (9, [.ref lw, .ref gw, .int (nI n)])), (lw, .inl (N.2 0, 5, .inl lf)), (gw, .inl (N.2 0, 300, .inl gf))] → va_S Ag sg.heap H locs → lv_has ls 4 [(3, .int ((nI c1) - (nI 1))), (0, .ref ja), (1, .ref b), (2, .int (nI p))] → W pg l eg { frames := 4, cells := 0, slots := 0, locals := 101 } sg mg ([.ref ja, .ref b, .int (nI p)]).toArray blw mth cg H locs 0 0 (ckQv N Ag blw sg ([.ref ja, .ref b, .int (nI p)]).toArray { frames := 4, cells := 0, slots := 0, locals := 101 } (fun (u : (Nat → Int32)) => JR u (mul r (turnW (w p)))) (fun (u : (Nat → Int32)) => [(ja, .inr (3, [.ref jj, .int (nI ((mul r (turnW (w p))).length))])), (jj, .inl (N.2 0, 180, .inl u)), (b, .inr (9, [.ref lw, .ref gw, .int (nI n)])), (lw, .inl (N.2 0, 5, .inl lf)), (gw, .inl (N.2 0, 300, .inl gf))])) (F0 mg 9 ls []) := by
    intro dz
    induction dz using Nat.strongRecOn with
    | _ dz ih_9 =>
      intro c1 rr jl1 hdz hk hrr hjr H locs ls hP hD hS hl
      subst hdz
      refine lv_iload_n hx hb dX3_addTurned_9 rfl (lv_at hl 0 rfl) ?_
      refine lv_if_lt (tgt := 32) hx hb dX3_addTurned_10 (by decide) (fun cz_1 => ?_) (fun cz_1 => ?_)
      · have hc0 : c1 = 0 := (ck_neg (by omega)).mp cz_1
        have hrr2 : rr = mul r (turnW (w p)) := by rw [hrr, hc0, Nat.sub_zero, ← turnW_len, List.take_length]
        rw [hrr2] at hP hD hjr
        exact ck_vret hx hb hrt hlk (jl1) hjr hP hD hS ⟨Nat.le_of_ble_eq_true rfl, Nat.le_of_ble_eq_true rfl⟩ dX3_addTurned_32
      have hc0 : ¬ c1 = 0 := fun q => cz_1 ((ck_neg (by omega)).mpr q)
      refine lv_aload_n hx hb dX3_addTurned_13 rfl (lv_at hl 1 rfl) ?_
      refine lv_aload_n hx hb dX3_addTurned_14 rfl (lv_at hl 2 rfl) ?_
      refine lv_iload_n hx hb dX3_addTurned_15 rfl (lv_at hl 3 rfl) ?_
      refine lv_iload_n hx hb dX3_addTurned_16 rfl (lv_at hl 0 rfl) ?_
      refine ck_top (y := (nI (c1 - 1))) (pk_sub (by omega)) ?_
      refine ck_Vi (As := [.int (nI p), .int (nI (c1 - 1))]) (rest := [.ref ja]) (wr := [(ja, .inr (3, [.ref jj, .int (nI rr.length)])), (jj, .inl (N.2 0, 180, .inl jl1))]) C0 hP hD hS (c_X9_told l N b lw gw lf gf n p (c1 - 1) (by omega)) myX9_told k3_37 ⟨Nat.le_of_ble_eq_true rfl, Nat.le_of_ble_eq_true rfl⟩ [2, 3, 4] [0, 1] ⟨⟨rfl, rfl⟩, by decide, by decide, by decide⟩ 2 rfl rfl rfl rfl hl.1 rfl (Nat.le_of_ble_eq_true rfl) dX3_addTurned_17 ⟨Nat.le_of_ble_eq_true rfl, Nat.le_of_ble_eq_true rfl⟩ (fun r_2 u0 H locs hw0 hP hD hS => ?_)
      have hw_3 : r_2 = (gf (p * 60 + (c1 - 1))) := hw0
      subst hw_3
      have hP : va_P N.1 vwCl [(ja, .inr (3, [.ref jj, .int (nI rr.length)])), (jj, .inl (N.2 0, 180, .inl jl1)), (b, .inr (9, [.ref lw, .ref gw, .int (nI n)])), (lw, .inl (N.2 0, 5, .inl lf)), (gw, .inl (N.2 0, 300, .inl gf))] H := hP
      have hD : va_D Ag [(ja, .inr (3, [.ref jj, .int (nI rr.length)])), (jj, .inl (N.2 0, 180, .inl jl1)), (b, .inr (9, [.ref lw, .ref gw, .int (nI n)])), (lw, .inl (N.2 0, 5, .inl lf)), (gw, .inl (N.2 0, 300, .inl gf))] := hD
      refine ck_top (y := (nI ((w p).getD (c1 - 1) 0))) (hp4 (c1 - 1) (by omega)) ?_
      refine ck_Si (As := [.int (nI ((w p).getD (c1 - 1) 0))]) (rest := [.ref ja]) (wr := [(ja, .inr (3, [.ref jj, .int (nI rr.length)])), (jj, .inl (N.2 0, 180, .inl jl1)), (b, .inr (9, [.ref lw, .ref gw, .int (nI n)])), (lw, .inl (N.2 0, 5, .inl lf)), (gw, .inl (N.2 0, 300, .inl gf))]) C0 hP hD hS (c_X3_turned l N ((w p).getD (c1 - 1) 0) (L20_getD hp3 (by omega))) myX3_turned k3_45 ⟨Nat.le_of_ble_eq_true rfl, Nat.le_of_ble_eq_true rfl⟩ [] [0, 1, 2, 3, 4] ⟨⟨rfl, rfl⟩, by decide, by decide, by decide⟩ rfl hl.1 rfl (Nat.le_of_ble_eq_true rfl) dX3_addTurned_20 ⟨Nat.le_of_ble_eq_true rfl, Nat.le_of_ble_eq_true rfl⟩ (fun r_4 u0 H locs hw0 hP hD hS => ?_)
      have hw_5 : r_4 = (nI (ckT ((w p).getD (c1 - 1) 0))) := hw0
      subst hw_5
      have hP : va_P N.1 vwCl [(ja, .inr (3, [.ref jj, .int (nI rr.length)])), (jj, .inl (N.2 0, 180, .inl jl1)), (b, .inr (9, [.ref lw, .ref gw, .int (nI n)])), (lw, .inl (N.2 0, 5, .inl lf)), (gw, .inl (N.2 0, 300, .inl gf))] H := hP
      have hD : va_D Ag [(ja, .inr (3, [.ref jj, .int (nI rr.length)])), (jj, .inl (N.2 0, 180, .inl jl1)), (b, .inr (9, [.ref lw, .ref gw, .int (nI n)])), (lw, .inl (N.2 0, 5, .inl lf)), (gw, .inl (N.2 0, 300, .inl gf))] := hD
      refine ck_Vv (As := [.int (nI (ckT ((w p).getD (c1 - 1) 0)))]) (rest := []) (wr := [(b, .inr (9, [.ref lw, .ref gw, .int (nI n)])), (lw, .inl (N.2 0, 5, .inl lf)), (gw, .inl (N.2 0, 300, .inl gf))]) C0 hP hD hS (c_X3_add l N ja jj jl1 rr (ckT ((w p).getD (c1 - 1) 0)) hjr (by rw [hrr]; exact mul_lt h20 (L20_take (turnW_lt hp3) _)) (ckT_lt (L20_getD hp3 (by omega))) (by have := mul_len ((turnW (w p)).take ((w p).length - c1)) r; have := take_len (turnW (w p)) ((w p).length - c1); rw [hrr]; omega)) myX3_add k3_41 ⟨Nat.le_of_ble_eq_true rfl, Nat.le_of_ble_eq_true rfl⟩ [0, 1] [2, 3, 4] ⟨⟨rfl, rfl⟩, by decide, by decide, by decide⟩ 0 rfl rfl rfl rfl hl.1 rfl (Nat.le_of_ble_eq_true rfl) dX3_addTurned_23 ⟨Nat.le_of_ble_eq_true rfl, Nat.le_of_ble_eq_true rfl⟩ (fun u0 H locs hw0 hP hD hS => ?_)
      obtain ⟨jl2, rfl⟩ : ∃ z, z = u0 := ⟨_, rfl⟩
      have hw_7 : JR jl2 (push (ckT ((w p).getD (c1 - 1) 0)) rr) := hw0
      have hP : va_P N.1 vwCl [(b, .inr (9, [.ref lw, .ref gw, .int (nI n)])), (lw, .inl (N.2 0, 5, .inl lf)), (gw, .inl (N.2 0, 300, .inl gf)), (ja, .inr (3, [.ref jj, .int (nI ((push (ckT ((w p).getD (c1 - 1) 0)) rr).length))])), (jj, .inl (N.2 0, 180, .inl jl2))] H := hP
      have hD : va_D Ag [(b, .inr (9, [.ref lw, .ref gw, .int (nI n)])), (lw, .inl (N.2 0, 5, .inl lf)), (gw, .inl (N.2 0, 300, .inl gf)), (ja, .inr (3, [.ref jj, .int (nI ((push (ckT ((w p).getD (c1 - 1) 0)) rr).length))])), (jj, .inl (N.2 0, 180, .inl jl2))] := hD
      refine lv_iinc (v := ((nI (c1 - 1)) - (nI 1))) (lv' := [(3, .int ((nI (c1 - 1)) - (nI 1))), (0, .ref ja), (1, .ref b), (2, .int (nI p))]) hx hb dX3_addTurned_26 hl (k := 0) rfl (ck_dec (by omega)) (by decide) rfl (fun ls hl => ?_)
      refine lv_goto (tgt := 9) hx hb dX3_addTurned_29 (by decide) ?_
      exact ih_9 _ (by omega) (c1 - 1) (push (ckT ((w p).getD (c1 - 1) 0)) rr) jl2 rfl (by omega) (by rw [hrr, show (w p).length - (c1 - 1) = (w p).length - c1 + 1 by omega, mul_next (by rw [turnW_len]; omega), turnW_getD (by omega), show (w p).length - 1 - ((w p).length - c1) = c1 - 1 by omega]) hw_7 _ _ ls (hP.sub [3, 4, 0, 1, 2] rfl) (hD.sub [3, 4, 0, 1, 2] (by decide) rfl) hS hl
  exact lp_9 _ ((w p).length) r jl rfl (by omega) (by rw [Nat.sub_self]; rfl) hr _ _ ls hP hD hS hl
set_option maxHeartbeats 4000000 in
set_option maxRecDepth 100000 in
/-- X9_init -/
theorem c_X9_init (l : Launch) (N : ckN) (b : Nat)  : ckV l yX9_init cX9_init 1 none { frames := 2, cells := 2, slots := 305, locals := 60 } N [.ref b] [(b, .inr (9, [.null, .null, .int (nI 0)]))] (fun (u : Nat × Nat) => True) (fun (u : Nat × Nat) => [(b, .inr (9, [.ref u.1, .ref u.2, .int (nI 0)])), (u.1, .inl (N.2 0, 5, .inl (fun _ => 0))), (u.2, .inl (N.2 0, 300, .inl (fun _ => 0)))]) := by
  refine ckV.of (by decide) (Nat.le_of_ble_eq_true rfl) ?_
  intro pg eg sg mg blw mth cg Ag ls hx hb hrt hml hown hlk hin hg hE hA hP hD hS hl
  have hown : sg.vm.findClass RX9 = some mg.cls := hown
  have hl : lv_has ls 1 [(0, .ref b)] := hl
  have C0 : ckC pg sg mg ([.ref b]).toArray cg cX9_init 1 RX9 N Ag := ⟨⟨hx, hb, hml, hown, hg⟩, hE, hA⟩
  generalize hHe : sg.heap = H at hP
  have hS : va_S Ag sg.heap H [] := hHe ▸ hS
  refine lv_aload_n hx hb dX9_init_0 rfl (lv_at hl 0 rfl) ?_
  refine W.objInit hx hb hown (hg _ k1_90) (hg _ k1_22) (hg _ k1_23) rfl (by rw [hml]; exact hl.1) rfl dX9_init_1 (Nat.le_of_ble_eq_true rfl) (Nat.le_of_ble_eq_true rfl) ?_
  refine W.eq (g2 := F0 mg 4 ls []) rfl ?_
  refine lv_aload_n hx hb dX9_init_4 rfl (lv_at hl 0 rfl) ?_
  refine lv_iconst (v := (nI 5)) hx hb dX9_init_5 (by decide) ?_
  refine ck_newa (n := 5) hx hb (hg _ k1_51) hE hP hD hS hA (by decide) (by decide) (Nat.le_of_ble_eq_true rfl) (Nat.le_of_ble_eq_true rfl) dX9_init_6 (fun q_1 H hP hD hS => ?_)
  have hP : va_P N.1 vwCl [(b, .inr (9, [.null, .null, .int (nI 0)])), (q_1, .inl (N.2 0, 5, .inl (fun _ => 0)))] H := hP
  have hD : va_D Ag [(b, .inr (9, [.null, .null, .int (nI 0)])), (q_1, .inl (N.2 0, 5, .inl (fun _ => 0)))] := hD
  refine va_putF (ci := 9) (v := .ref q_1) (C := RX9) (T := TX9) (N := 3) hx hb hg inX9 tyX9 tyX9_ok nmX9 hown hE.1 hP hD hS 0 rfl rfl 0 (by decide) (hg _ k1_91) (fun _ h9 => h9) rfl hin rfl (tyX9_ok 0 (by decide)) rfl rfl (Nat.le_of_ble_eq_true rfl) dX9_init_8 (fun H locs hP hD hS => ?_)
  have hP : va_P N.1 vwCl [(b, .inr (9, [.ref q_1, .null, .int (nI 0)])), (q_1, .inl (N.2 0, 5, .inl (fun _ => 0)))] H := hP
  have hD : va_D Ag [(b, .inr (9, [.ref q_1, .null, .int (nI 0)])), (q_1, .inl (N.2 0, 5, .inl (fun _ => 0)))] := hD
  refine lv_aload_n hx hb dX9_init_11 rfl (lv_at hl 0 rfl) ?_
  refine lv_sipush (v := (nI 300)) hx hb dX9_init_12 (by decide) ?_
  refine ck_newa (n := 300) hx hb (hg _ k1_51) hE hP hD hS hA (by decide) (by decide) (Nat.le_of_ble_eq_true rfl) (Nat.le_of_ble_eq_true rfl) dX9_init_15 (fun q_2 H hP hD hS => ?_)
  have hP : va_P N.1 vwCl [(b, .inr (9, [.ref q_1, .null, .int (nI 0)])), (q_1, .inl (N.2 0, 5, .inl (fun _ => 0))), (q_2, .inl (N.2 0, 300, .inl (fun _ => 0)))] H := hP
  have hD : va_D Ag [(b, .inr (9, [.ref q_1, .null, .int (nI 0)])), (q_1, .inl (N.2 0, 5, .inl (fun _ => 0))), (q_2, .inl (N.2 0, 300, .inl (fun _ => 0)))] := hD
  refine va_putF (ci := 9) (v := .ref q_2) (C := RX9) (T := TX9) (N := 3) hx hb hg inX9 tyX9 tyX9_ok nmX9 hown hE.1 hP hD hS 0 rfl rfl 1 (by decide) (hg _ k1_94) (fun _ h9 => h9) rfl hin rfl (tyX9_ok 1 (by decide)) rfl rfl (Nat.le_of_ble_eq_true rfl) dX9_init_17 (fun H locs hP hD hS => ?_)
  have hP : va_P N.1 vwCl [(b, .inr (9, [.ref q_1, .ref q_2, .int (nI 0)])), (q_1, .inl (N.2 0, 5, .inl (fun _ => 0))), (q_2, .inl (N.2 0, 300, .inl (fun _ => 0)))] H := hP
  have hD : va_D Ag [(b, .inr (9, [.ref q_1, .ref q_2, .int (nI 0)])), (q_1, .inl (N.2 0, 5, .inl (fun _ => 0))), (q_2, .inl (N.2 0, 300, .inl (fun _ => 0)))] := hD
  exact ck_vret hx hb hrt hlk ⟨q_1, q_2⟩ trivial hP hD hS ⟨Nat.le_of_ble_eq_true rfl, Nat.le_of_ble_eq_true rfl⟩ dX9_init_20
set_option maxHeartbeats 4000000 in
set_option maxRecDepth 100000 in
/-- X9_begin -/
theorem c_X9_begin (l : Launch) (N : ckN) (b : Nat) (lw : Nat) (gw : Nat) (lf : Nat → Int32) (gf : Nat → Int32) (n : Nat) (n2 : Nat) (h5 : n2 ≤ 5) : ckV l yX9_begin cX9_begin 3 none { frames := 2, cells := 0, slots := 0, locals := 60 } N [.ref b, .int (nI n2)] [(b, .inr (9, [.ref lw, .ref gw, .int (nI n)])), (lw, .inl (N.2 0, 5, .inl lf)), (gw, .inl (N.2 0, 300, .inl gf))] (fun (u : (Nat → Int32) × (Nat → Int32)) => ckWd u.1 u.2 n2 first0) (fun (u : (Nat → Int32) × (Nat → Int32)) => [(b, .inr (9, [.ref lw, .ref gw, .int (nI n2)])), (lw, .inl (N.2 0, 5, .inl u.1)), (gw, .inl (N.2 0, 300, .inl u.2))]) := by
  refine ckV.of (by decide) (Nat.le_of_ble_eq_true rfl) ?_
  intro pg eg sg mg blw mth cg Ag ls hx hb hrt hml hown hlk hin hg hE hA hP hD hS hl
  have hown : sg.vm.findClass RX9 = some mg.cls := hown
  have hl : lv_has ls 3 [(0, .ref b), (1, .int (nI n2))] := hl
  have C0 : ckC pg sg mg ([.ref b, .int (nI n2)]).toArray cg cX9_begin 3 RX9 N Ag := ⟨⟨hx, hb, hml, hown, hg⟩, hE, hA⟩
  generalize hHe : sg.heap = H at hP
  have hS : va_S Ag sg.heap H [] := hHe ▸ hS
  refine lv_aload_n hx hb dX9_begin_0 rfl (lv_at hl 0 rfl) ?_
  refine lv_iload_n hx hb dX9_begin_1 rfl (lv_at hl 1 rfl) ?_
  refine va_put (ci := 9) (v := .int (nI n2)) (C := RX9) (T := TX9) (N := 3) hx hb hg inX9 tyX9 tyX9_ok nmX9 hown hE.1 hP hD hS 0 rfl rfl 2 (by decide) (hg _ k1_95) (fun _ h9 => h9) rfl (tyX9_ok 2 (by decide)) rfl rfl (Nat.le_of_ble_eq_true rfl) dX9_begin_2 (fun H locs hP hD hS => ?_)
  have hP : va_P N.1 vwCl [(b, .inr (9, [.ref lw, .ref gw, .int (nI n2)])), (lw, .inl (N.2 0, 5, .inl lf)), (gw, .inl (N.2 0, 300, .inl gf))] H := hP
  have hD : va_D Ag [(b, .inr (9, [.ref lw, .ref gw, .int (nI n2)])), (lw, .inl (N.2 0, 5, .inl lf)), (gw, .inl (N.2 0, 300, .inl gf))] := hD
  refine lv_iconst (v := (nI 0)) hx hb dX9_begin_5 (by decide) ?_
  refine lv_istore_n (lv' := [(2, .int (nI 0)), (0, .ref b), (1, .int (nI n2))]) hx hb dX9_begin_6 rfl hl (by decide) rfl (fun ls hl => ?_)
  have lp_7 : ∀ (dz : Nat) (k : Nat) (lf1 : Nat → Int32) (gf1 : Nat → Int32) (hdz : n2 - k = dz) (hk : k ≤ n2) (hz : ckWd lf1 gf1 k first0) (H : Heap) (locs : List Loc) (ls : Array Slot), va_P N.1 vwCl [(b, .inr (9, [.ref lw, .ref gw, .int (nI n2)])), (lw, .inl (N.2 0, 5, .inl lf1)), (gw, .inl (N.2 0, 300, .inl gf1))] H → va_D Ag [(b, .inr (9, [.ref lw, .ref gw, .int (nI n2)])), (lw, .inl (N.2 0, 5, .inl lf1)), (gw, .inl (N.2 0, 300, .inl gf1))] → va_S Ag sg.heap H locs → lv_has ls 3 [(2, .int (nI k)), (0, .ref b), (1, .int (nI n2))] → W pg l eg { frames := 2, cells := 0, slots := 0, locals := 60 } sg mg ([.ref b, .int (nI n2)]).toArray blw mth cg H locs 0 0 (ckQv N Ag blw sg ([.ref b, .int (nI n2)]).toArray { frames := 2, cells := 0, slots := 0, locals := 60 } (fun (u : (Nat → Int32) × (Nat → Int32)) => ckWd u.1 u.2 n2 first0) (fun (u : (Nat → Int32) × (Nat → Int32)) => [(b, .inr (9, [.ref lw, .ref gw, .int (nI n2)])), (lw, .inl (N.2 0, 5, .inl u.1)), (gw, .inl (N.2 0, 300, .inl u.2))])) (F0 mg 7 ls []) := by
    intro dz
    induction dz using Nat.strongRecOn with
    | _ dz ih_7 =>
      intro k lf1 gf1 hdz hk hz H locs ls hP hD hS hl
      subst hdz
      refine lv_iload_n hx hb dX9_begin_7 rfl (lv_at hl 0 rfl) ?_
      refine lv_iload_n hx hb dX9_begin_8 rfl (lv_at hl 2 rfl) ?_
      refine ck_ic_ge (tgt := 35) hx hb dX9_begin_9 (by decide) (by omega) (by omega) (fun cz_1 => ?_) (fun cz_1 => ?_)
      · exact ck_vret hx hb hrt hlk ⟨lf1, gf1⟩ (fun p hp => hz p (by omega)) hP hD hS ⟨Nat.le_of_ble_eq_true rfl, Nat.le_of_ble_eq_true rfl⟩ dX9_begin_35
      refine lv_aload_n hx hb dX9_begin_12 rfl (lv_at hl 1 rfl) ?_
      refine va_get (ci := 9) (v := .ref lw) (C := RX9) (T := TX9) (N := 3) hx hb hg inX9 hown hE.1 hP 0 rfl rfl 0 (by decide) (hg _ k1_91) (fun _ h9 => h9) rfl dX9_begin_13 ?_
      refine lv_iload_n hx hb dX9_begin_16 rfl (lv_at hl 0 rfl) ?_
      refine lv_iconst (v := (nI 1)) hx hb dX9_begin_17 (by decide) ?_
      refine ck_iast hx hb hE hP hD hS 1 rfl (by omega) (by decide) dX9_begin_18 (ws1 := [(b, .inr (9, [.ref lw, .ref gw, .int (nI n2)])), (lw, .inl (N.2 0, 5, .inl (upd lf1 k (nI 1)))), (gw, .inl (N.2 0, 300, .inl gf1))]) rfl (fun H locs hP hD hS => ?_)
      refine lv_aload_n hx hb dX9_begin_19 rfl (lv_at hl 1 rfl) ?_
      refine va_get (ci := 9) (v := .ref gw) (C := RX9) (T := TX9) (N := 3) hx hb hg inX9 hown hE.1 hP 0 rfl rfl 1 (by decide) (hg _ k1_94) (fun _ h9 => h9) rfl dX9_begin_20 ?_
      refine lv_iload_n hx hb dX9_begin_23 rfl (lv_at hl 0 rfl) ?_
      refine lv_bipush (v := (nI 60)) hx hb dX9_begin_24 (by decide) ?_
      refine lv_imul hx hb dX9_begin_26 ?_
      refine ck_top (y := (nI (k * 60))) (pk_mul _ _) ?_
      refine lv_iload_n hx hb dX9_begin_27 rfl (lv_at hl 0 rfl) ?_
      refine ck_iast hx hb hE hP hD hS 2 rfl (by omega) (by decide) dX9_begin_28 (ws1 := [(b, .inr (9, [.ref lw, .ref gw, .int (nI n2)])), (lw, .inl (N.2 0, 5, .inl (upd lf1 k (nI 1)))), (gw, .inl (N.2 0, 300, .inl (upd gf1 (k * 60) (nI k))))]) rfl (fun H locs hP hD hS => ?_)
      refine lv_iinc (v := (nI (k + 1))) (lv' := [(2, .int (nI (k + 1))), (0, .ref b), (1, .int (nI n2))]) hx hb dX9_begin_29 hl (k := 0) rfl (nI_1 _) (by decide) rfl (fun ls hl => ?_)
      refine lv_goto (tgt := 7) hx hb dX9_begin_32 (by decide) ?_
      exact ih_7 _ (by omega) (k + 1) (upd lf1 k (nI 1)) (upd gf1 (k * 60) (nI k)) rfl (by omega) (ckWd_first hz (by omega)) _ _ ls hP hD hS hl
  exact lp_7 _ 0 lf gf rfl (by omega) (fun p hp => absurd hp (Nat.not_lt_zero p)) _ _ ls hP hD hS hl
set_option maxHeartbeats 4000000 in
set_option maxRecDepth 100000 in
/-- X9_setWord -/
theorem c_X9_setWord (l : Launch) (N : ckN) (b : Nat) (lw : Nat) (gw : Nat) (lf : Nat → Int32) (gf : Nat → Int32) (n : Nat) (p : Nat) (sa : Nat) (sn : Nat) (sf : Nat → Int32) (fm : Nat) (ln : Nat) (hp : p < 5) (hl : ln ≤ 60) (hf : fm + ln ≤ sn) (hf2 : fm < 2 ^ 31) : ckV l yX9_setWord cX9_setWord 5 none { frames := 2, cells := 0, slots := 0, locals := 60 } N [.ref b, .int (nI p), .ref sa, .int (nI fm), .int (nI ln)] [(b, .inr (9, [.ref lw, .ref gw, .int (nI n)])), (lw, .inl (N.2 0, 5, .inl lf)), (gw, .inl (N.2 0, 300, .inl gf)), (sa, .inl (N.2 0, sn, .inl sf))] (fun (u : Unit) => True) (fun (u : Unit) => [(b, .inr (9, [.ref lw, .ref gw, .int (nI n)])), (lw, .inl (N.2 0, 5, .inl (upd lf p (nI ln)))), (gw, .inl (N.2 0, 300, .inl (va_cpy sf gf fm (p * 60) ln))), (sa, .inl (N.2 0, sn, .inl sf))]) := by
  refine ckV.of (by decide) (Nat.le_of_ble_eq_true rfl) ?_
  intro pg eg sg mg blw mth cg Ag ls hx hb hrt hml hown hlk hin hg hE hA hP hD hS hl
  have hown : sg.vm.findClass RX9 = some mg.cls := hown
  have hl : lv_has ls 5 [(0, .ref b), (1, .int (nI p)), (2, .ref sa), (3, .int (nI fm)), (4, .int (nI ln))] := hl
  have C0 : ckC pg sg mg ([.ref b, .int (nI p), .ref sa, .int (nI fm), .int (nI ln)]).toArray cg cX9_setWord 5 RX9 N Ag := ⟨⟨hx, hb, hml, hown, hg⟩, hE, hA⟩
  generalize hHe : sg.heap = H at hP
  have hS : va_S Ag sg.heap H [] := hHe ▸ hS
  refine lv_aload_n hx hb dX9_setWord_0 rfl (lv_at hl 2 rfl) ?_
  refine lv_iload_n hx hb dX9_setWord_1 rfl (lv_at hl 3 rfl) ?_
  refine lv_aload_n hx hb dX9_setWord_2 rfl (lv_at hl 0 rfl) ?_
  refine va_get (ci := 9) (v := .ref gw) (C := RX9) (T := TX9) (N := 3) hx hb hg inX9 hown hE.1 hP 0 rfl rfl 1 (by decide) (hg _ k1_94) (fun _ h9 => h9) rfl dX9_setWord_3 ?_
  refine lv_iload_n hx hb dX9_setWord_6 rfl (lv_at hl 1 rfl) ?_
  refine lv_bipush (v := (nI 60)) hx hb dX9_setWord_7 (by decide) ?_
  refine lv_imul hx hb dX9_setWord_9 ?_
  refine ck_top (y := (nI (p * 60))) (pk_mul _ _) ?_
  refine lv_iload hx hb dX9_setWord_10 (lv_at hl 4 rfl) ?_
  refine ck_copy hx hb (by rw [hml]; exact hl.1.symm) hown (hg _ k2_70) (hg _ k2_52) (hg _ k2_51) (hg _ k1_13) hE hP hD hS 3 2 rfl rfl (by omega) (by omega) ⟨by omega, by omega, by omega⟩ (Nat.le_of_ble_eq_true rfl) (Nat.le_of_ble_eq_true rfl) dX9_setWord_12 (ws1 := [(b, .inr (9, [.ref lw, .ref gw, .int (nI n)])), (lw, .inl (N.2 0, 5, .inl lf)), (gw, .inl (N.2 0, 300, .inl (va_cpy sf gf fm (p * 60) ln))), (sa, .inl (N.2 0, sn, .inl sf))]) rfl (fun H locs hP hD hS => ?_)
  refine lv_aload_n hx hb dX9_setWord_15 rfl (lv_at hl 0 rfl) ?_
  refine va_get (ci := 9) (v := .ref lw) (C := RX9) (T := TX9) (N := 3) hx hb hg inX9 hown hE.1 hP 0 rfl rfl 0 (by decide) (hg _ k1_91) (fun _ h9 => h9) rfl dX9_setWord_16 ?_
  refine lv_iload_n hx hb dX9_setWord_19 rfl (lv_at hl 1 rfl) ?_
  refine lv_iload hx hb dX9_setWord_20 (lv_at hl 4 rfl) ?_
  refine ck_iast hx hb hE hP hD hS 1 rfl (by omega) (by decide) dX9_setWord_22 (ws1 := [(b, .inr (9, [.ref lw, .ref gw, .int (nI n)])), (lw, .inl (N.2 0, 5, .inl (upd lf p (nI ln)))), (gw, .inl (N.2 0, 300, .inl (va_cpy sf gf fm (p * 60) ln))), (sa, .inl (N.2 0, sn, .inl sf))]) rfl (fun H locs hP hD hS => ?_)
  exact ck_vret hx hb hrt hlk () trivial hP hD hS ⟨Nat.le_of_ble_eq_true rfl, Nat.le_of_ble_eq_true rfl⟩ dX9_setWord_23
set_option maxHeartbeats 4000000 in
set_option maxRecDepth 100000 in
/-- X9_setWord -/
theorem c_X9_setWord_s (l : Launch) (N : ckN) (b : Nat) (lw : Nat) (gw : Nat) (lf : Nat → Int32) (gf : Nat → Int32) (n : Nat) (p : Nat) (fm : Nat) (ln : Nat) (hp : p < 5) (hl : ln ≤ 60) (hf : fm + ln ≤ 300) (hf2 : fm < 2 ^ 31) : ckV l yX9_setWord cX9_setWord 5 none { frames := 2, cells := 0, slots := 0, locals := 60 } N [.ref b, .int (nI p), .ref gw, .int (nI fm), .int (nI ln)] [(b, .inr (9, [.ref lw, .ref gw, .int (nI n)])), (lw, .inl (N.2 0, 5, .inl lf)), (gw, .inl (N.2 0, 300, .inl gf))] (fun (u : Unit) => True) (fun (u : Unit) => [(b, .inr (9, [.ref lw, .ref gw, .int (nI n)])), (lw, .inl (N.2 0, 5, .inl (upd lf p (nI ln)))), (gw, .inl (N.2 0, 300, .inl (va_cpy gf gf fm (p * 60) ln)))]) := by
  refine ckV.of (by decide) (Nat.le_of_ble_eq_true rfl) ?_
  intro pg eg sg mg blw mth cg Ag ls hx hb hrt hml hown hlk hin hg hE hA hP hD hS hl
  have hown : sg.vm.findClass RX9 = some mg.cls := hown
  have hl : lv_has ls 5 [(0, .ref b), (1, .int (nI p)), (2, .ref gw), (3, .int (nI fm)), (4, .int (nI ln))] := hl
  have C0 : ckC pg sg mg ([.ref b, .int (nI p), .ref gw, .int (nI fm), .int (nI ln)]).toArray cg cX9_setWord 5 RX9 N Ag := ⟨⟨hx, hb, hml, hown, hg⟩, hE, hA⟩
  generalize hHe : sg.heap = H at hP
  have hS : va_S Ag sg.heap H [] := hHe ▸ hS
  refine lv_aload_n hx hb dX9_setWord_0 rfl (lv_at hl 2 rfl) ?_
  refine lv_iload_n hx hb dX9_setWord_1 rfl (lv_at hl 3 rfl) ?_
  refine lv_aload_n hx hb dX9_setWord_2 rfl (lv_at hl 0 rfl) ?_
  refine va_get (ci := 9) (v := .ref gw) (C := RX9) (T := TX9) (N := 3) hx hb hg inX9 hown hE.1 hP 0 rfl rfl 1 (by decide) (hg _ k1_94) (fun _ h9 => h9) rfl dX9_setWord_3 ?_
  refine lv_iload_n hx hb dX9_setWord_6 rfl (lv_at hl 1 rfl) ?_
  refine lv_bipush (v := (nI 60)) hx hb dX9_setWord_7 (by decide) ?_
  refine lv_imul hx hb dX9_setWord_9 ?_
  refine ck_top (y := (nI (p * 60))) (pk_mul _ _) ?_
  refine lv_iload hx hb dX9_setWord_10 (lv_at hl 4 rfl) ?_
  refine ck_copy hx hb (by rw [hml]; exact hl.1.symm) hown (hg _ k2_70) (hg _ k2_52) (hg _ k2_51) (hg _ k1_13) hE hP hD hS 2 2 rfl rfl (by omega) (by omega) ⟨by omega, by omega, by omega⟩ (Nat.le_of_ble_eq_true rfl) (Nat.le_of_ble_eq_true rfl) dX9_setWord_12 (ws1 := [(b, .inr (9, [.ref lw, .ref gw, .int (nI n)])), (lw, .inl (N.2 0, 5, .inl lf)), (gw, .inl (N.2 0, 300, .inl (va_cpy gf gf fm (p * 60) ln)))]) rfl (fun H locs hP hD hS => ?_)
  refine lv_aload_n hx hb dX9_setWord_15 rfl (lv_at hl 0 rfl) ?_
  refine va_get (ci := 9) (v := .ref lw) (C := RX9) (T := TX9) (N := 3) hx hb hg inX9 hown hE.1 hP 0 rfl rfl 0 (by decide) (hg _ k1_91) (fun _ h9 => h9) rfl dX9_setWord_16 ?_
  refine lv_iload_n hx hb dX9_setWord_19 rfl (lv_at hl 1 rfl) ?_
  refine lv_iload hx hb dX9_setWord_20 (lv_at hl 4 rfl) ?_
  refine ck_iast hx hb hE hP hD hS 1 rfl (by omega) (by decide) dX9_setWord_22 (ws1 := [(b, .inr (9, [.ref lw, .ref gw, .int (nI n)])), (lw, .inl (N.2 0, 5, .inl (upd lf p (nI ln)))), (gw, .inl (N.2 0, 300, .inl (va_cpy gf gf fm (p * 60) ln)))]) rfl (fun H locs hP hD hS => ?_)
  exact ck_vret hx hb hrt hlk () trivial hP hD hS ⟨Nat.le_of_ble_eq_true rfl, Nat.le_of_ble_eq_true rfl⟩ dX9_setWord_23
set_option maxHeartbeats 4000000 in
set_option maxRecDepth 100000 in
/-- X9_canPass -/
theorem c_X9_canPass (l : Launch) (N : ckN) (ja : Nat) (jj : Nat) (jl : Nat → Int32) (b : Nat) (lw : Nat) (gw : Nat) (lf : Nat → Int32) (gf : Nat → Int32) (n : Nat) (jn : Int32) (w : Nat → List Nat) (p : Nat) (fr : Bool) (hw : ckWd lf gf n w) (hp : p + 1 < n) (hn : n ≤ 5) : ckI l yX9_canPass cX9_canPass 4 (some FieldType.boolean) { frames := 5, cells := 0, slots := 0, locals := 124 } N [.ref b, .int (nI p), .int (b2i fr), .ref ja] [(b, .inr (9, [.ref lw, .ref gw, .int (nI n)])), (lw, .inl (N.2 0, 5, .inl lf)), (gw, .inl (N.2 0, 300, .inl gf)), (ja, .inr (3, [.ref jj, .int jn])), (jj, .inl (N.2 0, 180, .inl jl))] (fun (r : Int32) (u : (Nat → Int32)) => (r = (b2i (ckOk w p fr))) ∧ (JR u (ckNew (w p) (w (p + 1)) fr))) (fun (u : (Nat → Int32)) => [(b, .inr (9, [.ref lw, .ref gw, .int (nI n)])), (lw, .inl (N.2 0, 5, .inl lf)), (gw, .inl (N.2 0, 300, .inl gf)), (ja, .inr (3, [.ref jj, .int (nI ((ckNew (w p) (w (p + 1)) fr).length))])), (jj, .inl (N.2 0, 180, .inl u))]) := by
  refine ckI.of (by decide) (Nat.le_of_ble_eq_true rfl) ?_
  intro pg eg sg mg blw mth cg Ag ls hx hb hrt hml hown hlk hin hg hE hA hP hD hS hl
  have hown : sg.vm.findClass RX9 = some mg.cls := hown
  have hl : lv_has ls 4 [(0, .ref b), (1, .int (nI p)), (2, .int (b2i fr)), (3, .ref ja)] := hl
  have C0 : ckC pg sg mg ([.ref b, .int (nI p), .int (b2i fr), .ref ja]).toArray cg cX9_canPass 4 RX9 N Ag := ⟨⟨hx, hb, hml, hown, hg⟩, hE, hA⟩
  generalize hHe : sg.heap = H at hP
  have hS : va_S Ag sg.heap H [] := hHe ▸ hS
  refine lv_aload_n hx hb dX9_canPass_0 rfl (lv_at hl 3 rfl) ?_
  refine ck_Vv (As := []) (rest := []) (wr := [(b, .inr (9, [.ref lw, .ref gw, .int (nI n)])), (lw, .inl (N.2 0, 5, .inl lf)), (gw, .inl (N.2 0, 300, .inl gf))]) C0 hP hD hS (c_X3_begin l N ja jj jl jn ) myX3_begin k3_29 ⟨Nat.le_of_ble_eq_true rfl, Nat.le_of_ble_eq_true rfl⟩ [3, 4] [0, 1, 2] ⟨⟨rfl, rfl⟩, by decide, by decide, by decide⟩ 3 rfl rfl rfl rfl hl.1 rfl (Nat.le_of_ble_eq_true rfl) dX9_canPass_1 ⟨Nat.le_of_ble_eq_true rfl, Nat.le_of_ble_eq_true rfl⟩ (fun u0 H locs hw0 hP hD hS => ?_)
  have hP : va_P N.1 vwCl [(b, .inr (9, [.ref lw, .ref gw, .int (nI n)])), (lw, .inl (N.2 0, 5, .inl lf)), (gw, .inl (N.2 0, 300, .inl gf)), (ja, .inr (3, [.ref jj, .int (nI 0)])), (jj, .inl (N.2 0, 180, .inl jl))] H := hP
  have hD : va_D Ag [(b, .inr (9, [.ref lw, .ref gw, .int (nI n)])), (lw, .inl (N.2 0, 5, .inl lf)), (gw, .inl (N.2 0, 300, .inl gf)), (ja, .inr (3, [.ref jj, .int (nI 0)])), (jj, .inl (N.2 0, 180, .inl jl))] := hD
  refine lv_iload_n hx hb dX9_canPass_4 rfl (lv_at hl 2 rfl) ?_
  refine ck_ifeq (b := fr) (tgt := 31) hx hb dX9_canPass_5 (by decide) (fun cz_3 => ?_) (fun cz_3 => ?_)
  · subst cz_3
    refine lv_aload_n hx hb dX9_canPass_31 rfl (lv_at hl 3 rfl) ?_
    refine lv_aload_n hx hb dX9_canPass_32 rfl (lv_at hl 0 rfl) ?_
    refine lv_iload_n hx hb dX9_canPass_33 rfl (lv_at hl 1 rfl) ?_
    refine lv_iconst (v := (nI 1)) hx hb dX9_canPass_34 (by decide) ?_
    refine lv_iadd hx hb dX9_canPass_35 ?_
    refine ck_top (y := (nI (p + 1))) (nI_add _ _) ?_
    refine ck_Vv (As := [.ref b, .int (nI (p + 1))]) (rest := []) (wr := []) C0 hP hD hS (c_X3_addTurned l N ja jj jl b lw gw lf gf n ([]) w (p + 1) JR_nil L20_nil hw (by omega) (by omega) (by have q1 := (hw (p + 1) (by omega)).2.1; show 0 + (w (p + 1)).length ≤ 180; omega)) myX3_addTurned k3_48 ⟨Nat.le_of_ble_eq_true rfl, Nat.le_of_ble_eq_true rfl⟩ [3, 4, 0, 1, 2] [] ⟨⟨rfl, rfl⟩, by decide, by decide, by decide⟩ 3 rfl rfl rfl rfl hl.1 rfl (Nat.le_of_ble_eq_true rfl) dX9_canPass_36 ⟨Nat.le_of_ble_eq_true rfl, Nat.le_of_ble_eq_true rfl⟩ (fun u0 H locs hw0 hP hD hS => ?_)
    obtain ⟨jl_a, rfl⟩ : ∃ z, z = u0 := ⟨_, rfl⟩
    have hw_5 : JR jl_a (mul ([]) (turnW (w (p + 1)))) := hw0
    have hP : va_P N.1 vwCl [(ja, .inr (3, [.ref jj, .int (nI ((mul ([]) (turnW (w (p + 1)))).length))])), (jj, .inl (N.2 0, 180, .inl jl_a)), (b, .inr (9, [.ref lw, .ref gw, .int (nI n)])), (lw, .inl (N.2 0, 5, .inl lf)), (gw, .inl (N.2 0, 300, .inl gf))] H := hP
    have hD : va_D Ag [(ja, .inr (3, [.ref jj, .int (nI ((mul ([]) (turnW (w (p + 1)))).length))])), (jj, .inl (N.2 0, 180, .inl jl_a)), (b, .inr (9, [.ref lw, .ref gw, .int (nI n)])), (lw, .inl (N.2 0, 5, .inl lf)), (gw, .inl (N.2 0, 300, .inl gf))] := hD
    have hj1 := hw_5
    refine lv_aload_n hx hb dX9_canPass_39 rfl (lv_at hl 3 rfl) ?_
    refine lv_aload_n hx hb dX9_canPass_40 rfl (lv_at hl 0 rfl) ?_
    refine lv_iload_n hx hb dX9_canPass_41 rfl (lv_at hl 1 rfl) ?_
    refine ck_Vv (As := [.ref b, .int (nI p)]) (rest := []) (wr := []) C0 hP hD hS (c_X3_addWord l N ja jj jl_a b lw gw lf gf n (mul [] (turnW (w (p + 1)))) w p hj1 (mul_lt L20_nil (turnW_lt (hw (p + 1) (by omega)).2.2.1)) hw (by omega) (by omega) (by have q1 := (hw p (by omega)).2.1; have q2 := (hw (p + 1) (by omega)).2.1; have z1 := mul_len (turnW (w (p + 1))) []; rw [List.length_nil, turnW_len] at z1; omega)) myX3_addWord k3_33 ⟨Nat.le_of_ble_eq_true rfl, Nat.le_of_ble_eq_true rfl⟩ [0, 1, 2, 3, 4] [] ⟨⟨rfl, rfl⟩, by decide, by decide, by decide⟩ 0 rfl rfl rfl rfl hl.1 rfl (Nat.le_of_ble_eq_true rfl) dX9_canPass_42 ⟨Nat.le_of_ble_eq_true rfl, Nat.le_of_ble_eq_true rfl⟩ (fun u0 H locs hw0 hP hD hS => ?_)
    obtain ⟨jl_b, rfl⟩ : ∃ z, z = u0 := ⟨_, rfl⟩
    have hw_7 : JR jl_b (mul (mul [] (turnW (w (p + 1)))) (w p)) := hw0
    have hP : va_P N.1 vwCl [(ja, .inr (3, [.ref jj, .int (nI ((mul (mul [] (turnW (w (p + 1)))) (w p)).length))])), (jj, .inl (N.2 0, 180, .inl jl_b)), (b, .inr (9, [.ref lw, .ref gw, .int (nI n)])), (lw, .inl (N.2 0, 5, .inl lf)), (gw, .inl (N.2 0, 300, .inl gf))] H := hP
    have hD : va_D Ag [(ja, .inr (3, [.ref jj, .int (nI ((mul (mul [] (turnW (w (p + 1)))) (w p)).length))])), (jj, .inl (N.2 0, 180, .inl jl_b)), (b, .inr (9, [.ref lw, .ref gw, .int (nI n)])), (lw, .inl (N.2 0, 5, .inl lf)), (gw, .inl (N.2 0, 300, .inl gf))] := hD
    have hj2 := hw_7
    refine lv_aload_n hx hb dX9_canPass_45 rfl (lv_at hl 3 rfl) ?_
    refine lv_aload_n hx hb dX9_canPass_46 rfl (lv_at hl 0 rfl) ?_
    refine lv_iload_n hx hb dX9_canPass_47 rfl (lv_at hl 1 rfl) ?_
    refine lv_iconst (v := (nI 1)) hx hb dX9_canPass_48 (by decide) ?_
    refine lv_iadd hx hb dX9_canPass_49 ?_
    refine ck_top (y := (nI (p + 1))) (nI_add _ _) ?_
    refine ck_Vv (As := [.ref b, .int (nI (p + 1))]) (rest := []) (wr := []) C0 hP hD hS (c_X3_addWord l N ja jj jl_b b lw gw lf gf n (mul (mul [] (turnW (w (p + 1)))) (w p)) w (p + 1) hj2 (mul_lt (mul_lt L20_nil (turnW_lt (hw (p + 1) (by omega)).2.2.1)) (hw p (by omega)).2.2.1) hw (by omega) (by omega) (by have q1 := (hw p (by omega)).2.1; have q2 := (hw (p + 1) (by omega)).2.1; have z1 := mul_len (turnW (w (p + 1))) []; have z2 := mul_len (w p) (mul [] (turnW (w (p + 1)))); rw [List.length_nil, turnW_len] at z1; omega)) myX3_addWord k3_33 ⟨Nat.le_of_ble_eq_true rfl, Nat.le_of_ble_eq_true rfl⟩ [0, 1, 2, 3, 4] [] ⟨⟨rfl, rfl⟩, by decide, by decide, by decide⟩ 0 rfl rfl rfl rfl hl.1 rfl (Nat.le_of_ble_eq_true rfl) dX9_canPass_50 ⟨Nat.le_of_ble_eq_true rfl, Nat.le_of_ble_eq_true rfl⟩ (fun u0 H locs hw0 hP hD hS => ?_)
    obtain ⟨jl_c, rfl⟩ : ∃ z, z = u0 := ⟨_, rfl⟩
    have hw_9 : JR jl_c (mul (mul (mul [] (turnW (w (p + 1)))) (w p)) (w (p + 1))) := hw0
    have hP : va_P N.1 vwCl [(ja, .inr (3, [.ref jj, .int (nI ((mul (mul (mul [] (turnW (w (p + 1)))) (w p)) (w (p + 1))).length))])), (jj, .inl (N.2 0, 180, .inl jl_c)), (b, .inr (9, [.ref lw, .ref gw, .int (nI n)])), (lw, .inl (N.2 0, 5, .inl lf)), (gw, .inl (N.2 0, 300, .inl gf))] H := hP
    have hD : va_D Ag [(ja, .inr (3, [.ref jj, .int (nI ((mul (mul (mul [] (turnW (w (p + 1)))) (w p)) (w (p + 1))).length))])), (jj, .inl (N.2 0, 180, .inl jl_c)), (b, .inr (9, [.ref lw, .ref gw, .int (nI n)])), (lw, .inl (N.2 0, 5, .inl lf)), (gw, .inl (N.2 0, 300, .inl gf))] := hD
    have hj3 := hw_9
    have hlen : (ckNew (w p) (w (p + 1)) false).length ≤ 3 * 60 := ckNew_len _ _ _ (hw p (by omega)).2.1 (hw (p + 1) (by omega)).2.1
    have hj3 : JR jl_c (ckNew (w p) (w (p + 1)) false) := hj3
    have hP : va_P N.1 vwCl [(ja, .inr (3, [.ref jj, .int (nI ((ckNew (w p) (w (p + 1)) false).length))])), (jj, .inl (N.2 0, 180, .inl jl_c)), (b, .inr (9, [.ref lw, .ref gw, .int (nI n)])), (lw, .inl (N.2 0, 5, .inl lf)), (gw, .inl (N.2 0, 300, .inl gf))] H := hP
    have hD : va_D Ag [(ja, .inr (3, [.ref jj, .int (nI ((ckNew (w p) (w (p + 1)) false).length))])), (jj, .inl (N.2 0, 180, .inl jl_c)), (b, .inr (9, [.ref lw, .ref gw, .int (nI n)])), (lw, .inl (N.2 0, 5, .inl lf)), (gw, .inl (N.2 0, 300, .inl gf))] := hD
    refine lv_aload_n hx hb dX9_canPass_53 rfl (lv_at hl 3 rfl) ?_
    refine va_getN (ci := 3) (v := .int (nI ((ckNew (w p) (w (p + 1)) false).length))) (C := RX3) (T := TX3) (N := 2) (host := "KiteMeet") hx hb hg inX3 hown hE.1 hP 0 rfl rfl 1 (by decide) (hE.nf 19 rfl _) (fun _ h9 => h9) rfl dX9_canPass_54 ?_
    refine lv_bipush (v := (nI 60)) hx hb dX9_canPass_57 (by decide) ?_
    refine ck_ic_gt (tgt := 66) hx hb dX9_canPass_59 (by decide) (by omega) (by omega) (fun cz_10 => ?_) (fun cz_10 => ?_)
    · refine lv_iconst (v := (nI 0)) hx hb dX9_canPass_66 (by decide) ?_
      refine ck_top (y := (b2i false)) (by decide) ?_
      exact ck_zret (b := false) hx hb hrt hlk (jl_c) ⟨congrArg b2i (Eq.symm (decide_eq_false (by omega))), hj3⟩ (hP.sub [2, 3, 4, 0, 1] rfl) (hD.sub [2, 3, 4, 0, 1] (by decide) rfl) hS ⟨Nat.le_of_ble_eq_true rfl, Nat.le_of_ble_eq_true rfl⟩ dX9_canPass_67
    refine lv_iconst (v := (nI 1)) hx hb dX9_canPass_62 (by decide) ?_
    refine lv_goto (tgt := 67) hx hb dX9_canPass_63 (by decide) ?_
    refine ck_top (y := (b2i true)) (by decide) ?_
    exact ck_zret (b := true) hx hb hrt hlk (jl_c) ⟨congrArg b2i (Eq.symm (decide_eq_true (by omega))), hj3⟩ (hP.sub [2, 3, 4, 0, 1] rfl) (hD.sub [2, 3, 4, 0, 1] (by decide) rfl) hS ⟨Nat.le_of_ble_eq_true rfl, Nat.le_of_ble_eq_true rfl⟩ dX9_canPass_67
  subst cz_3
  refine lv_aload_n hx hb dX9_canPass_8 rfl (lv_at hl 3 rfl) ?_
  refine lv_aload_n hx hb dX9_canPass_9 rfl (lv_at hl 0 rfl) ?_
  refine lv_iload_n hx hb dX9_canPass_10 rfl (lv_at hl 1 rfl) ?_
  refine ck_Vv (As := [.ref b, .int (nI p)]) (rest := []) (wr := []) C0 hP hD hS (c_X3_addWord l N ja jj jl b lw gw lf gf n ([]) w p JR_nil L20_nil hw (by omega) (by omega) (by have q1 := (hw p (by omega)).2.1; show 0 + (w p).length ≤ 180; omega)) myX3_addWord k3_33 ⟨Nat.le_of_ble_eq_true rfl, Nat.le_of_ble_eq_true rfl⟩ [3, 4, 0, 1, 2] [] ⟨⟨rfl, rfl⟩, by decide, by decide, by decide⟩ 3 rfl rfl rfl rfl hl.1 rfl (Nat.le_of_ble_eq_true rfl) dX9_canPass_11 ⟨Nat.le_of_ble_eq_true rfl, Nat.le_of_ble_eq_true rfl⟩ (fun u0 H locs hw0 hP hD hS => ?_)
  obtain ⟨jl_a, rfl⟩ : ∃ z, z = u0 := ⟨_, rfl⟩
  have hw_12 : JR jl_a (mul ([]) (w p)) := hw0
  have hP : va_P N.1 vwCl [(ja, .inr (3, [.ref jj, .int (nI ((mul ([]) (w p)).length))])), (jj, .inl (N.2 0, 180, .inl jl_a)), (b, .inr (9, [.ref lw, .ref gw, .int (nI n)])), (lw, .inl (N.2 0, 5, .inl lf)), (gw, .inl (N.2 0, 300, .inl gf))] H := hP
  have hD : va_D Ag [(ja, .inr (3, [.ref jj, .int (nI ((mul ([]) (w p)).length))])), (jj, .inl (N.2 0, 180, .inl jl_a)), (b, .inr (9, [.ref lw, .ref gw, .int (nI n)])), (lw, .inl (N.2 0, 5, .inl lf)), (gw, .inl (N.2 0, 300, .inl gf))] := hD
  have hj1 := hw_12
  refine lv_aload_n hx hb dX9_canPass_14 rfl (lv_at hl 3 rfl) ?_
  refine lv_aload_n hx hb dX9_canPass_15 rfl (lv_at hl 0 rfl) ?_
  refine lv_iload_n hx hb dX9_canPass_16 rfl (lv_at hl 1 rfl) ?_
  refine lv_iconst (v := (nI 1)) hx hb dX9_canPass_17 (by decide) ?_
  refine lv_iadd hx hb dX9_canPass_18 ?_
  refine ck_top (y := (nI (p + 1))) (nI_add _ _) ?_
  refine ck_Vv (As := [.ref b, .int (nI (p + 1))]) (rest := []) (wr := []) C0 hP hD hS (c_X3_addWord l N ja jj jl_a b lw gw lf gf n (mul [] (w p)) w (p + 1) hj1 (mul_lt L20_nil (hw p (by omega)).2.2.1) hw (by omega) (by omega) (by have q1 := (hw p (by omega)).2.1; have q2 := (hw (p + 1) (by omega)).2.1; have z1 := mul_len (w p) []; rw [List.length_nil] at z1; omega)) myX3_addWord k3_33 ⟨Nat.le_of_ble_eq_true rfl, Nat.le_of_ble_eq_true rfl⟩ [0, 1, 2, 3, 4] [] ⟨⟨rfl, rfl⟩, by decide, by decide, by decide⟩ 0 rfl rfl rfl rfl hl.1 rfl (Nat.le_of_ble_eq_true rfl) dX9_canPass_19 ⟨Nat.le_of_ble_eq_true rfl, Nat.le_of_ble_eq_true rfl⟩ (fun u0 H locs hw0 hP hD hS => ?_)
  obtain ⟨jl_b, rfl⟩ : ∃ z, z = u0 := ⟨_, rfl⟩
  have hw_14 : JR jl_b (mul (mul [] (w p)) (w (p + 1))) := hw0
  have hP : va_P N.1 vwCl [(ja, .inr (3, [.ref jj, .int (nI ((mul (mul [] (w p)) (w (p + 1))).length))])), (jj, .inl (N.2 0, 180, .inl jl_b)), (b, .inr (9, [.ref lw, .ref gw, .int (nI n)])), (lw, .inl (N.2 0, 5, .inl lf)), (gw, .inl (N.2 0, 300, .inl gf))] H := hP
  have hD : va_D Ag [(ja, .inr (3, [.ref jj, .int (nI ((mul (mul [] (w p)) (w (p + 1))).length))])), (jj, .inl (N.2 0, 180, .inl jl_b)), (b, .inr (9, [.ref lw, .ref gw, .int (nI n)])), (lw, .inl (N.2 0, 5, .inl lf)), (gw, .inl (N.2 0, 300, .inl gf))] := hD
  have hj2 := hw_14
  refine lv_aload_n hx hb dX9_canPass_22 rfl (lv_at hl 3 rfl) ?_
  refine lv_aload_n hx hb dX9_canPass_23 rfl (lv_at hl 0 rfl) ?_
  refine lv_iload_n hx hb dX9_canPass_24 rfl (lv_at hl 1 rfl) ?_
  refine ck_Vv (As := [.ref b, .int (nI p)]) (rest := []) (wr := []) C0 hP hD hS (c_X3_addTurned l N ja jj jl_b b lw gw lf gf n (mul (mul [] (w p)) (w (p + 1))) w p hj2 (mul_lt (mul_lt L20_nil (hw p (by omega)).2.2.1) (hw (p + 1) (by omega)).2.2.1) hw (by omega) (by omega) (by have q1 := (hw p (by omega)).2.1; have q2 := (hw (p + 1) (by omega)).2.1; have z1 := mul_len (w p) []; have z2 := mul_len (w (p + 1)) (mul [] (w p)); rw [List.length_nil] at z1; omega)) myX3_addTurned k3_48 ⟨Nat.le_of_ble_eq_true rfl, Nat.le_of_ble_eq_true rfl⟩ [0, 1, 2, 3, 4] [] ⟨⟨rfl, rfl⟩, by decide, by decide, by decide⟩ 0 rfl rfl rfl rfl hl.1 rfl (Nat.le_of_ble_eq_true rfl) dX9_canPass_25 ⟨Nat.le_of_ble_eq_true rfl, Nat.le_of_ble_eq_true rfl⟩ (fun u0 H locs hw0 hP hD hS => ?_)
  obtain ⟨jl_c, rfl⟩ : ∃ z, z = u0 := ⟨_, rfl⟩
  have hw_16 : JR jl_c (mul (mul (mul [] (w p)) (w (p + 1))) (turnW (w p))) := hw0
  have hP : va_P N.1 vwCl [(ja, .inr (3, [.ref jj, .int (nI ((mul (mul (mul [] (w p)) (w (p + 1))) (turnW (w p))).length))])), (jj, .inl (N.2 0, 180, .inl jl_c)), (b, .inr (9, [.ref lw, .ref gw, .int (nI n)])), (lw, .inl (N.2 0, 5, .inl lf)), (gw, .inl (N.2 0, 300, .inl gf))] H := hP
  have hD : va_D Ag [(ja, .inr (3, [.ref jj, .int (nI ((mul (mul (mul [] (w p)) (w (p + 1))) (turnW (w p))).length))])), (jj, .inl (N.2 0, 180, .inl jl_c)), (b, .inr (9, [.ref lw, .ref gw, .int (nI n)])), (lw, .inl (N.2 0, 5, .inl lf)), (gw, .inl (N.2 0, 300, .inl gf))] := hD
  have hj3 := hw_16
  refine lv_goto (tgt := 53) hx hb dX9_canPass_28 (by decide) ?_
  have hlen : (ckNew (w p) (w (p + 1)) true).length ≤ 3 * 60 := ckNew_len _ _ _ (hw p (by omega)).2.1 (hw (p + 1) (by omega)).2.1
  have hj3 : JR jl_c (ckNew (w p) (w (p + 1)) true) := hj3
  have hP : va_P N.1 vwCl [(ja, .inr (3, [.ref jj, .int (nI ((ckNew (w p) (w (p + 1)) true).length))])), (jj, .inl (N.2 0, 180, .inl jl_c)), (b, .inr (9, [.ref lw, .ref gw, .int (nI n)])), (lw, .inl (N.2 0, 5, .inl lf)), (gw, .inl (N.2 0, 300, .inl gf))] H := hP
  have hD : va_D Ag [(ja, .inr (3, [.ref jj, .int (nI ((ckNew (w p) (w (p + 1)) true).length))])), (jj, .inl (N.2 0, 180, .inl jl_c)), (b, .inr (9, [.ref lw, .ref gw, .int (nI n)])), (lw, .inl (N.2 0, 5, .inl lf)), (gw, .inl (N.2 0, 300, .inl gf))] := hD
  refine lv_aload_n hx hb dX9_canPass_53 rfl (lv_at hl 3 rfl) ?_
  refine va_getN (ci := 3) (v := .int (nI ((ckNew (w p) (w (p + 1)) true).length))) (C := RX3) (T := TX3) (N := 2) (host := "KiteMeet") hx hb hg inX3 hown hE.1 hP 0 rfl rfl 1 (by decide) (hE.nf 19 rfl _) (fun _ h9 => h9) rfl dX9_canPass_54 ?_
  refine lv_bipush (v := (nI 60)) hx hb dX9_canPass_57 (by decide) ?_
  refine ck_ic_gt (tgt := 66) hx hb dX9_canPass_59 (by decide) (by omega) (by omega) (fun cz_17 => ?_) (fun cz_17 => ?_)
  · refine lv_iconst (v := (nI 0)) hx hb dX9_canPass_66 (by decide) ?_
    refine ck_top (y := (b2i false)) (by decide) ?_
    exact ck_zret (b := false) hx hb hrt hlk (jl_c) ⟨congrArg b2i (Eq.symm (decide_eq_false (by omega))), hj3⟩ (hP.sub [2, 3, 4, 0, 1] rfl) (hD.sub [2, 3, 4, 0, 1] (by decide) rfl) hS ⟨Nat.le_of_ble_eq_true rfl, Nat.le_of_ble_eq_true rfl⟩ dX9_canPass_67
  refine lv_iconst (v := (nI 1)) hx hb dX9_canPass_62 (by decide) ?_
  refine lv_goto (tgt := 67) hx hb dX9_canPass_63 (by decide) ?_
  refine ck_top (y := (b2i true)) (by decide) ?_
  exact ck_zret (b := true) hx hb hrt hlk (jl_c) ⟨congrArg b2i (Eq.symm (decide_eq_true (by omega))), hj3⟩ (hP.sub [2, 3, 4, 0, 1] rfl) (hD.sub [2, 3, 4, 0, 1] (by decide) rfl) hS ⟨Nat.le_of_ble_eq_true rfl, Nat.le_of_ble_eq_true rfl⟩ dX9_canPass_67
