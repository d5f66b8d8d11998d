/-! the model's acts -/
def mA (nw : Nat → Int32) (cf : Nat) (tr di fo : Nat → Int32) : Prop := nw 0 = nI cf ∧ (∀ j, j < 64 → nw (3 + j) = tr j) ∧ (∀ j, j < 80 → nw (67 + 2 * j) = di j) ∧ (∀ j, j < 80 → nw (67 + 2 * j + 1) = fo j)
theorem mV_mA {nw : Nat → Int32} {cf n : Nat} {wk : Int32} {tr di fo : Nat → Int32} {w : Nat → List Nat} {sdf wof shf twf : Nat → Int32} (h : mV nw cf n wk tr di fo w sdf wof shf twf) : mA nw cf tr di fo := ⟨h.1, h.2.2.2.1, h.2.2.2.2.1, h.2.2.2.2.2.1⟩
theorem mA_begin {nw nw1 nw3 nw4 lo2 bk2 tr di fo : Nat → Int32} {cf n2 : Nat} (hA : mA nw cf tr di fo) (hn : n2 ≤ 5) (h1 : ∀ j, j < 227 → nw1 j = upd (upd nw 1 (nI n2)) 2 (nI 0) j) (h2 : ∀ j, j < 5 → nw1 (227 + j) = nI j ∧ nw1 (237 + j) = nI 0 ∧ nw1 (242 + j) = nI 0) (h3 : ∀ j, j < 247 → nw3 j = nw1 j) (h4 : ∀ j, j < 25 → nw3 (247 + j) = nI 0) (hB : mB lo2 bk2 1 5 first0) (h5 : ∀ j, j < 232 ∨ 237 ≤ j ∧ j < 272 → nw4 j = nw3 j) (h6 : ∀ p, p < 5 → nw4 (232 + p) = lo2 (5 * 1 + p)) (h7 : ∀ k, k < 300 → nw4 (272 + k) = bk2 (300 * 1 + k)) : mV nw4 cf n2 (nI 0) tr di fo first0 (fun j => nI j) (fun _ => nI 0) (fun _ => nI 0) (fun _ => nI 0) := by
  have e : ∀ j, j < 227 → nw4 j = upd (upd nw 1 (nI n2)) 2 (nI 0) j := fun j hj => ((h5 j (by omega)).trans (h3 j (by omega))).trans (h1 j hj)
  have e' : ∀ j, j < 227 → j ≠ 1 → j ≠ 2 → nw4 j = nw j := fun j hj a b => (e j hj).trans ((pk_un b).trans (pk_un a))
  obtain ⟨a0, a1, a2, a3⟩ := hA
  refine ⟨(e' 0 (by omega) (by omega) (by omega)).trans a0, (e 1 (by omega)).trans ((pk_un (by omega)).trans pk_us), (e 2 (by omega)).trans pk_us, fun j hj => (e' _ (by omega) (by omega) (by omega)).trans (a1 j hj), fun j hj => (e' _ (by omega) (by omega) (by omega)).trans (a2 j hj), fun j hj => (e' _ (by omega) (by omega) (by omega)).trans (a3 j hj), fun j hj => ?_, fun j hj => ?_, fun j hj => ?_, fun f g hf hg hq => ?_, ?_⟩
  · exact ((h5 _ (by omega)).trans (h3 _ (by omega))).trans (h2 j hj).1
  · exact ((h5 _ (by omega)).trans (h3 _ (by omega))).trans (h2 j hj).2.1
  · exact ((h5 _ (by omega)).trans (h3 _ (by omega))).trans (h2 j hj).2.2
  · exact (h5 _ (by omega)).trans ((congrArg nw3 (by omega)).trans (h4 (5 * f + g) (by omega)))
  · intro p hp
    obtain ⟨b0, b1, b2, b3⟩ := hB p (by omega)
    exact ⟨(h6 p (by omega)).trans b0, b1, b2, fun k hk => (h7 _ (by omega)).trans (b3 k hk)⟩
theorem ckIn_le {a b : Nat} (ha : a < 2 ^ 31) (hb : b < 2 ^ 31) : ckIn (nI a) (nI 0) (nI b) = decide (a ≤ b) := by
  have e0 : (nI 0).toInt = 0 := (by decide)
  rw [Bool.eq_iff_iff, ckIn_iff, decide_eq_true_eq, nI_toInt ha, nI_toInt hb, e0]
  omega
set_option maxHeartbeats 4000000 in
set_option maxRecDepth 100000 in
/-- X11_begin -/
theorem c_X11_begin (l : Launch) (N : ckN) (mm : Nat) (an : Nat) (ak : Nat) (ab : Nat) (az : Nat) (as_ : Nat) (ae : Nat) (ao : Nat) (ar : Nat) (aw : Nat) (al : Nat) (am : Nat) (af : Nat) (ac : Nat) (ke : Nat) (kn : Nat) (fd : Int32) (mn : Nat) (nw : Nat → Int32) (lo : Nat → Int32) (bk : Nat → Int32) (cf : Nat) (tr : Nat → Int32) (di : Nat → Int32) (fo : Nat → Int32) (n2 : Nat) (hA0 : mA nw cf tr di fo) (hn : n2 ≤ 5) : ckV l yX11_begin cX11_begin 3 none { frames := 3, cells := 0, slots := 0, locals := 82 } N [.ref mm, .int (nI n2)] [(mm, .inr (11, [.ref an, .ref ak, .int (nI ke), .int (nI kn), .int fd, .ref ab, .ref az, .ref as_, .ref ae, .ref ao, .ref ar, .ref aw, .ref al, .ref am, .int (nI mn), .ref af, .ref ac])), (an, .inl (N.2 0, 572, .inl nw)), (al, .inl (N.2 0, 25, .inl lo)), (aw, .inl (N.2 0, 1500, .inl bk))] (fun (u : (Nat → Int32) × (Nat → Int32) × (Nat → Int32)) => mV u.1 cf n2 (nI 0) tr di fo first0 (fun j => nI j) (fun _ => nI 0) (fun _ => nI 0) (fun _ => nI 0)) (fun (u : (Nat → Int32) × (Nat → Int32) × (Nat → Int32)) => [(mm, .inr (11, [.ref an, .ref ak, .int (nI ke), .int (nI kn), .int fd, .ref ab, .ref az, .ref as_, .ref ae, .ref ao, .ref ar, .ref aw, .ref al, .ref am, .int (nI mn), .ref af, .ref ac])), (an, .inl (N.2 0, 572, .inl u.1)), (al, .inl (N.2 0, 25, .inl u.2.1)), (aw, .inl (N.2 0, 1500, .inl u.2.2))]) := by
  refine ckV.of (by decide) (Nat.le_of_ble_eq_true rfl) ?_
  intro pg eg sg mg blw mth cg Ag ls hx hb hrt hml hown hlk hin hg hE hA hP hD hS hl
  have hown : sg.vm.findClass RX11 = some mg.cls := hown
  have hl : lv_has ls 3 [(0, .ref mm), (1, .int (nI n2))] := hl
  have C0 : ckC pg sg mg ([.ref mm, .int (nI n2)]).toArray cg cX11_begin 3 RX11 N Ag := ⟨⟨hx, hb, hml, hown, hg⟩, hE, hA⟩
  generalize hHe : sg.heap = H at hP
  have hS : va_S Ag sg.heap H [] := hHe ▸ hS
  refine lv_aload_n hx hb dX11_begin_0 rfl (lv_at hl 0 rfl) ?_
  refine va_get (ci := 11) (v := .ref an) (C := RX11) (T := TX11) (N := 17) hx hb hg inX11 hown hE.1 hP 0 rfl rfl 0 (by decide) (hg _ k4_10) (fun _ h9 => h9) rfl dX11_begin_1 ?_
  refine lv_iconst (v := (nI 1)) hx hb dX11_begin_4 (by decide) ?_
  refine lv_iload_n hx hb dX11_begin_5 rfl (lv_at hl 1 rfl) ?_
  refine ck_iast hx hb hE hP hD hS 1 rfl (by omega) (by decide) dX11_begin_6 (ws1 := [(mm, .inr (11, [.ref an, .ref ak, .int (nI ke), .int (nI kn), .int fd, .ref ab, .ref az, .ref as_, .ref ae, .ref ao, .ref ar, .ref aw, .ref al, .ref am, .int (nI mn), .ref af, .ref ac])), (an, .inl (N.2 0, 572, .inl (upd nw 1 (nI n2)))), (al, .inl (N.2 0, 25, .inl lo)), (aw, .inl (N.2 0, 1500, .inl bk))]) rfl (fun H locs hP hD hS => ?_)
  refine lv_aload_n hx hb dX11_begin_7 rfl (lv_at hl 0 rfl) ?_
  refine va_get (ci := 11) (v := .ref an) (C := RX11) (T := TX11) (N := 17) hx hb hg inX11 hown hE.1 hP 0 rfl rfl 0 (by decide) (hg _ k4_10) (fun _ h9 => h9) rfl dX11_begin_8 ?_
  refine lv_iconst (v := (nI 2)) hx hb dX11_begin_11 (by decide) ?_
  refine lv_iconst (v := (nI 0)) hx hb dX11_begin_12 (by decide) ?_
  refine ck_iast hx hb hE hP hD hS 1 rfl (by omega) (by decide) dX11_begin_13 (ws1 := [(mm, .inr (11, [.ref an, .ref ak, .int (nI ke), .int (nI kn), .int fd, .ref ab, .ref az, .ref as_, .ref ae, .ref ao, .ref ar, .ref aw, .ref al, .ref am, .int (nI mn), .ref af, .ref ac])), (an, .inl (N.2 0, 572, .inl (upd (upd nw 1 (nI n2)) 2 (nI 0)))), (al, .inl (N.2 0, 25, .inl lo)), (aw, .inl (N.2 0, 1500, .inl bk))]) rfl (fun H locs hP hD hS => ?_)
  refine lv_iconst (v := (nI 0)) hx hb dX11_begin_14 (by decide) ?_
  refine lv_istore_n (lv' := [(2, .int (nI 0)), (0, .ref mm), (1, .int (nI n2))]) hx hb dX11_begin_15 rfl hl (by decide) rfl (fun ls hl => ?_)
  have lp_16 : ∀ (dz : Nat) (k : Nat) (nw1 : Nat → Int32) (hdz : 5 - k = dz) (hk : k ≤ 5) (h1 : ∀ j, j < 227 → nw1 j = upd (upd nw 1 (nI n2)) 2 (nI 0) j) (h2 : ∀ j, j < k → nw1 (227 + j) = nI j ∧ nw1 (237 + j) = nI 0 ∧ nw1 (242 + j) = nI 0) (H : Heap) (locs : List Loc) (ls : Array Slot), va_P N.1 vwCl [(mm, .inr (11, [.ref an, .ref ak, .int (nI ke), .int (nI kn), .int fd, .ref ab, .ref az, .ref as_, .ref ae, .ref ao, .ref ar, .ref aw, .ref al, .ref am, .int (nI mn), .ref af, .ref ac])), (an, .inl (N.2 0, 572, .inl nw1)), (al, .inl (N.2 0, 25, .inl lo)), (aw, .inl (N.2 0, 1500, .inl bk))] H → va_D Ag [(mm, .inr (11, [.ref an, .ref ak, .int (nI ke), .int (nI kn), .int fd, .ref ab, .ref az, .ref as_, .ref ae, .ref ao, .ref ar, .ref aw, .ref al, .ref am, .int (nI mn), .ref af, .ref ac])), (an, .inl (N.2 0, 572, .inl nw1)), (al, .inl (N.2 0, 25, .inl lo)), (aw, .inl (N.2 0, 1500, .inl bk))] → va_S Ag sg.heap H locs → lv_has ls 3 [(2, .int (nI k)), (0, .ref mm), (1, .int (nI n2))] → W pg l eg { frames := 3, cells := 0, slots := 0, locals := 82 } sg mg ([.ref mm, .int (nI n2)]).toArray blw mth cg H locs 0 0 (ckQv N Ag blw sg ([.ref mm, .int (nI n2)]).toArray { frames := 3, cells := 0, slots := 0, locals := 82 } (fun (u : (Nat → Int32) × (Nat → Int32) × (Nat → Int32)) => mV u.1 cf n2 (nI 0) tr di fo first0 (fun j => nI j) (fun _ => nI 0) (fun _ => nI 0) (fun _ => nI 0)) (fun (u : (Nat → Int32) × (Nat → Int32) × (Nat → Int32)) => [(mm, .inr (11, [.ref an, .ref ak, .int (nI ke), .int (nI kn), .int fd, .ref ab, .ref az, .ref as_, .ref ae, .ref ao, .ref ar, .ref aw, .ref al, .ref am, .int (nI mn), .ref af, .ref ac])), (an, .inl (N.2 0, 572, .inl u.1)), (al, .inl (N.2 0, 25, .inl u.2.1)), (aw, .inl (N.2 0, 1500, .inl u.2.2))])) (F0 mg 16 ls []) := by
    intro dz
    induction dz using Nat.strongRecOn with
    | _ dz ih_16 =>
      intro k nw1 hdz hk h1 h2 H locs ls hP hD hS hl
      subst hdz
      refine lv_iload_n hx hb dX11_begin_16 rfl (lv_at hl 0 rfl) ?_
      refine lv_iconst (v := (nI 5)) hx hb dX11_begin_17 (by decide) ?_
      refine ck_ic_ge (tgt := 60) hx hb dX11_begin_18 (by decide) (by omega) (by omega) (fun cz_1 => ?_) (fun cz_1 => ?_)
      · refine lv_iconst (v := (nI 0)) hx hb dX11_begin_60 (by decide) ?_
        refine lv_istore_n (lv' := [(2, .int (nI 0)), (0, .ref mm), (1, .int (nI n2))]) hx hb dX11_begin_61 rfl hl (by decide) rfl (fun ls hl => ?_)
        have lp_62 : ∀ (dz : Nat) (k2 : Nat) (nw3 : Nat → Int32) (hdz : 25 - k2 = dz) (hk2 : k2 ≤ 25) (h3 : ∀ j, j < 247 → nw3 j = nw1 j) (h4 : ∀ j, j < k2 → nw3 (247 + j) = nI 0) (H : Heap) (locs : List Loc) (ls : Array Slot), va_P N.1 vwCl [(mm, .inr (11, [.ref an, .ref ak, .int (nI ke), .int (nI kn), .int fd, .ref ab, .ref az, .ref as_, .ref ae, .ref ao, .ref ar, .ref aw, .ref al, .ref am, .int (nI mn), .ref af, .ref ac])), (an, .inl (N.2 0, 572, .inl nw3)), (al, .inl (N.2 0, 25, .inl lo)), (aw, .inl (N.2 0, 1500, .inl bk))] H → va_D Ag [(mm, .inr (11, [.ref an, .ref ak, .int (nI ke), .int (nI kn), .int fd, .ref ab, .ref az, .ref as_, .ref ae, .ref ao, .ref ar, .ref aw, .ref al, .ref am, .int (nI mn), .ref af, .ref ac])), (an, .inl (N.2 0, 572, .inl nw3)), (al, .inl (N.2 0, 25, .inl lo)), (aw, .inl (N.2 0, 1500, .inl bk))] → va_S Ag sg.heap H locs → lv_has ls 3 [(2, .int (nI k2)), (0, .ref mm), (1, .int (nI n2))] → W pg l eg { frames := 3, cells := 0, slots := 0, locals := 82 } sg mg ([.ref mm, .int (nI n2)]).toArray blw mth cg H locs 0 0 (ckQv N Ag blw sg ([.ref mm, .int (nI n2)]).toArray { frames := 3, cells := 0, slots := 0, locals := 82 } (fun (u : (Nat → Int32) × (Nat → Int32) × (Nat → Int32)) => mV u.1 cf n2 (nI 0) tr di fo first0 (fun j => nI j) (fun _ => nI 0) (fun _ => nI 0) (fun _ => nI 0)) (fun (u : (Nat → Int32) × (Nat → Int32) × (Nat → Int32)) => [(mm, .inr (11, [.ref an, .ref ak, .int (nI ke), .int (nI kn), .int fd, .ref ab, .ref az, .ref as_, .ref ae, .ref ao, .ref ar, .ref aw, .ref al, .ref am, .int (nI mn), .ref af, .ref ac])), (an, .inl (N.2 0, 572, .inl u.1)), (al, .inl (N.2 0, 25, .inl u.2.1)), (aw, .inl (N.2 0, 1500, .inl u.2.2))])) (F0 mg 62 ls []) := by
          intro dz
          induction dz using Nat.strongRecOn with
          | _ dz ih_62 =>
            intro k2 nw3 hdz hk2 h3 h4 H locs ls hP hD hS hl
            subst hdz
            refine lv_iload_n hx hb dX11_begin_62 rfl (lv_at hl 0 rfl) ?_
            refine lv_bipush (v := (nI 25)) hx hb dX11_begin_63 (by decide) ?_
            refine ck_ic_ge (tgt := 85) hx hb dX11_begin_65 (by decide) (by omega) (by omega) (fun cz_2 => ?_) (fun cz_2 => ?_)
            · refine lv_aload_n hx hb dX11_begin_85 rfl (lv_at hl 1 rfl) ?_
              refine lv_iconst (v := (nI 1)) hx hb dX11_begin_86 (by decide) ?_
              refine ck_Vv (As := [.int (nI 1)]) (rest := []) (wr := [(an, .inl (N.2 0, 572, .inl nw3))]) C0 hP hD hS (c_X11_firstWords l N mm an ak ab az as_ ae ao ar aw al am af ac ke kn fd mn lo bk 1 (by omega)) myX11_firstWords k4_2 ⟨Nat.le_of_ble_eq_true rfl, Nat.le_of_ble_eq_true rfl⟩ [0, 2, 3] [1] ⟨⟨rfl, rfl⟩, by decide, by decide, by decide⟩ 0 rfl rfl rfl rfl hl.1 rfl (Nat.le_of_ble_eq_true rfl) dX11_begin_87 ⟨Nat.le_of_ble_eq_true rfl, Nat.le_of_ble_eq_true rfl⟩ (fun u0 H locs hw0 hP hD hS => ?_)
              obtain ⟨lo_b, bk_b⟩ := u0
              have hw_4 : mB lo_b bk_b 1 5 first0 ∧ (∀ j, ¬ (5 * 1 ≤ j ∧ j < 5 * 1 + 5) → lo_b j = lo j) ∧ (∀ j, ¬ (300 * 1 ≤ j ∧ j < 300 * 1 + 300) → bk_b j = bk j) := hw0
              have hP : va_P N.1 vwCl [(an, .inl (N.2 0, 572, .inl nw3)), (mm, .inr (11, [.ref an, .ref ak, .int (nI ke), .int (nI kn), .int fd, .ref ab, .ref az, .ref as_, .ref ae, .ref ao, .ref ar, .ref aw, .ref al, .ref am, .int (nI mn), .ref af, .ref ac])), (al, .inl (N.2 0, 25, .inl lo_b)), (aw, .inl (N.2 0, 1500, .inl bk_b))] H := hP
              have hD : va_D Ag [(an, .inl (N.2 0, 572, .inl nw3)), (mm, .inr (11, [.ref an, .ref ak, .int (nI ke), .int (nI kn), .int fd, .ref ab, .ref az, .ref as_, .ref ae, .ref ao, .ref ar, .ref aw, .ref al, .ref am, .int (nI mn), .ref af, .ref ac])), (al, .inl (N.2 0, 25, .inl lo_b)), (aw, .inl (N.2 0, 1500, .inl bk_b))] := hD
              obtain ⟨hfw, -, -⟩ := hw_4
              refine lv_aload_n hx hb dX11_begin_90 rfl (lv_at hl 1 rfl) ?_
              refine lv_iconst (v := (nI 1)) hx hb dX11_begin_91 (by decide) ?_
              refine ck_Vv (As := [.int (nI 1)]) (rest := []) (wr := []) C0 hP hD hS (c_X11_toNow l N mm an ak ab az as_ ae ao ar aw al am af ac ke kn fd mn nw3 lo_b bk_b 1 (by omega)) myX11_toNow k4_6 ⟨Nat.le_of_ble_eq_true rfl, Nat.le_of_ble_eq_true rfl⟩ [1, 0, 2, 3] [] ⟨⟨rfl, rfl⟩, by decide, by decide, by decide⟩ 1 rfl rfl rfl rfl hl.1 rfl (Nat.le_of_ble_eq_true rfl) dX11_begin_92 ⟨Nat.le_of_ble_eq_true rfl, Nat.le_of_ble_eq_true rfl⟩ (fun u0 H locs hw0 hP hD hS => ?_)
              obtain ⟨nw2_6, rfl⟩ : ∃ z, z = u0 := ⟨_, rfl⟩
              have hw_7 : (∀ j, j < 232 ∨ 237 ≤ j ∧ j < 272 → nw2_6 j = nw3 j) ∧ (∀ p, p < 5 → nw2_6 (232 + p) = lo_b (5 * 1 + p)) ∧ (∀ k, k < 300 → nw2_6 (272 + k) = bk_b (300 * 1 + k)) := hw0
              have hP : va_P N.1 vwCl [(mm, .inr (11, [.ref an, .ref ak, .int (nI ke), .int (nI kn), .int fd, .ref ab, .ref az, .ref as_, .ref ae, .ref ao, .ref ar, .ref aw, .ref al, .ref am, .int (nI mn), .ref af, .ref ac])), (an, .inl (N.2 0, 572, .inl nw2_6)), (al, .inl (N.2 0, 25, .inl lo_b)), (aw, .inl (N.2 0, 1500, .inl bk_b))] H := hP
              have hD : va_D Ag [(mm, .inr (11, [.ref an, .ref ak, .int (nI ke), .int (nI kn), .int fd, .ref ab, .ref az, .ref as_, .ref ae, .ref ao, .ref ar, .ref aw, .ref al, .ref am, .int (nI mn), .ref af, .ref ac])), (an, .inl (N.2 0, 572, .inl nw2_6)), (al, .inl (N.2 0, 25, .inl lo_b)), (aw, .inl (N.2 0, 1500, .inl bk_b))] := hD
              obtain ⟨ht5, ht6, ht7⟩ := hw_7
              exact ck_vret hx hb hrt hlk ⟨nw2_6, lo_b, bk_b⟩ (mA_begin hA0 hn h1 (fun j hj => h2 j (by omega)) h3 (fun j hj => h4 j (by omega)) hfw ht5 ht6 ht7) hP hD hS ⟨Nat.le_of_ble_eq_true rfl, Nat.le_of_ble_eq_true rfl⟩ dX11_begin_95
            refine lv_aload_n hx hb dX11_begin_68 rfl (lv_at hl 1 rfl) ?_
            refine va_get (ci := 11) (v := .ref an) (C := RX11) (T := TX11) (N := 17) hx hb hg inX11 hown hE.1 hP 0 rfl rfl 0 (by decide) (hg _ k4_10) (fun _ h9 => h9) rfl dX11_begin_69 ?_
            refine lv_sipush (v := (nI 247)) hx hb dX11_begin_72 (by decide) ?_
            refine lv_iload_n hx hb dX11_begin_75 rfl (lv_at hl 0 rfl) ?_
            refine lv_iadd hx hb dX11_begin_76 ?_
            refine ck_top (y := (nI (247 + k2))) (nI_add _ _) ?_
            refine lv_iconst (v := (nI 0)) hx hb dX11_begin_77 (by decide) ?_
            refine ck_iast hx hb hE hP hD hS 1 rfl (by omega) (by decide) dX11_begin_78 (ws1 := [(mm, .inr (11, [.ref an, .ref ak, .int (nI ke), .int (nI kn), .int fd, .ref ab, .ref az, .ref as_, .ref ae, .ref ao, .ref ar, .ref aw, .ref al, .ref am, .int (nI mn), .ref af, .ref ac])), (an, .inl (N.2 0, 572, .inl (upd nw3 (247 + k2) (nI 0)))), (al, .inl (N.2 0, 25, .inl lo)), (aw, .inl (N.2 0, 1500, .inl bk))]) rfl (fun H locs hP hD hS => ?_)
            refine lv_iinc (v := (nI (k2 + 1))) (lv' := [(2, .int (nI (k2 + 1))), (0, .ref mm), (1, .int (nI n2))]) hx hb dX11_begin_79 hl (k := 0) rfl (nI_1 _) (by decide) rfl (fun ls hl => ?_)
            refine lv_goto (tgt := 62) hx hb dX11_begin_82 (by decide) ?_
            exact ih_62 _ (by omega) (k2 + 1) (upd nw3 (247 + k2) (nI 0)) rfl (by omega) (fun j hj => (pk_un (by omega)).trans (h3 j hj)) (lt_s (fun j hj => (pk_un (by omega)).trans (h4 j hj)) pk_us) _ _ ls hP hD hS hl
        exact lp_62 _ 0 nw1 rfl (by omega) (fun j hj => rfl) (fun j hj => absurd hj (Nat.not_lt_zero j)) _ _ ls hP hD hS hl
      refine lv_aload_n hx hb dX11_begin_21 rfl (lv_at hl 1 rfl) ?_
      refine va_get (ci := 11) (v := .ref an) (C := RX11) (T := TX11) (N := 17) hx hb hg inX11 hown hE.1 hP 0 rfl rfl 0 (by decide) (hg _ k4_10) (fun _ h9 => h9) rfl dX11_begin_22 ?_
      refine lv_sipush (v := (nI 227)) hx hb dX11_begin_25 (by decide) ?_
      refine lv_iload_n hx hb dX11_begin_28 rfl (lv_at hl 0 rfl) ?_
      refine lv_iadd hx hb dX11_begin_29 ?_
      refine ck_top (y := (nI (227 + k))) (nI_add _ _) ?_
      refine lv_iload_n hx hb dX11_begin_30 rfl (lv_at hl 0 rfl) ?_
      refine ck_iast hx hb hE hP hD hS 1 rfl (by omega) (by decide) dX11_begin_31 (ws1 := [(mm, .inr (11, [.ref an, .ref ak, .int (nI ke), .int (nI kn), .int fd, .ref ab, .ref az, .ref as_, .ref ae, .ref ao, .ref ar, .ref aw, .ref al, .ref am, .int (nI mn), .ref af, .ref ac])), (an, .inl (N.2 0, 572, .inl (upd nw1 (227 + k) (nI k)))), (al, .inl (N.2 0, 25, .inl lo)), (aw, .inl (N.2 0, 1500, .inl bk))]) rfl (fun H locs hP hD hS => ?_)
      refine lv_aload_n hx hb dX11_begin_32 rfl (lv_at hl 1 rfl) ?_
      refine va_get (ci := 11) (v := .ref an) (C := RX11) (T := TX11) (N := 17) hx hb hg inX11 hown hE.1 hP 0 rfl rfl 0 (by decide) (hg _ k4_10) (fun _ h9 => h9) rfl dX11_begin_33 ?_
      refine lv_sipush (v := (nI 237)) hx hb dX11_begin_36 (by decide) ?_
      refine lv_iload_n hx hb dX11_begin_39 rfl (lv_at hl 0 rfl) ?_
      refine lv_iadd hx hb dX11_begin_40 ?_
      refine ck_top (y := (nI (237 + k))) (nI_add _ _) ?_
      refine lv_iconst (v := (nI 0)) hx hb dX11_begin_41 (by decide) ?_
      refine ck_iast hx hb hE hP hD hS 1 rfl (by omega) (by decide) dX11_begin_42 (ws1 := [(mm, .inr (11, [.ref an, .ref ak, .int (nI ke), .int (nI kn), .int fd, .ref ab, .ref az, .ref as_, .ref ae, .ref ao, .ref ar, .ref aw, .ref al, .ref am, .int (nI mn), .ref af, .ref ac])), (an, .inl (N.2 0, 572, .inl (upd (upd nw1 (227 + k) (nI k)) (237 + k) (nI 0)))), (al, .inl (N.2 0, 25, .inl lo)), (aw, .inl (N.2 0, 1500, .inl bk))]) rfl (fun H locs hP hD hS => ?_)
      refine lv_aload_n hx hb dX11_begin_43 rfl (lv_at hl 1 rfl) ?_
      refine va_get (ci := 11) (v := .ref an) (C := RX11) (T := TX11) (N := 17) hx hb hg inX11 hown hE.1 hP 0 rfl rfl 0 (by decide) (hg _ k4_10) (fun _ h9 => h9) rfl dX11_begin_44 ?_
      refine lv_sipush (v := (nI 242)) hx hb dX11_begin_47 (by decide) ?_
      refine lv_iload_n hx hb dX11_begin_50 rfl (lv_at hl 0 rfl) ?_
      refine lv_iadd hx hb dX11_begin_51 ?_
      refine ck_top (y := (nI (242 + k))) (nI_add _ _) ?_
      refine lv_iconst (v := (nI 0)) hx hb dX11_begin_52 (by decide) ?_
      refine ck_iast hx hb hE hP hD hS 1 rfl (by omega) (by decide) dX11_begin_53 (ws1 := [(mm, .inr (11, [.ref an, .ref ak, .int (nI ke), .int (nI kn), .int fd, .ref ab, .ref az, .ref as_, .ref ae, .ref ao, .ref ar, .ref aw, .ref al, .ref am, .int (nI mn), .ref af, .ref ac])), (an, .inl (N.2 0, 572, .inl (upd (upd (upd nw1 (227 + k) (nI k)) (237 + k) (nI 0)) (242 + k) (nI 0)))), (al, .inl (N.2 0, 25, .inl lo)), (aw, .inl (N.2 0, 1500, .inl bk))]) rfl (fun H locs hP hD hS => ?_)
      refine lv_iinc (v := (nI (k + 1))) (lv' := [(2, .int (nI (k + 1))), (0, .ref mm), (1, .int (nI n2))]) hx hb dX11_begin_54 hl (k := 0) rfl (nI_1 _) (by decide) rfl (fun ls hl => ?_)
      refine lv_goto (tgt := 16) hx hb dX11_begin_57 (by decide) ?_
      exact ih_16 _ (by omega) (k + 1) (upd (upd (upd nw1 (227 + k) (nI k)) (237 + k) (nI 0)) (242 + k) (nI 0)) rfl (by omega) (fun j hj => (pk_un (by omega)).trans ((pk_un (by omega)).trans ((pk_un (by omega)).trans (h1 j hj)))) (lt_s (fun j hj => ⟨(pk_un (by omega)).trans ((pk_un (by omega)).trans ((pk_un (by omega)).trans (h2 j hj).1)), (pk_un (by omega)).trans ((pk_un (by omega)).trans ((pk_un (by omega)).trans (h2 j hj).2.1)), (pk_un (by omega)).trans ((pk_un (by omega)).trans ((pk_un (by omega)).trans (h2 j hj).2.2))⟩) ⟨(pk_un (by omega)).trans ((pk_un (by omega)).trans pk_us), (pk_un (by omega)).trans pk_us, pk_us⟩) _ _ ls hP hD hS hl
  exact lp_16 _ 0 (upd (upd nw 1 (nI n2)) 2 (nI 0)) rfl (by omega) (fun j hj => rfl) (fun j hj => absurd hj (Nat.not_lt_zero j)) _ _ ls hP hD hS hl
set_option maxHeartbeats 4000000 in
set_option maxRecDepth 100000 in
/-- X11_row -/
theorem c_X11_row (l : Launch) (N : ckN) (mm : Nat) (an : Nat) (ak : Nat) (ab : Nat) (az : Nat) (as_ : Nat) (ae : Nat) (ao : Nat) (ar : Nat) (aw : Nat) (al : Nat) (am : Nat) (af : Nat) (ac : Nat) (ke : Nat) (kn : Nat) (fd : Int32) (mn : Nat) (nw : Nat → Int32) (kp : Nat → Int32) (cf : Nat) (n : Nat) (wk : Int32) (tr : Nat → Int32) (di : Nat → Int32) (fo : Nat → Int32) (w : Nat → List Nat) (sdf : Nat → Int32) (wof : Nat → Int32) (shf : Nat → Int32) (twf : Nat → Int32) (lo : Nat → Int32) (bk : Nat → Int32) (x : Int32) (hV : mV nw cf n wk tr di fo w sdf wof shf twf) (hn : n ≤ 5) (hke : ke < 20) (hkn : kn ≤ 20) : ckI l yX11_row cX11_row 3 (some FieldType.int) { frames := 4, cells := 0, slots := 0, locals := 104 } N [.ref mm, .int x] [(mm, .inr (11, [.ref an, .ref ak, .int (nI ke), .int (nI kn), .int fd, .ref ab, .ref az, .ref as_, .ref ae, .ref ao, .ref ar, .ref aw, .ref al, .ref am, .int (nI mn), .ref af, .ref ac])), (an, .inl (N.2 0, 572, .inl nw)), (ak, .inl (N.2 0, 11440, .inl kp)), (al, .inl (N.2 0, 25, .inl lo)), (aw, .inl (N.2 0, 1500, .inl bk))] (fun (r : Int32) (u : Int32 × Nat × Nat × (Nat → Int32) × (Nat → Int32) × (Nat → Int32) × (Nat → Int32)) => (ckRd (rwF x) (wk) fd r u.1) ∧ ((rwF x = 0 ∧ u.2.1 = (ke + 1) % 20 ∧ u.2.2.1 = min (kn + 1) 20 ∧ u.2.2.2.2.1 = guT kp (572 * ke) nw 572 ∧ mV u.2.2.2.1 cf (ix x) (nI 0) tr di fo first0 (fun j => nI j) (fun _ => nI 0) (fun _ => nI 0) (fun _ => nI 0)) ∨ (rwF x ≠ 0 ∧ u.2.1 = ke ∧ u.2.2.1 = kn ∧ u.2.2.2.2.1 = kp ∧ u.2.2.2.1 = nw))) (fun (u : Int32 × Nat × Nat × (Nat → Int32) × (Nat → Int32) × (Nat → Int32) × (Nat → Int32)) => [(mm, .inr (11, [.ref an, .ref ak, .int (nI u.2.1), .int (nI u.2.2.1), .int u.1, .ref ab, .ref az, .ref as_, .ref ae, .ref ao, .ref ar, .ref aw, .ref al, .ref am, .int (nI mn), .ref af, .ref ac])), (an, .inl (N.2 0, 572, .inl u.2.2.2.1)), (ak, .inl (N.2 0, 11440, .inl u.2.2.2.2.1)), (al, .inl (N.2 0, 25, .inl u.2.2.2.2.2.1)), (aw, .inl (N.2 0, 1500, .inl u.2.2.2.2.2.2))]) := by
  refine ckI.of (by decide) (Nat.le_of_ble_eq_true rfl) ?_
  intro pg eg sg mg blw mth cg Ag ls hx hb hrt hml hown hlk hin hg hE hA hP hD hS hl
  have hown : sg.vm.findClass RX11 = some mg.cls := hown
  have hl : lv_has ls 3 [(0, .ref mm), (1, .int x)] := hl
  have C0 : ckC pg sg mg ([.ref mm, .int x]).toArray cg cX11_row 3 RX11 N Ag := ⟨⟨hx, hb, hml, hown, hg⟩, hE, hA⟩
  generalize hHe : sg.heap = H at hP
  have hS : va_S Ag sg.heap H [] := hHe ▸ hS
  refine lv_iload_n hx hb dX11_row_0 rfl (lv_at hl 1 rfl) ?_
  refine lv_iconst (v := (nI 2)) hx hb dX11_row_1 (by decide) ?_
  refine lv_iconst (v := (nI 5)) hx hb dX11_row_2 (by decide) ?_
  refine ck_Si (As := [.int x, .int (nI 2), .int (nI 5)]) (rest := []) (wr := [(mm, .inr (11, [.ref an, .ref ak, .int (nI ke), .int (nI kn), .int fd, .ref ab, .ref az, .ref as_, .ref ae, .ref ao, .ref ar, .ref aw, .ref al, .ref am, .int (nI mn), .ref af, .ref ac])), (an, .inl (N.2 0, 572, .inl nw)), (ak, .inl (N.2 0, 11440, .inl kp)), (al, .inl (N.2 0, 25, .inl lo)), (aw, .inl (N.2 0, 1500, .inl bk))]) C0 hP hD hS (c_X11_in l N x (nI 2) (nI 5) ) myX11_in k4_75 ⟨Nat.le_of_ble_eq_true rfl, Nat.le_of_ble_eq_true rfl⟩ [] [0, 1, 2, 3, 4] ⟨⟨rfl, rfl⟩, by decide, by decide, by decide⟩ rfl hl.1 rfl (Nat.le_of_ble_eq_true rfl) dX11_row_3 ⟨Nat.le_of_ble_eq_true rfl, Nat.le_of_ble_eq_true rfl⟩ (fun r_1 u0 H locs hw0 hP hD hS => ?_)
  have hw_2 : r_1 = (b2i (ckIn x (nI 2) (nI 5))) := hw0
  subst hw_2
  have hP : va_P N.1 vwCl [(mm, .inr (11, [.ref an, .ref ak, .int (nI ke), .int (nI kn), .int fd, .ref ab, .ref az, .ref as_, .ref ae, .ref ao, .ref ar, .ref aw, .ref al, .ref am, .int (nI mn), .ref af, .ref ac])), (an, .inl (N.2 0, 572, .inl nw)), (ak, .inl (N.2 0, 11440, .inl kp)), (al, .inl (N.2 0, 25, .inl lo)), (aw, .inl (N.2 0, 1500, .inl bk))] H := hP
  have hD : va_D Ag [(mm, .inr (11, [.ref an, .ref ak, .int (nI ke), .int (nI kn), .int fd, .ref ab, .ref az, .ref as_, .ref ae, .ref ao, .ref ar, .ref aw, .ref al, .ref am, .int (nI mn), .ref af, .ref ac])), (an, .inl (N.2 0, 572, .inl nw)), (ak, .inl (N.2 0, 11440, .inl kp)), (al, .inl (N.2 0, 25, .inl lo)), (aw, .inl (N.2 0, 1500, .inl bk))] := hD
  refine ck_ifne (b := ckIn x (nI 2) (nI 5)) (tgt := 16) hx hb dX11_row_6 (by decide) (fun cz_3 => ?_) (fun cz_3 => ?_)
  · have hx1 := cz_3
    obtain ⟨n0, hn02, hn05, rfl⟩ := (ckIn_n (by decide) (by decide)).mp hx1
    have exn : ix (nI n0) = n0 := ix_nI (by omega)
    refine lv_aload_n hx hb dX11_row_16 rfl (lv_at hl 0 rfl) ?_
    refine ck_Vv (As := []) (rest := []) (wr := [(al, .inl (N.2 0, 25, .inl lo)), (aw, .inl (N.2 0, 1500, .inl bk))]) C0 hP hD hS (c_X11_keep l N mm an ak ab az as_ ae ao ar aw al am af ac ke kn fd mn nw kp (by omega) (by omega)) myX11_keep k4_84 ⟨Nat.le_of_ble_eq_true rfl, Nat.le_of_ble_eq_true rfl⟩ [0, 1, 2] [3, 4] ⟨⟨rfl, rfl⟩, by decide, by decide, by decide⟩ 0 rfl rfl rfl rfl hl.1 rfl (Nat.le_of_ble_eq_true rfl) dX11_row_17 ⟨Nat.le_of_ble_eq_true rfl, Nat.le_of_ble_eq_true rfl⟩ (fun u0 H locs hw0 hP hD hS => ?_)
    have hP : va_P N.1 vwCl [(al, .inl (N.2 0, 25, .inl lo)), (aw, .inl (N.2 0, 1500, .inl bk)), (mm, .inr (11, [.ref an, .ref ak, .int (nI ((ke + 1) % 20)), .int (nI (min (kn + 1) 20)), .int fd, .ref ab, .ref az, .ref as_, .ref ae, .ref ao, .ref ar, .ref aw, .ref al, .ref am, .int (nI mn), .ref af, .ref ac])), (an, .inl (N.2 0, 572, .inl nw)), (ak, .inl (N.2 0, 11440, .inl (guT kp (572 * ke) nw 572)))] H := hP
    have hD : va_D Ag [(al, .inl (N.2 0, 25, .inl lo)), (aw, .inl (N.2 0, 1500, .inl bk)), (mm, .inr (11, [.ref an, .ref ak, .int (nI ((ke + 1) % 20)), .int (nI (min (kn + 1) 20)), .int fd, .ref ab, .ref az, .ref as_, .ref ae, .ref ao, .ref ar, .ref aw, .ref al, .ref am, .int (nI mn), .ref af, .ref ac])), (an, .inl (N.2 0, 572, .inl nw)), (ak, .inl (N.2 0, 11440, .inl (guT kp (572 * ke) nw 572)))] := hD
    refine lv_aload_n hx hb dX11_row_20 rfl (lv_at hl 0 rfl) ?_
    refine va_get (ci := 11) (v := .ref an) (C := RX11) (T := TX11) (N := 17) hx hb hg inX11 hown hE.1 hP 2 rfl rfl 0 (by decide) (hg _ k4_10) (fun _ h9 => h9) rfl dX11_row_21 ?_
    refine lv_iconst (v := (nI 2)) hx hb dX11_row_24 (by decide) ?_
    refine ck_iald hx hb hE hP 3 rfl (by omega) (by decide) dX11_row_25 ?_
    refine ck_top (y := wk) hV.2.2.1 ?_
    refine lv_istore_n (lv' := [(2, .int wk), (0, .ref mm), (1, .int (nI n0))]) hx hb dX11_row_26 rfl hl (by decide) rfl (fun ls hl => ?_)
    refine lv_aload_n hx hb dX11_row_27 rfl (lv_at hl 1 rfl) ?_
    refine lv_iload_n hx hb dX11_row_28 rfl (lv_at hl 2 rfl) ?_
    refine ck_Vv (As := [.int (nI n0)]) (rest := []) (wr := [(ak, .inl (N.2 0, 11440, .inl (guT kp (572 * ke) nw 572)))]) C0 hP hD hS (c_X11_begin l N mm an ak ab az as_ ae ao ar aw al am af ac ((ke + 1) % 20) (min (kn + 1) 20) fd mn nw lo bk cf tr di fo n0 (mV_mA hV) (by omega)) myX11_begin k3_238 ⟨Nat.le_of_ble_eq_true rfl, Nat.le_of_ble_eq_true rfl⟩ [2, 3, 0, 1] [4] ⟨⟨rfl, rfl⟩, by decide, by decide, by decide⟩ 2 rfl rfl rfl rfl hl.1 rfl (Nat.le_of_ble_eq_true rfl) dX11_row_29 ⟨Nat.le_of_ble_eq_true rfl, Nat.le_of_ble_eq_true rfl⟩ (fun u0 H locs hw0 hP hD hS => ?_)
    obtain ⟨nw4_7, lo4_8, bk4_9⟩ := u0
    have hw_10 : mV nw4_7 cf n0 (nI 0) tr di fo first0 (fun j => nI j) (fun _ => nI 0) (fun _ => nI 0) (fun _ => nI 0) := hw0
    have hP : va_P N.1 vwCl [(ak, .inl (N.2 0, 11440, .inl (guT kp (572 * ke) nw 572))), (mm, .inr (11, [.ref an, .ref ak, .int (nI ((ke + 1) % 20)), .int (nI (min (kn + 1) 20)), .int fd, .ref ab, .ref az, .ref as_, .ref ae, .ref ao, .ref ar, .ref aw, .ref al, .ref am, .int (nI mn), .ref af, .ref ac])), (an, .inl (N.2 0, 572, .inl nw4_7)), (al, .inl (N.2 0, 25, .inl lo4_8)), (aw, .inl (N.2 0, 1500, .inl bk4_9))] H := hP
    have hD : va_D Ag [(ak, .inl (N.2 0, 11440, .inl (guT kp (572 * ke) nw 572))), (mm, .inr (11, [.ref an, .ref ak, .int (nI ((ke + 1) % 20)), .int (nI (min (kn + 1) 20)), .int fd, .ref ab, .ref az, .ref as_, .ref ae, .ref ao, .ref ar, .ref aw, .ref al, .ref am, .int (nI mn), .ref af, .ref ac])), (an, .inl (N.2 0, 572, .inl nw4_7)), (al, .inl (N.2 0, 25, .inl lo4_8)), (aw, .inl (N.2 0, 1500, .inl bk4_9))] := hD
    have hrf := hw_10
    refine lv_iload_n hx hb dX11_row_32 rfl (lv_at hl 0 rfl) ?_
    exact ck_iret hx hb hrt hlk ⟨fd, ((ke + 1) % 20), (min (kn + 1) 20), nw4_7, guT kp (572 * ke) nw 572, lo4_8, bk4_9⟩ (by have he : rwF (nI n0) = 0 := (by simp [rwF, hx1]); exact ⟨ckRd_ok he rfl, Or.inl ⟨he, rfl, rfl, rfl, (by rw [exn]; exact hrf)⟩⟩) (hP.sub [1, 2, 0, 3, 4] rfl) (hD.sub [1, 2, 0, 3, 4] (by decide) rfl) hS ⟨Nat.le_of_ble_eq_true rfl, Nat.le_of_ble_eq_true rfl⟩ dX11_row_33
  refine lv_aload_n hx hb dX11_row_9 rfl (lv_at hl 0 rfl) ?_
  refine lv_ldc (own := RX11) (v := (-100001)) hx hb hown (hg _ k4_81) dX11_row_10 ?_
  refine ck_Vi (As := [.int (-100001)]) (rest := []) (wr := [(an, .inl (N.2 0, 572, .inl nw)), (ak, .inl (N.2 0, 11440, .inl kp)), (al, .inl (N.2 0, 25, .inl lo)), (aw, .inl (N.2 0, 1500, .inl bk))]) C0 hP hD hS (c_X11_finds l N mm an ak ab az as_ ae ao ar aw al am af ac ke kn fd mn (-100001) ) myX11_finds k4_67 ⟨Nat.le_of_ble_eq_true rfl, Nat.le_of_ble_eq_true rfl⟩ [0] [1, 2, 3, 4] ⟨⟨rfl, rfl⟩, by decide, by decide, by decide⟩ 0 rfl rfl rfl rfl hl.1 rfl (Nat.le_of_ble_eq_true rfl) dX11_row_12 ⟨Nat.le_of_ble_eq_true rfl, Nat.le_of_ble_eq_true rfl⟩ (fun r_11 u0 H locs hw0 hP hD hS => ?_)
  have hw_12 : r_11 = (-100001) := hw0
  subst hw_12
  have hP : va_P N.1 vwCl [(an, .inl (N.2 0, 572, .inl nw)), (ak, .inl (N.2 0, 11440, .inl kp)), (al, .inl (N.2 0, 25, .inl lo)), (aw, .inl (N.2 0, 1500, .inl bk)), (mm, .inr (11, [.ref an, .ref ak, .int (nI ke), .int (nI kn), .int (fd + nI 1), .ref ab, .ref az, .ref as_, .ref ae, .ref ao, .ref ar, .ref aw, .ref al, .ref am, .int (nI mn), .ref af, .ref ac]))] H := hP
  have hD : va_D Ag [(an, .inl (N.2 0, 572, .inl nw)), (ak, .inl (N.2 0, 11440, .inl kp)), (al, .inl (N.2 0, 25, .inl lo)), (aw, .inl (N.2 0, 1500, .inl bk)), (mm, .inr (11, [.ref an, .ref ak, .int (nI ke), .int (nI kn), .int (fd + nI 1), .ref ab, .ref az, .ref as_, .ref ae, .ref ao, .ref ar, .ref aw, .ref al, .ref am, .int (nI mn), .ref af, .ref ac]))] := hD
  exact ck_iret hx hb hrt hlk ⟨(fd + nI 1), ke, kn, nw, kp, lo, bk⟩ (by have he : rwF x = (-100001) := (by simp [rwF, cz_3]); exact ⟨ckRd_f he (by decide), Or.inr ⟨fun q => absurd (he.symm.trans q) (by decide), rfl, rfl, rfl, rfl⟩⟩) (hP.sub [4, 0, 1, 2, 3] rfl) (hD.sub [4, 0, 1, 2, 3] (by decide) rfl) hS ⟨Nat.le_of_ble_eq_true rfl, Nat.le_of_ble_eq_true rfl⟩ dX11_row_15
set_option maxHeartbeats 4000000 in
set_option maxRecDepth 100000 in
/-- X11_go -/
theorem c_X11_go (l : Launch) (N : ckN) (mm : Nat) (an : Nat) (ak : Nat) (ab : Nat) (az : Nat) (as_ : Nat) (ae : Nat) (ao : Nat) (ar : Nat) (aw : Nat) (al : Nat) (am : Nat) (af : Nat) (ac : Nat) (ke : Nat) (kn : Nat) (fd : Int32) (mn : Nat) (nw : Nat → Int32) (kp : Nat → Int32) (cf : Nat) (n : Nat) (wk : Int32) (tr : Nat → Int32) (di : Nat → Int32) (fo : Nat → Int32) (w : Nat → List Nat) (sdf : Nat → Int32) (wof : Nat → Int32) (shf : Nat → Int32) (twf : Nat → Int32) (x : Int32) (y : Int32) (hV : mV nw cf n wk tr di fo w sdf wof shf twf) (hn : n ≤ 5) (hke : ke < 20) (hkn : kn ≤ 20) (hcf : cf ≤ 8) : ckI l yX11_go cX11_go 4 (some FieldType.int) { frames := 4, cells := 0, slots := 0, locals := 103 } N [.ref mm, .int x, .int y] [(mm, .inr (11, [.ref an, .ref ak, .int (nI ke), .int (nI kn), .int fd, .ref ab, .ref az, .ref as_, .ref ae, .ref ao, .ref ar, .ref aw, .ref al, .ref am, .int (nI mn), .ref af, .ref ac])), (an, .inl (N.2 0, 572, .inl nw)), (ak, .inl (N.2 0, 11440, .inl kp))] (fun (r : Int32) (u : Int32 × Nat × Nat × (Nat → Int32) × (Nat → Int32)) => (ckRd (goF cf x y) (nI 100 * tr (ix x * 8 + 1) + tr (ix x * 8 + 2)) fd r u.1) ∧ ((goF cf x y = 0 ∧ u.2.1 = (ke + 1) % 20 ∧ u.2.2.1 = min (kn + 1) 20 ∧ u.2.2.2.2 = guT kp (572 * ke) nw 572 ∧ mV u.2.2.2.1 cf n wk (upd (upd tr (ix x * 8 + 1) (nI (ix y / 100))) (ix x * 8 + 2) (nI (ix y % 100))) di fo w sdf wof shf twf) ∨ (goF cf x y ≠ 0 ∧ u.2.1 = ke ∧ u.2.2.1 = kn ∧ u.2.2.2.2 = kp ∧ u.2.2.2.1 = nw))) (fun (u : Int32 × Nat × Nat × (Nat → Int32) × (Nat → Int32)) => [(mm, .inr (11, [.ref an, .ref ak, .int (nI u.2.1), .int (nI u.2.2.1), .int u.1, .ref ab, .ref az, .ref as_, .ref ae, .ref ao, .ref ar, .ref aw, .ref al, .ref am, .int (nI mn), .ref af, .ref ac])), (an, .inl (N.2 0, 572, .inl u.2.2.2.1)), (ak, .inl (N.2 0, 11440, .inl u.2.2.2.2))]) := by
  refine ckI.of (by decide) (Nat.le_of_ble_eq_true rfl) ?_
  intro pg eg sg mg blw mth cg Ag ls hx hb hrt hml hown hlk hin hg hE hA hP hD hS hl
  have hown : sg.vm.findClass RX11 = some mg.cls := hown
  have hl : lv_has ls 4 [(0, .ref mm), (1, .int x), (2, .int y)] := hl
  have C0 : ckC pg sg mg ([.ref mm, .int x, .int y]).toArray cg cX11_go 4 RX11 N Ag := ⟨⟨hx, hb, hml, hown, hg⟩, hE, hA⟩
  generalize hHe : sg.heap = H at hP
  have hS : va_S Ag sg.heap H [] := hHe ▸ hS
  refine lv_aload_n hx hb dX11_go_0 rfl (lv_at hl 0 rfl) ?_
  refine lv_iload_n hx hb dX11_go_1 rfl (lv_at hl 1 rfl) ?_
  refine ck_Vi (As := [.int x]) (rest := []) (wr := [(ak, .inl (N.2 0, 11440, .inl kp))]) C0 hP hD hS (c_X11_isFlyer l N mm an ak ab az as_ ae ao ar aw al am af ac ke kn fd mn nw cf n wk tr di fo w sdf wof shf twf x hV (by omega)) myX11_isFlyer k4_92 ⟨Nat.le_of_ble_eq_true rfl, Nat.le_of_ble_eq_true rfl⟩ [0, 1] [2] ⟨⟨rfl, rfl⟩, by decide, by decide, by decide⟩ 0 rfl rfl rfl rfl hl.1 rfl (Nat.le_of_ble_eq_true rfl) dX11_go_2 ⟨Nat.le_of_ble_eq_true rfl, Nat.le_of_ble_eq_true rfl⟩ (fun r_1 u0 H locs hw0 hP hD hS => ?_)
  have hw_2 : r_1 = (b2i (ckLt x cf)) := hw0
  subst hw_2
  have hP : va_P N.1 vwCl [(ak, .inl (N.2 0, 11440, .inl kp)), (mm, .inr (11, [.ref an, .ref ak, .int (nI ke), .int (nI kn), .int fd, .ref ab, .ref az, .ref as_, .ref ae, .ref ao, .ref ar, .ref aw, .ref al, .ref am, .int (nI mn), .ref af, .ref ac])), (an, .inl (N.2 0, 572, .inl nw))] H := hP
  have hD : va_D Ag [(ak, .inl (N.2 0, 11440, .inl kp)), (mm, .inr (11, [.ref an, .ref ak, .int (nI ke), .int (nI kn), .int fd, .ref ab, .ref az, .ref as_, .ref ae, .ref ao, .ref ar, .ref aw, .ref al, .ref am, .int (nI mn), .ref af, .ref ac])), (an, .inl (N.2 0, 572, .inl nw))] := hD
  refine ck_ifeq (b := ckLt x cf) (tgt := 19) hx hb dX11_go_5 (by decide) (fun cz_3 => ?_) (fun cz_3 => ?_)
  · refine lv_aload_n hx hb dX11_go_19 rfl (lv_at hl 0 rfl) ?_
    refine lv_ldc (own := RX11) (v := (-100001)) hx hb hown (hg _ k4_81) dX11_go_20 ?_
    refine ck_Vi (As := [.int (-100001)]) (rest := []) (wr := [(ak, .inl (N.2 0, 11440, .inl kp)), (an, .inl (N.2 0, 572, .inl nw))]) C0 hP hD hS (c_X11_finds l N mm an ak ab az as_ ae ao ar aw al am af ac ke kn fd mn (-100001) ) myX11_finds k4_67 ⟨Nat.le_of_ble_eq_true rfl, Nat.le_of_ble_eq_true rfl⟩ [1] [0, 2] ⟨⟨rfl, rfl⟩, by decide, by decide, by decide⟩ 1 rfl rfl rfl rfl hl.1 rfl (Nat.le_of_ble_eq_true rfl) dX11_go_22 ⟨Nat.le_of_ble_eq_true rfl, Nat.le_of_ble_eq_true rfl⟩ (fun r_4 u0 H locs hw0 hP hD hS => ?_)
    have hw_5 : r_4 = (-100001) := hw0
    subst hw_5
    have hP : va_P N.1 vwCl [(ak, .inl (N.2 0, 11440, .inl kp)), (an, .inl (N.2 0, 572, .inl nw)), (mm, .inr (11, [.ref an, .ref ak, .int (nI ke), .int (nI kn), .int (fd + nI 1), .ref ab, .ref az, .ref as_, .ref ae, .ref ao, .ref ar, .ref aw, .ref al, .ref am, .int (nI mn), .ref af, .ref ac]))] H := hP
    have hD : va_D Ag [(ak, .inl (N.2 0, 11440, .inl kp)), (an, .inl (N.2 0, 572, .inl nw)), (mm, .inr (11, [.ref an, .ref ak, .int (nI ke), .int (nI kn), .int (fd + nI 1), .ref ab, .ref az, .ref as_, .ref ae, .ref ao, .ref ar, .ref aw, .ref al, .ref am, .int (nI mn), .ref af, .ref ac]))] := hD
    exact ck_iret hx hb hrt hlk ⟨(fd + nI 1), ke, kn, nw, kp⟩ (by have he : goF cf x y = (-100001) := (by simp [goF, cz_3]); exact ⟨ckRd_f he (by decide), Or.inr ⟨fun q => absurd (he.symm.trans q) (by decide), rfl, rfl, rfl, rfl⟩⟩) (hP.sub [2, 1, 0] rfl) (hD.sub [2, 1, 0] (by decide) rfl) hS ⟨Nat.le_of_ble_eq_true rfl, Nat.le_of_ble_eq_true rfl⟩ dX11_go_25
  refine lv_iload_n hx hb dX11_go_8 rfl (lv_at hl 2 rfl) ?_
  refine lv_iconst (v := (nI 0)) hx hb dX11_go_9 (by decide) ?_
  refine lv_sipush (v := (nI 9999)) hx hb dX11_go_10 (by decide) ?_
  refine ck_Si (As := [.int y, .int (nI 0), .int (nI 9999)]) (rest := []) (wr := [(ak, .inl (N.2 0, 11440, .inl kp)), (mm, .inr (11, [.ref an, .ref ak, .int (nI ke), .int (nI kn), .int fd, .ref ab, .ref az, .ref as_, .ref ae, .ref ao, .ref ar, .ref aw, .ref al, .ref am, .int (nI mn), .ref af, .ref ac])), (an, .inl (N.2 0, 572, .inl nw))]) C0 hP hD hS (c_X11_in l N y (nI 0) (nI 9999) ) myX11_in k4_75 ⟨Nat.le_of_ble_eq_true rfl, Nat.le_of_ble_eq_true rfl⟩ [] [0, 1, 2] ⟨⟨rfl, rfl⟩, by decide, by decide, by decide⟩ rfl hl.1 rfl (Nat.le_of_ble_eq_true rfl) dX11_go_13 ⟨Nat.le_of_ble_eq_true rfl, Nat.le_of_ble_eq_true rfl⟩ (fun r_6 u0 H locs hw0 hP hD hS => ?_)
  have hw_7 : r_6 = (b2i (ckIn y (nI 0) (nI 9999))) := hw0
  subst hw_7
  have hP : va_P N.1 vwCl [(ak, .inl (N.2 0, 11440, .inl kp)), (mm, .inr (11, [.ref an, .ref ak, .int (nI ke), .int (nI kn), .int fd, .ref ab, .ref az, .ref as_, .ref ae, .ref ao, .ref ar, .ref aw, .ref al, .ref am, .int (nI mn), .ref af, .ref ac])), (an, .inl (N.2 0, 572, .inl nw))] H := hP
  have hD : va_D Ag [(ak, .inl (N.2 0, 11440, .inl kp)), (mm, .inr (11, [.ref an, .ref ak, .int (nI ke), .int (nI kn), .int fd, .ref ab, .ref az, .ref as_, .ref ae, .ref ao, .ref ar, .ref aw, .ref al, .ref am, .int (nI mn), .ref af, .ref ac])), (an, .inl (N.2 0, 572, .inl nw))] := hD
  refine ck_ifne (b := ckIn y (nI 0) (nI 9999)) (tgt := 26) hx hb dX11_go_16 (by decide) (fun cz_8 => ?_) (fun cz_8 => ?_)
  · obtain ⟨i, hi, rfl⟩ := (ckLt_t (by omega)).mp cz_3
    have exi : ix (nI i) = i := ix_nI (by omega)
    obtain ⟨k, -, hk, rfl⟩ := (ckIn_n (by decide) (by decide)).mp cz_8
    have exk : ix (nI k) = k := ix_nI (by omega)
    refine lv_aload_n hx hb dX11_go_26 rfl (lv_at hl 0 rfl) ?_
    refine ck_Vv (As := []) (rest := []) (wr := []) C0 hP hD hS (c_X11_keep l N mm an ak ab az as_ ae ao ar aw al am af ac ke kn fd mn nw kp (by omega) (by omega)) myX11_keep k4_84 ⟨Nat.le_of_ble_eq_true rfl, Nat.le_of_ble_eq_true rfl⟩ [1, 2, 0] [] ⟨⟨rfl, rfl⟩, by decide, by decide, by decide⟩ 1 rfl rfl rfl rfl hl.1 rfl (Nat.le_of_ble_eq_true rfl) dX11_go_27 ⟨Nat.le_of_ble_eq_true rfl, Nat.le_of_ble_eq_true rfl⟩ (fun u0 H locs hw0 hP hD hS => ?_)
    have hP : va_P N.1 vwCl [(mm, .inr (11, [.ref an, .ref ak, .int (nI ((ke + 1) % 20)), .int (nI (min (kn + 1) 20)), .int fd, .ref ab, .ref az, .ref as_, .ref ae, .ref ao, .ref ar, .ref aw, .ref al, .ref am, .int (nI mn), .ref af, .ref ac])), (an, .inl (N.2 0, 572, .inl nw)), (ak, .inl (N.2 0, 11440, .inl (guT kp (572 * ke) nw 572)))] H := hP
    have hD : va_D Ag [(mm, .inr (11, [.ref an, .ref ak, .int (nI ((ke + 1) % 20)), .int (nI (min (kn + 1) 20)), .int fd, .ref ab, .ref az, .ref as_, .ref ae, .ref ao, .ref ar, .ref aw, .ref al, .ref am, .int (nI mn), .ref af, .ref ac])), (an, .inl (N.2 0, 572, .inl nw)), (ak, .inl (N.2 0, 11440, .inl (guT kp (572 * ke) nw 572)))] := hD
    refine lv_bipush (v := (nI 100)) hx hb dX11_go_30 (by decide) ?_
    refine lv_aload_n hx hb dX11_go_32 rfl (lv_at hl 0 rfl) ?_
    refine lv_iload_n hx hb dX11_go_33 rfl (lv_at hl 1 rfl) ?_
    refine lv_iconst (v := (nI 1)) hx hb dX11_go_34 (by decide) ?_
    refine ck_Vi (As := [.int (nI i), .int (nI 1)]) (rest := [.int (nI 100)]) (wr := [(ak, .inl (N.2 0, 11440, .inl (guT kp (572 * ke) nw 572)))]) C0 hP hD hS (c_X11_ofFlyer l N mm an ak ab az as_ ae ao ar aw al am af ac ((ke + 1) % 20) (min (kn + 1) 20) fd mn nw cf n wk tr di fo w sdf wof shf twf i 1 hV (by omega)) myX11_ofFlyer k4_96 ⟨Nat.le_of_ble_eq_true rfl, Nat.le_of_ble_eq_true rfl⟩ [0, 1] [2] ⟨⟨rfl, rfl⟩, by decide, by decide, by decide⟩ 0 rfl rfl rfl rfl hl.1 rfl (Nat.le_of_ble_eq_true rfl) dX11_go_35 ⟨Nat.le_of_ble_eq_true rfl, Nat.le_of_ble_eq_true rfl⟩ (fun r_11 u0 H locs hw0 hP hD hS => ?_)
    have hw_12 : r_11 = (tr (i * 8 + 1)) := hw0
    subst hw_12
    have hP : va_P N.1 vwCl [(ak, .inl (N.2 0, 11440, .inl (guT kp (572 * ke) nw 572))), (mm, .inr (11, [.ref an, .ref ak, .int (nI ((ke + 1) % 20)), .int (nI (min (kn + 1) 20)), .int fd, .ref ab, .ref az, .ref as_, .ref ae, .ref ao, .ref ar, .ref aw, .ref al, .ref am, .int (nI mn), .ref af, .ref ac])), (an, .inl (N.2 0, 572, .inl nw))] H := hP
    have hD : va_D Ag [(ak, .inl (N.2 0, 11440, .inl (guT kp (572 * ke) nw 572))), (mm, .inr (11, [.ref an, .ref ak, .int (nI ((ke + 1) % 20)), .int (nI (min (kn + 1) 20)), .int fd, .ref ab, .ref az, .ref as_, .ref ae, .ref ao, .ref ar, .ref aw, .ref al, .ref am, .int (nI mn), .ref af, .ref ac])), (an, .inl (N.2 0, 572, .inl nw))] := hD
    refine lv_imul hx hb dX11_go_38 ?_
    refine lv_aload_n hx hb dX11_go_39 rfl (lv_at hl 0 rfl) ?_
    refine lv_iload_n hx hb dX11_go_40 rfl (lv_at hl 1 rfl) ?_
    refine lv_iconst (v := (nI 2)) hx hb dX11_go_41 (by decide) ?_
    refine ck_Vi (As := [.int (nI i), .int (nI 2)]) (rest := [.int ((nI 100) * (tr (i * 8 + 1)))]) (wr := [(ak, .inl (N.2 0, 11440, .inl (guT kp (572 * ke) nw 572)))]) C0 hP hD hS (c_X11_ofFlyer l N mm an ak ab az as_ ae ao ar aw al am af ac ((ke + 1) % 20) (min (kn + 1) 20) fd mn nw cf n wk tr di fo w sdf wof shf twf i 2 hV (by omega)) myX11_ofFlyer k4_96 ⟨Nat.le_of_ble_eq_true rfl, Nat.le_of_ble_eq_true rfl⟩ [1, 2] [0] ⟨⟨rfl, rfl⟩, by decide, by decide, by decide⟩ 1 rfl rfl rfl rfl hl.1 rfl (Nat.le_of_ble_eq_true rfl) dX11_go_42 ⟨Nat.le_of_ble_eq_true rfl, Nat.le_of_ble_eq_true rfl⟩ (fun r_13 u0 H locs hw0 hP hD hS => ?_)
    have hw_14 : r_13 = (tr (i * 8 + 2)) := hw0
    subst hw_14
    have hP : va_P N.1 vwCl [(ak, .inl (N.2 0, 11440, .inl (guT kp (572 * ke) nw 572))), (mm, .inr (11, [.ref an, .ref ak, .int (nI ((ke + 1) % 20)), .int (nI (min (kn + 1) 20)), .int fd, .ref ab, .ref az, .ref as_, .ref ae, .ref ao, .ref ar, .ref aw, .ref al, .ref am, .int (nI mn), .ref af, .ref ac])), (an, .inl (N.2 0, 572, .inl nw))] H := hP
    have hD : va_D Ag [(ak, .inl (N.2 0, 11440, .inl (guT kp (572 * ke) nw 572))), (mm, .inr (11, [.ref an, .ref ak, .int (nI ((ke + 1) % 20)), .int (nI (min (kn + 1) 20)), .int fd, .ref ab, .ref az, .ref as_, .ref ae, .ref ao, .ref ar, .ref aw, .ref al, .ref am, .int (nI mn), .ref af, .ref ac])), (an, .inl (N.2 0, 572, .inl nw))] := hD
    refine lv_iadd hx hb dX11_go_45 ?_
    refine lv_istore_n (lv' := [(3, .int (((nI 100) * (tr (i * 8 + 1))) + (tr (i * 8 + 2)))), (0, .ref mm), (1, .int (nI i)), (2, .int (nI k))]) hx hb dX11_go_46 rfl hl (by decide) rfl (fun ls hl => ?_)
    refine lv_aload_n hx hb dX11_go_47 rfl (lv_at hl 1 rfl) ?_
    refine va_get (ci := 11) (v := .ref an) (C := RX11) (T := TX11) (N := 17) hx hb hg inX11 hown hE.1 hP 1 rfl rfl 0 (by decide) (hg _ k4_10) (fun _ h9 => h9) rfl dX11_go_48 ?_
    refine lv_iconst (v := (nI 3)) hx hb dX11_go_51 (by decide) ?_
    refine lv_bipush (v := (nI 8)) hx hb dX11_go_52 (by decide) ?_
    refine lv_iload_n hx hb dX11_go_54 rfl (lv_at hl 2 rfl) ?_
    refine lv_imul hx hb dX11_go_55 ?_
    refine ck_top (y := (nI (8 * i))) (pk_mul _ _) ?_
    refine lv_iadd hx hb dX11_go_56 ?_
    refine ck_top (y := (nI (3 + (8 * i)))) (nI_add _ _) ?_
    refine lv_iconst (v := (nI 1)) hx hb dX11_go_57 (by decide) ?_
    refine lv_iadd hx hb dX11_go_58 ?_
    refine ck_top (y := (nI (3 + (8 * i) + 1))) (nI_add _ _) ?_
    refine lv_iload_n hx hb dX11_go_59 rfl (lv_at hl 3 rfl) ?_
    refine lv_bipush (v := (nI 100)) hx hb dX11_go_60 (by decide) ?_
    refine lv_idiv hx hb dX11_go_62 (by decide) ?_
    refine ck_top (y := (nI (k / 100))) (pk_div (by omega) (by omega) (by omega)) ?_
    refine ck_iast hx hb hE hP hD hS 2 rfl (by omega) (by decide) dX11_go_63 (ws1 := [(ak, .inl (N.2 0, 11440, .inl (guT kp (572 * ke) nw 572))), (mm, .inr (11, [.ref an, .ref ak, .int (nI ((ke + 1) % 20)), .int (nI (min (kn + 1) 20)), .int fd, .ref ab, .ref az, .ref as_, .ref ae, .ref ao, .ref ar, .ref aw, .ref al, .ref am, .int (nI mn), .ref af, .ref ac])), (an, .inl (N.2 0, 572, .inl (upd nw (3 + (8 * i) + 1) (nI (k / 100)))))]) rfl (fun H locs hP hD hS => ?_)
    refine lv_aload_n hx hb dX11_go_64 rfl (lv_at hl 1 rfl) ?_
    refine va_get (ci := 11) (v := .ref an) (C := RX11) (T := TX11) (N := 17) hx hb hg inX11 hown hE.1 hP 1 rfl rfl 0 (by decide) (hg _ k4_10) (fun _ h9 => h9) rfl dX11_go_65 ?_
    refine lv_iconst (v := (nI 3)) hx hb dX11_go_68 (by decide) ?_
    refine lv_bipush (v := (nI 8)) hx hb dX11_go_69 (by decide) ?_
    refine lv_iload_n hx hb dX11_go_71 rfl (lv_at hl 2 rfl) ?_
    refine lv_imul hx hb dX11_go_72 ?_
    refine ck_top (y := (nI (8 * i))) (pk_mul _ _) ?_
    refine lv_iadd hx hb dX11_go_73 ?_
    refine ck_top (y := (nI (3 + (8 * i)))) (nI_add _ _) ?_
    refine lv_iconst (v := (nI 2)) hx hb dX11_go_74 (by decide) ?_
    refine lv_iadd hx hb dX11_go_75 ?_
    refine ck_top (y := (nI (3 + (8 * i) + 2))) (nI_add _ _) ?_
    refine lv_iload_n hx hb dX11_go_76 rfl (lv_at hl 3 rfl) ?_
    refine lv_bipush (v := (nI 100)) hx hb dX11_go_77 (by decide) ?_
    refine lv_irem hx hb dX11_go_79 (by decide) ?_
    refine ck_top (y := (nI (k % 100))) (pk_rem (by omega) (by omega) (by omega)) ?_
    refine ck_iast hx hb hE hP hD hS 2 rfl (by omega) (by decide) dX11_go_80 (ws1 := [(ak, .inl (N.2 0, 11440, .inl (guT kp (572 * ke) nw 572))), (mm, .inr (11, [.ref an, .ref ak, .int (nI ((ke + 1) % 20)), .int (nI (min (kn + 1) 20)), .int fd, .ref ab, .ref az, .ref as_, .ref ae, .ref ao, .ref ar, .ref aw, .ref al, .ref am, .int (nI mn), .ref af, .ref ac])), (an, .inl (N.2 0, 572, .inl (upd (upd nw (3 + (8 * i) + 1) (nI (k / 100))) (3 + (8 * i) + 2) (nI (k % 100)))))]) rfl (fun H locs hP hD hS => ?_)
    refine lv_iload_n hx hb dX11_go_81 rfl (lv_at hl 0 rfl) ?_
    exact ck_iret hx hb hrt hlk ⟨fd, ((ke + 1) % 20), (min (kn + 1) 20), upd (upd nw (3 + (8 * i) + 1) (nI (k / 100))) (3 + (8 * i) + 2) (nI (k % 100)), guT kp (572 * ke) nw 572⟩ (by have he : goF cf (nI i) (nI k) = 0 := (by simp [goF, cz_3, cz_8, exi, exk]); exact ⟨ckRd_ok he (by rw [exi]), Or.inl ⟨he, rfl, rfl, rfl, (by rw [exi, exk, show 3 + 8 * i + 1 = 3 + (i * 8 + 1) by omega, show 3 + 8 * i + 2 = 3 + (i * 8 + 2) by omega]; exact mV_tr (mV_tr hV hn (by omega)) hn (by omega))⟩⟩) (hP.sub [1, 2, 0] rfl) (hD.sub [1, 2, 0] (by decide) rfl) hS ⟨Nat.le_of_ble_eq_true rfl, Nat.le_of_ble_eq_true rfl⟩ dX11_go_82
  refine lv_aload_n hx hb dX11_go_19 rfl (lv_at hl 0 rfl) ?_
  refine lv_ldc (own := RX11) (v := (-100001)) hx hb hown (hg _ k4_81) dX11_go_20 ?_
  refine ck_Vi (As := [.int (-100001)]) (rest := []) (wr := [(ak, .inl (N.2 0, 11440, .inl kp)), (an, .inl (N.2 0, 572, .inl nw))]) C0 hP hD hS (c_X11_finds l N mm an ak ab az as_ ae ao ar aw al am af ac ke kn fd mn (-100001) ) myX11_finds k4_67 ⟨Nat.le_of_ble_eq_true rfl, Nat.le_of_ble_eq_true rfl⟩ [1] [0, 2] ⟨⟨rfl, rfl⟩, by decide, by decide, by decide⟩ 1 rfl rfl rfl rfl hl.1 rfl (Nat.le_of_ble_eq_true rfl) dX11_go_22 ⟨Nat.le_of_ble_eq_true rfl, Nat.le_of_ble_eq_true rfl⟩ (fun r_15 u0 H locs hw0 hP hD hS => ?_)
  have hw_16 : r_15 = (-100001) := hw0
  subst hw_16
  have hP : va_P N.1 vwCl [(ak, .inl (N.2 0, 11440, .inl kp)), (an, .inl (N.2 0, 572, .inl nw)), (mm, .inr (11, [.ref an, .ref ak, .int (nI ke), .int (nI kn), .int (fd + nI 1), .ref ab, .ref az, .ref as_, .ref ae, .ref ao, .ref ar, .ref aw, .ref al, .ref am, .int (nI mn), .ref af, .ref ac]))] H := hP
  have hD : va_D Ag [(ak, .inl (N.2 0, 11440, .inl kp)), (an, .inl (N.2 0, 572, .inl nw)), (mm, .inr (11, [.ref an, .ref ak, .int (nI ke), .int (nI kn), .int (fd + nI 1), .ref ab, .ref az, .ref as_, .ref ae, .ref ao, .ref ar, .ref aw, .ref al, .ref am, .int (nI mn), .ref af, .ref ac]))] := hD
  exact ck_iret hx hb hrt hlk ⟨(fd + nI 1), ke, kn, nw, kp⟩ (by have he : goF cf x y = (-100001) := (by simp [goF, cz_3, cz_8]); exact ⟨ckRd_f he (by decide), Or.inr ⟨fun q => absurd (he.symm.trans q) (by decide), rfl, rfl, rfl, rfl⟩⟩) (hP.sub [2, 1, 0] rfl) (hD.sub [2, 1, 0] (by decide) rfl) hS ⟨Nat.le_of_ble_eq_true rfl, Nat.le_of_ble_eq_true rfl⟩ dX11_go_25
set_option maxHeartbeats 4000000 in
set_option maxRecDepth 100000 in
/-- X11_line -/
theorem c_X11_line (l : Launch) (N : ckN) (mm : Nat) (an : Nat) (ak : Nat) (ab : Nat) (az : Nat) (as_ : Nat) (ae : Nat) (ao : Nat) (ar : Nat) (aw : Nat) (al : Nat) (am : Nat) (af : Nat) (ac : Nat) (ke : Nat) (kn : Nat) (fd : Int32) (mn : Nat) (nw : Nat → Int32) (kp : Nat → Int32) (cf : Nat) (n : Nat) (wk : Int32) (tr : Nat → Int32) (di : Nat → Int32) (fo : Nat → Int32) (w : Nat → List Nat) (sdf : Nat → Int32) (wof : Nat → Int32) (shf : Nat → Int32) (twf : Nat → Int32) (x : Int32) (y : Int32) (hV : mV nw cf n wk tr di fo w sdf wof shf twf) (hn : n ≤ 5) (hke : ke < 20) (hkn : kn ≤ 20) (hcf : cf ≤ 8) : ckI l yX11_line cX11_line 4 (some FieldType.int) { frames := 4, cells := 0, slots := 0, locals := 103 } N [.ref mm, .int x, .int y] [(mm, .inr (11, [.ref an, .ref ak, .int (nI ke), .int (nI kn), .int fd, .ref ab, .ref az, .ref as_, .ref ae, .ref ao, .ref ar, .ref aw, .ref al, .ref am, .int (nI mn), .ref af, .ref ac])), (an, .inl (N.2 0, 572, .inl nw)), (ak, .inl (N.2 0, 11440, .inl kp))] (fun (r : Int32) (u : Int32 × Nat × Nat × (Nat → Int32) × (Nat → Int32)) => (ckRd (liF cf x y) (tr (ix x * 8 + 4)) fd r u.1) ∧ ((liF cf x y = 0 ∧ u.2.1 = (ke + 1) % 20 ∧ u.2.2.1 = min (kn + 1) 20 ∧ u.2.2.2.2 = guT kp (572 * ke) nw 572 ∧ mV u.2.2.2.1 cf n wk (upd tr (ix x * 8 + 4) y) di fo w sdf wof shf twf) ∨ (liF cf x y ≠ 0 ∧ u.2.1 = ke ∧ u.2.2.1 = kn ∧ u.2.2.2.2 = kp ∧ u.2.2.2.1 = nw))) (fun (u : Int32 × Nat × Nat × (Nat → Int32) × (Nat → Int32)) => [(mm, .inr (11, [.ref an, .ref ak, .int (nI u.2.1), .int (nI u.2.2.1), .int u.1, .ref ab, .ref az, .ref as_, .ref ae, .ref ao, .ref ar, .ref aw, .ref al, .ref am, .int (nI mn), .ref af, .ref ac])), (an, .inl (N.2 0, 572, .inl u.2.2.2.1)), (ak, .inl (N.2 0, 11440, .inl u.2.2.2.2))]) := by
  refine ckI.of (by decide) (Nat.le_of_ble_eq_true rfl) ?_
  intro pg eg sg mg blw mth cg Ag ls hx hb hrt hml hown hlk hin hg hE hA hP hD hS hl
  have hown : sg.vm.findClass RX11 = some mg.cls := hown
  have hl : lv_has ls 4 [(0, .ref mm), (1, .int x), (2, .int y)] := hl
  have C0 : ckC pg sg mg ([.ref mm, .int x, .int y]).toArray cg cX11_line 4 RX11 N Ag := ⟨⟨hx, hb, hml, hown, hg⟩, hE, hA⟩
  generalize hHe : sg.heap = H at hP
  have hS : va_S Ag sg.heap H [] := hHe ▸ hS
  refine lv_aload_n hx hb dX11_line_0 rfl (lv_at hl 0 rfl) ?_
  refine lv_iload_n hx hb dX11_line_1 rfl (lv_at hl 1 rfl) ?_
  refine ck_Vi (As := [.int x]) (rest := []) (wr := [(ak, .inl (N.2 0, 11440, .inl kp))]) C0 hP hD hS (c_X11_isFlyer l N mm an ak ab az as_ ae ao ar aw al am af ac ke kn fd mn nw cf n wk tr di fo w sdf wof shf twf x hV (by omega)) myX11_isFlyer k4_92 ⟨Nat.le_of_ble_eq_true rfl, Nat.le_of_ble_eq_true rfl⟩ [0, 1] [2] ⟨⟨rfl, rfl⟩, by decide, by decide, by decide⟩ 0 rfl rfl rfl rfl hl.1 rfl (Nat.le_of_ble_eq_true rfl) dX11_line_2 ⟨Nat.le_of_ble_eq_true rfl, Nat.le_of_ble_eq_true rfl⟩ (fun r_1 u0 H locs hw0 hP hD hS => ?_)
  have hw_2 : r_1 = (b2i (ckLt x cf)) := hw0
  subst hw_2
  have hP : va_P N.1 vwCl [(ak, .inl (N.2 0, 11440, .inl kp)), (mm, .inr (11, [.ref an, .ref ak, .int (nI ke), .int (nI kn), .int fd, .ref ab, .ref az, .ref as_, .ref ae, .ref ao, .ref ar, .ref aw, .ref al, .ref am, .int (nI mn), .ref af, .ref ac])), (an, .inl (N.2 0, 572, .inl nw))] H := hP
  have hD : va_D Ag [(ak, .inl (N.2 0, 11440, .inl kp)), (mm, .inr (11, [.ref an, .ref ak, .int (nI ke), .int (nI kn), .int fd, .ref ab, .ref az, .ref as_, .ref ae, .ref ao, .ref ar, .ref aw, .ref al, .ref am, .int (nI mn), .ref af, .ref ac])), (an, .inl (N.2 0, 572, .inl nw))] := hD
  refine ck_ifeq (b := ckLt x cf) (tgt := 18) hx hb dX11_line_5 (by decide) (fun cz_3 => ?_) (fun cz_3 => ?_)
  · refine lv_aload_n hx hb dX11_line_18 rfl (lv_at hl 0 rfl) ?_
    refine lv_ldc (own := RX11) (v := (-100001)) hx hb hown (hg _ k4_81) dX11_line_19 ?_
    refine ck_Vi (As := [.int (-100001)]) (rest := []) (wr := [(ak, .inl (N.2 0, 11440, .inl kp)), (an, .inl (N.2 0, 572, .inl nw))]) C0 hP hD hS (c_X11_finds l N mm an ak ab az as_ ae ao ar aw al am af ac ke kn fd mn (-100001) ) myX11_finds k4_67 ⟨Nat.le_of_ble_eq_true rfl, Nat.le_of_ble_eq_true rfl⟩ [1] [0, 2] ⟨⟨rfl, rfl⟩, by decide, by decide, by decide⟩ 1 rfl rfl rfl rfl hl.1 rfl (Nat.le_of_ble_eq_true rfl) dX11_line_21 ⟨Nat.le_of_ble_eq_true rfl, Nat.le_of_ble_eq_true rfl⟩ (fun r_4 u0 H locs hw0 hP hD hS => ?_)
    have hw_5 : r_4 = (-100001) := hw0
    subst hw_5
    have hP : va_P N.1 vwCl [(ak, .inl (N.2 0, 11440, .inl kp)), (an, .inl (N.2 0, 572, .inl nw)), (mm, .inr (11, [.ref an, .ref ak, .int (nI ke), .int (nI kn), .int (fd + nI 1), .ref ab, .ref az, .ref as_, .ref ae, .ref ao, .ref ar, .ref aw, .ref al, .ref am, .int (nI mn), .ref af, .ref ac]))] H := hP
    have hD : va_D Ag [(ak, .inl (N.2 0, 11440, .inl kp)), (an, .inl (N.2 0, 572, .inl nw)), (mm, .inr (11, [.ref an, .ref ak, .int (nI ke), .int (nI kn), .int (fd + nI 1), .ref ab, .ref az, .ref as_, .ref ae, .ref ao, .ref ar, .ref aw, .ref al, .ref am, .int (nI mn), .ref af, .ref ac]))] := hD
    exact ck_iret hx hb hrt hlk ⟨(fd + nI 1), ke, kn, nw, kp⟩ (by have he : liF cf x y = (-100001) := (by simp [liF, cz_3]); exact ⟨ckRd_f he (by decide), Or.inr ⟨fun q => absurd (he.symm.trans q) (by decide), rfl, rfl, rfl, rfl⟩⟩) (hP.sub [2, 1, 0] rfl) (hD.sub [2, 1, 0] (by decide) rfl) hS ⟨Nat.le_of_ble_eq_true rfl, Nat.le_of_ble_eq_true rfl⟩ dX11_line_24
  refine lv_iload_n hx hb dX11_line_8 rfl (lv_at hl 2 rfl) ?_
  refine lv_iconst (v := (nI 1)) hx hb dX11_line_9 (by decide) ?_
  refine lv_bipush (v := (nI 40)) hx hb dX11_line_10 (by decide) ?_
  refine ck_Si (As := [.int y, .int (nI 1), .int (nI 40)]) (rest := []) (wr := [(ak, .inl (N.2 0, 11440, .inl kp)), (mm, .inr (11, [.ref an, .ref ak, .int (nI ke), .int (nI kn), .int fd, .ref ab, .ref az, .ref as_, .ref ae, .ref ao, .ref ar, .ref aw, .ref al, .ref am, .int (nI mn), .ref af, .ref ac])), (an, .inl (N.2 0, 572, .inl nw))]) C0 hP hD hS (c_X11_in l N y (nI 1) (nI 40) ) myX11_in k4_75 ⟨Nat.le_of_ble_eq_true rfl, Nat.le_of_ble_eq_true rfl⟩ [] [0, 1, 2] ⟨⟨rfl, rfl⟩, by decide, by decide, by decide⟩ rfl hl.1 rfl (Nat.le_of_ble_eq_true rfl) dX11_line_12 ⟨Nat.le_of_ble_eq_true rfl, Nat.le_of_ble_eq_true rfl⟩ (fun r_6 u0 H locs hw0 hP hD hS => ?_)
  have hw_7 : r_6 = (b2i (ckIn y (nI 1) (nI 40))) := hw0
  subst hw_7
  have hP : va_P N.1 vwCl [(ak, .inl (N.2 0, 11440, .inl kp)), (mm, .inr (11, [.ref an, .ref ak, .int (nI ke), .int (nI kn), .int fd, .ref ab, .ref az, .ref as_, .ref ae, .ref ao, .ref ar, .ref aw, .ref al, .ref am, .int (nI mn), .ref af, .ref ac])), (an, .inl (N.2 0, 572, .inl nw))] H := hP
  have hD : va_D Ag [(ak, .inl (N.2 0, 11440, .inl kp)), (mm, .inr (11, [.ref an, .ref ak, .int (nI ke), .int (nI kn), .int fd, .ref ab, .ref az, .ref as_, .ref ae, .ref ao, .ref ar, .ref aw, .ref al, .ref am, .int (nI mn), .ref af, .ref ac])), (an, .inl (N.2 0, 572, .inl nw))] := hD
  refine ck_ifne (b := ckIn y (nI 1) (nI 40)) (tgt := 25) hx hb dX11_line_15 (by decide) (fun cz_8 => ?_) (fun cz_8 => ?_)
  · obtain ⟨i, hi, rfl⟩ := (ckLt_t (by omega)).mp cz_3
    have exi : ix (nI i) = i := ix_nI (by omega)
    refine lv_aload_n hx hb dX11_line_25 rfl (lv_at hl 0 rfl) ?_
    refine ck_Vv (As := []) (rest := []) (wr := []) C0 hP hD hS (c_X11_keep l N mm an ak ab az as_ ae ao ar aw al am af ac ke kn fd mn nw kp (by omega) (by omega)) myX11_keep k4_84 ⟨Nat.le_of_ble_eq_true rfl, Nat.le_of_ble_eq_true rfl⟩ [1, 2, 0] [] ⟨⟨rfl, rfl⟩, by decide, by decide, by decide⟩ 1 rfl rfl rfl rfl hl.1 rfl (Nat.le_of_ble_eq_true rfl) dX11_line_26 ⟨Nat.le_of_ble_eq_true rfl, Nat.le_of_ble_eq_true rfl⟩ (fun u0 H locs hw0 hP hD hS => ?_)
    have hP : va_P N.1 vwCl [(mm, .inr (11, [.ref an, .ref ak, .int (nI ((ke + 1) % 20)), .int (nI (min (kn + 1) 20)), .int fd, .ref ab, .ref az, .ref as_, .ref ae, .ref ao, .ref ar, .ref aw, .ref al, .ref am, .int (nI mn), .ref af, .ref ac])), (an, .inl (N.2 0, 572, .inl nw)), (ak, .inl (N.2 0, 11440, .inl (guT kp (572 * ke) nw 572)))] H := hP
    have hD : va_D Ag [(mm, .inr (11, [.ref an, .ref ak, .int (nI ((ke + 1) % 20)), .int (nI (min (kn + 1) 20)), .int fd, .ref ab, .ref az, .ref as_, .ref ae, .ref ao, .ref ar, .ref aw, .ref al, .ref am, .int (nI mn), .ref af, .ref ac])), (an, .inl (N.2 0, 572, .inl nw)), (ak, .inl (N.2 0, 11440, .inl (guT kp (572 * ke) nw 572)))] := hD
    refine lv_aload_n hx hb dX11_line_29 rfl (lv_at hl 0 rfl) ?_
    refine lv_iload_n hx hb dX11_line_30 rfl (lv_at hl 1 rfl) ?_
    refine lv_iconst (v := (nI 4)) hx hb dX11_line_31 (by decide) ?_
    refine ck_Vi (As := [.int (nI i), .int (nI 4)]) (rest := []) (wr := [(ak, .inl (N.2 0, 11440, .inl (guT kp (572 * ke) nw 572)))]) C0 hP hD hS (c_X11_ofFlyer l N mm an ak ab az as_ ae ao ar aw al am af ac ((ke + 1) % 20) (min (kn + 1) 20) fd mn nw cf n wk tr di fo w sdf wof shf twf i 4 hV (by omega)) myX11_ofFlyer k4_96 ⟨Nat.le_of_ble_eq_true rfl, Nat.le_of_ble_eq_true rfl⟩ [0, 1] [2] ⟨⟨rfl, rfl⟩, by decide, by decide, by decide⟩ 0 rfl rfl rfl rfl hl.1 rfl (Nat.le_of_ble_eq_true rfl) dX11_line_32 ⟨Nat.le_of_ble_eq_true rfl, Nat.le_of_ble_eq_true rfl⟩ (fun r_11 u0 H locs hw0 hP hD hS => ?_)
    have hw_12 : r_11 = (tr (i * 8 + 4)) := hw0
    subst hw_12
    have hP : va_P N.1 vwCl [(ak, .inl (N.2 0, 11440, .inl (guT kp (572 * ke) nw 572))), (mm, .inr (11, [.ref an, .ref ak, .int (nI ((ke + 1) % 20)), .int (nI (min (kn + 1) 20)), .int fd, .ref ab, .ref az, .ref as_, .ref ae, .ref ao, .ref ar, .ref aw, .ref al, .ref am, .int (nI mn), .ref af, .ref ac])), (an, .inl (N.2 0, 572, .inl nw))] H := hP
    have hD : va_D Ag [(ak, .inl (N.2 0, 11440, .inl (guT kp (572 * ke) nw 572))), (mm, .inr (11, [.ref an, .ref ak, .int (nI ((ke + 1) % 20)), .int (nI (min (kn + 1) 20)), .int fd, .ref ab, .ref az, .ref as_, .ref ae, .ref ao, .ref ar, .ref aw, .ref al, .ref am, .int (nI mn), .ref af, .ref ac])), (an, .inl (N.2 0, 572, .inl nw))] := hD
    refine lv_istore_n (lv' := [(3, .int (tr (i * 8 + 4))), (0, .ref mm), (1, .int (nI i)), (2, .int y)]) hx hb dX11_line_35 rfl hl (by decide) rfl (fun ls hl => ?_)
    refine lv_aload_n hx hb dX11_line_36 rfl (lv_at hl 1 rfl) ?_
    refine va_get (ci := 11) (v := .ref an) (C := RX11) (T := TX11) (N := 17) hx hb hg inX11 hown hE.1 hP 1 rfl rfl 0 (by decide) (hg _ k4_10) (fun _ h9 => h9) rfl dX11_line_37 ?_
    refine lv_iconst (v := (nI 3)) hx hb dX11_line_40 (by decide) ?_
    refine lv_bipush (v := (nI 8)) hx hb dX11_line_41 (by decide) ?_
    refine lv_iload_n hx hb dX11_line_43 rfl (lv_at hl 2 rfl) ?_
    refine lv_imul hx hb dX11_line_44 ?_
    refine ck_top (y := (nI (8 * i))) (pk_mul _ _) ?_
    refine lv_iadd hx hb dX11_line_45 ?_
    refine ck_top (y := (nI (3 + (8 * i)))) (nI_add _ _) ?_
    refine lv_iconst (v := (nI 4)) hx hb dX11_line_46 (by decide) ?_
    refine lv_iadd hx hb dX11_line_47 ?_
    refine ck_top (y := (nI (3 + (8 * i) + 4))) (nI_add _ _) ?_
    refine lv_iload_n hx hb dX11_line_48 rfl (lv_at hl 3 rfl) ?_
    refine ck_iast hx hb hE hP hD hS 2 rfl (by omega) (by decide) dX11_line_49 (ws1 := [(ak, .inl (N.2 0, 11440, .inl (guT kp (572 * ke) nw 572))), (mm, .inr (11, [.ref an, .ref ak, .int (nI ((ke + 1) % 20)), .int (nI (min (kn + 1) 20)), .int fd, .ref ab, .ref az, .ref as_, .ref ae, .ref ao, .ref ar, .ref aw, .ref al, .ref am, .int (nI mn), .ref af, .ref ac])), (an, .inl (N.2 0, 572, .inl (upd nw (3 + (8 * i) + 4) y)))]) rfl (fun H locs hP hD hS => ?_)
    refine lv_iload_n hx hb dX11_line_50 rfl (lv_at hl 0 rfl) ?_
    exact ck_iret hx hb hrt hlk ⟨fd, ((ke + 1) % 20), (min (kn + 1) 20), upd nw (3 + (8 * i) + 4) y, guT kp (572 * ke) nw 572⟩ (by have he : liF cf (nI i) y = 0 := (by simp [liF, cz_3, cz_8, exi]); exact ⟨ckRd_ok he (by rw [exi]), Or.inl ⟨he, rfl, rfl, rfl, (by rw [exi, show 3 + 8 * i + 4 = 3 + (i * 8 + 4) by omega]; exact mV_tr hV hn (by omega))⟩⟩) (hP.sub [1, 2, 0] rfl) (hD.sub [1, 2, 0] (by decide) rfl) hS ⟨Nat.le_of_ble_eq_true rfl, Nat.le_of_ble_eq_true rfl⟩ dX11_line_51
  refine lv_aload_n hx hb dX11_line_18 rfl (lv_at hl 0 rfl) ?_
  refine lv_ldc (own := RX11) (v := (-100001)) hx hb hown (hg _ k4_81) dX11_line_19 ?_
  refine ck_Vi (As := [.int (-100001)]) (rest := []) (wr := [(ak, .inl (N.2 0, 11440, .inl kp)), (an, .inl (N.2 0, 572, .inl nw))]) C0 hP hD hS (c_X11_finds l N mm an ak ab az as_ ae ao ar aw al am af ac ke kn fd mn (-100001) ) myX11_finds k4_67 ⟨Nat.le_of_ble_eq_true rfl, Nat.le_of_ble_eq_true rfl⟩ [1] [0, 2] ⟨⟨rfl, rfl⟩, by decide, by decide, by decide⟩ 1 rfl rfl rfl rfl hl.1 rfl (Nat.le_of_ble_eq_true rfl) dX11_line_21 ⟨Nat.le_of_ble_eq_true rfl, Nat.le_of_ble_eq_true rfl⟩ (fun r_13 u0 H locs hw0 hP hD hS => ?_)
  have hw_14 : r_13 = (-100001) := hw0
  subst hw_14
  have hP : va_P N.1 vwCl [(ak, .inl (N.2 0, 11440, .inl kp)), (an, .inl (N.2 0, 572, .inl nw)), (mm, .inr (11, [.ref an, .ref ak, .int (nI ke), .int (nI kn), .int (fd + nI 1), .ref ab, .ref az, .ref as_, .ref ae, .ref ao, .ref ar, .ref aw, .ref al, .ref am, .int (nI mn), .ref af, .ref ac]))] H := hP
  have hD : va_D Ag [(ak, .inl (N.2 0, 11440, .inl kp)), (an, .inl (N.2 0, 572, .inl nw)), (mm, .inr (11, [.ref an, .ref ak, .int (nI ke), .int (nI kn), .int (fd + nI 1), .ref ab, .ref az, .ref as_, .ref ae, .ref ao, .ref ar, .ref aw, .ref al, .ref am, .int (nI mn), .ref af, .ref ac]))] := hD
  exact ck_iret hx hb hrt hlk ⟨(fd + nI 1), ke, kn, nw, kp⟩ (by have he : liF cf x y = (-100001) := (by simp [liF, cz_3, cz_8]); exact ⟨ckRd_f he (by decide), Or.inr ⟨fun q => absurd (he.symm.trans q) (by decide), rfl, rfl, rfl, rfl⟩⟩) (hP.sub [2, 1, 0] rfl) (hD.sub [2, 1, 0] (by decide) rfl) hS ⟨Nat.le_of_ble_eq_true rfl, Nat.le_of_ble_eq_true rfl⟩ dX11_line_24
set_option maxHeartbeats 4000000 in
set_option maxRecDepth 100000 in
/-- X11_wind -/
theorem c_X11_wind (l : Launch) (N : ckN) (mm : Nat) (an : Nat) (ak : Nat) (ab : Nat) (az : Nat) (as_ : Nat) (ae : Nat) (ao : Nat) (ar : Nat) (aw : Nat) (al : Nat) (am : Nat) (af : Nat) (ac : Nat) (ke : Nat) (kn : Nat) (fd : Int32) (mn : Nat) (nw : Nat → Int32) (kp : Nat → Int32) (cf : Nat) (n : Nat) (wk : Int32) (tr : Nat → Int32) (di : Nat → Int32) (fo : Nat → Int32) (w : Nat → List Nat) (sdf : Nat → Int32) (wof : Nat → Int32) (shf : Nat → Int32) (twf : Nat → Int32) (x : Int32) (y : Int32) (z : Int32) (v : Int32) (hV : mV nw cf n wk tr di fo w sdf wof shf twf) (hn : n ≤ 5) (hke : ke < 20) (hkn : kn ≤ 20) : ckI l yX11_wind cX11_wind 5 (some FieldType.int) { frames := 4, cells := 0, slots := 0, locals := 102 } N [.ref mm, .int x, .int y, .int z, .int v] [(mm, .inr (11, [.ref an, .ref ak, .int (nI ke), .int (nI kn), .int fd, .ref ab, .ref az, .ref as_, .ref ae, .ref ao, .ref ar, .ref aw, .ref al, .ref am, .int (nI mn), .ref af, .ref ac])), (an, .inl (N.2 0, 572, .inl nw)), (ak, .inl (N.2 0, 11440, .inl kp))] (fun (r : Int32) (u : Int32 × Nat × Nat × (Nat → Int32) × (Nat → Int32)) => (ckRd (wiF x y z v) (0) fd r u.1) ∧ ((wiF x y z v = 0 ∧ u.2.1 = (ke + 1) % 20 ∧ u.2.2.1 = min (kn + 1) 20 ∧ u.2.2.2.2 = guT kp (572 * ke) nw 572 ∧ mV u.2.2.2.1 cf n wk tr (upd di (ix x * 20 + ix y) z) (upd fo (ix x * 20 + ix y) v) w sdf wof shf twf) ∨ (wiF x y z v ≠ 0 ∧ u.2.1 = ke ∧ u.2.2.1 = kn ∧ u.2.2.2.2 = kp ∧ u.2.2.2.1 = nw))) (fun (u : Int32 × Nat × Nat × (Nat → Int32) × (Nat → Int32)) => [(mm, .inr (11, [.ref an, .ref ak, .int (nI u.2.1), .int (nI u.2.2.1), .int u.1, .ref ab, .ref az, .ref as_, .ref ae, .ref ao, .ref ar, .ref aw, .ref al, .ref am, .int (nI mn), .ref af, .ref ac])), (an, .inl (N.2 0, 572, .inl u.2.2.2.1)), (ak, .inl (N.2 0, 11440, .inl u.2.2.2.2))]) := by
  refine ckI.of (by decide) (Nat.le_of_ble_eq_true rfl) ?_
  intro pg eg sg mg blw mth cg Ag ls hx hb hrt hml hown hlk hin hg hE hA hP hD hS hl
  have hown : sg.vm.findClass RX11 = some mg.cls := hown
  have hl : lv_has ls 5 [(0, .ref mm), (1, .int x), (2, .int y), (3, .int z), (4, .int v)] := hl
  have C0 : ckC pg sg mg ([.ref mm, .int x, .int y, .int z, .int v]).toArray cg cX11_wind 5 RX11 N Ag := ⟨⟨hx, hb, hml, hown, hg⟩, hE, hA⟩
  generalize hHe : sg.heap = H at hP
  have hS : va_S Ag sg.heap H [] := hHe ▸ hS
  refine lv_iload_n hx hb dX11_wind_0 rfl (lv_at hl 1 rfl) ?_
  refine ck_Si (As := [.int x]) (rest := []) (wr := [(mm, .inr (11, [.ref an, .ref ak, .int (nI ke), .int (nI kn), .int fd, .ref ab, .ref az, .ref as_, .ref ae, .ref ao, .ref ar, .ref aw, .ref al, .ref am, .int (nI mn), .ref af, .ref ac])), (an, .inl (N.2 0, 572, .inl nw)), (ak, .inl (N.2 0, 11440, .inl kp))]) C0 hP hD hS (c_X11_isHeight l N x ) myX11_isHeight k4_78 ⟨Nat.le_of_ble_eq_true rfl, Nat.le_of_ble_eq_true rfl⟩ [] [0, 1, 2] ⟨⟨rfl, rfl⟩, by decide, by decide, by decide⟩ rfl hl.1 rfl (Nat.le_of_ble_eq_true rfl) dX11_wind_1 ⟨Nat.le_of_ble_eq_true rfl, Nat.le_of_ble_eq_true rfl⟩ (fun r_1 u0 H locs hw0 hP hD hS => ?_)
  have hw_2 : r_1 = (b2i (ckIn x (nI 0) (nI 3))) := hw0
  subst hw_2
  have hP : va_P N.1 vwCl [(mm, .inr (11, [.ref an, .ref ak, .int (nI ke), .int (nI kn), .int fd, .ref ab, .ref az, .ref as_, .ref ae, .ref ao, .ref ar, .ref aw, .ref al, .ref am, .int (nI mn), .ref af, .ref ac])), (an, .inl (N.2 0, 572, .inl nw)), (ak, .inl (N.2 0, 11440, .inl kp))] H := hP
  have hD : va_D Ag [(mm, .inr (11, [.ref an, .ref ak, .int (nI ke), .int (nI kn), .int fd, .ref ab, .ref az, .ref as_, .ref ae, .ref ao, .ref ar, .ref aw, .ref al, .ref am, .int (nI mn), .ref af, .ref ac])), (an, .inl (N.2 0, 572, .inl nw)), (ak, .inl (N.2 0, 11440, .inl kp))] := hD
  refine ck_ifeq (b := ckIn x (nI 0) (nI 3)) (tgt := 35) hx hb dX11_wind_4 (by decide) (fun cz_3 => ?_) (fun cz_3 => ?_)
  · refine lv_aload_n hx hb dX11_wind_35 rfl (lv_at hl 0 rfl) ?_
    refine lv_ldc (own := RX11) (v := (-100001)) hx hb hown (hg _ k4_81) dX11_wind_36 ?_
    refine ck_Vi (As := [.int (-100001)]) (rest := []) (wr := [(an, .inl (N.2 0, 572, .inl nw)), (ak, .inl (N.2 0, 11440, .inl kp))]) C0 hP hD hS (c_X11_finds l N mm an ak ab az as_ ae ao ar aw al am af ac ke kn fd mn (-100001) ) myX11_finds k4_67 ⟨Nat.le_of_ble_eq_true rfl, Nat.le_of_ble_eq_true rfl⟩ [0] [1, 2] ⟨⟨rfl, rfl⟩, by decide, by decide, by decide⟩ 0 rfl rfl rfl rfl hl.1 rfl (Nat.le_of_ble_eq_true rfl) dX11_wind_38 ⟨Nat.le_of_ble_eq_true rfl, Nat.le_of_ble_eq_true rfl⟩ (fun r_4 u0 H locs hw0 hP hD hS => ?_)
    have hw_5 : r_4 = (-100001) := hw0
    subst hw_5
    have hP : va_P N.1 vwCl [(an, .inl (N.2 0, 572, .inl nw)), (ak, .inl (N.2 0, 11440, .inl kp)), (mm, .inr (11, [.ref an, .ref ak, .int (nI ke), .int (nI kn), .int (fd + nI 1), .ref ab, .ref az, .ref as_, .ref ae, .ref ao, .ref ar, .ref aw, .ref al, .ref am, .int (nI mn), .ref af, .ref ac]))] H := hP
    have hD : va_D Ag [(an, .inl (N.2 0, 572, .inl nw)), (ak, .inl (N.2 0, 11440, .inl kp)), (mm, .inr (11, [.ref an, .ref ak, .int (nI ke), .int (nI kn), .int (fd + nI 1), .ref ab, .ref az, .ref as_, .ref ae, .ref ao, .ref ar, .ref aw, .ref al, .ref am, .int (nI mn), .ref af, .ref ac]))] := hD
    exact ck_iret hx hb hrt hlk ⟨(fd + nI 1), ke, kn, nw, kp⟩ (by have he : wiF x y z v = (-100001) := (by simp [wiF, cz_3]); exact ⟨ckRd_f he (by decide), Or.inr ⟨fun q => absurd (he.symm.trans q) (by decide), rfl, rfl, rfl, rfl⟩⟩) (hP.sub [2, 0, 1] rfl) (hD.sub [2, 0, 1] (by decide) rfl) hS ⟨Nat.le_of_ble_eq_true rfl, Nat.le_of_ble_eq_true rfl⟩ dX11_wind_41
  refine lv_iload_n hx hb dX11_wind_7 rfl (lv_at hl 2 rfl) ?_
  refine ck_Si (As := [.int y]) (rest := []) (wr := [(mm, .inr (11, [.ref an, .ref ak, .int (nI ke), .int (nI kn), .int fd, .ref ab, .ref az, .ref as_, .ref ae, .ref ao, .ref ar, .ref aw, .ref al, .ref am, .int (nI mn), .ref af, .ref ac])), (an, .inl (N.2 0, 572, .inl nw)), (ak, .inl (N.2 0, 11440, .inl kp))]) C0 hP hD hS (c_X11_isMinute l N y ) myX11_isMinute k4_117 ⟨Nat.le_of_ble_eq_true rfl, Nat.le_of_ble_eq_true rfl⟩ [] [0, 1, 2] ⟨⟨rfl, rfl⟩, by decide, by decide, by decide⟩ rfl hl.1 rfl (Nat.le_of_ble_eq_true rfl) dX11_wind_8 ⟨Nat.le_of_ble_eq_true rfl, Nat.le_of_ble_eq_true rfl⟩ (fun r_6 u0 H locs hw0 hP hD hS => ?_)
  have hw_7 : r_6 = (b2i (ckIn y (nI 0) (nI 19))) := hw0
  subst hw_7
  have hP : va_P N.1 vwCl [(mm, .inr (11, [.ref an, .ref ak, .int (nI ke), .int (nI kn), .int fd, .ref ab, .ref az, .ref as_, .ref ae, .ref ao, .ref ar, .ref aw, .ref al, .ref am, .int (nI mn), .ref af, .ref ac])), (an, .inl (N.2 0, 572, .inl nw)), (ak, .inl (N.2 0, 11440, .inl kp))] H := hP
  have hD : va_D Ag [(mm, .inr (11, [.ref an, .ref ak, .int (nI ke), .int (nI kn), .int fd, .ref ab, .ref az, .ref as_, .ref ae, .ref ao, .ref ar, .ref aw, .ref al, .ref am, .int (nI mn), .ref af, .ref ac])), (an, .inl (N.2 0, 572, .inl nw)), (ak, .inl (N.2 0, 11440, .inl kp))] := hD
  refine ck_ifeq (b := ckIn y (nI 0) (nI 19)) (tgt := 35) hx hb dX11_wind_11 (by decide) (fun cz_8 => ?_) (fun cz_8 => ?_)
  · refine lv_aload_n hx hb dX11_wind_35 rfl (lv_at hl 0 rfl) ?_
    refine lv_ldc (own := RX11) (v := (-100001)) hx hb hown (hg _ k4_81) dX11_wind_36 ?_
    refine ck_Vi (As := [.int (-100001)]) (rest := []) (wr := [(an, .inl (N.2 0, 572, .inl nw)), (ak, .inl (N.2 0, 11440, .inl kp))]) C0 hP hD hS (c_X11_finds l N mm an ak ab az as_ ae ao ar aw al am af ac ke kn fd mn (-100001) ) myX11_finds k4_67 ⟨Nat.le_of_ble_eq_true rfl, Nat.le_of_ble_eq_true rfl⟩ [0] [1, 2] ⟨⟨rfl, rfl⟩, by decide, by decide, by decide⟩ 0 rfl rfl rfl rfl hl.1 rfl (Nat.le_of_ble_eq_true rfl) dX11_wind_38 ⟨Nat.le_of_ble_eq_true rfl, Nat.le_of_ble_eq_true rfl⟩ (fun r_9 u0 H locs hw0 hP hD hS => ?_)
    have hw_10 : r_9 = (-100001) := hw0
    subst hw_10
    have hP : va_P N.1 vwCl [(an, .inl (N.2 0, 572, .inl nw)), (ak, .inl (N.2 0, 11440, .inl kp)), (mm, .inr (11, [.ref an, .ref ak, .int (nI ke), .int (nI kn), .int (fd + nI 1), .ref ab, .ref az, .ref as_, .ref ae, .ref ao, .ref ar, .ref aw, .ref al, .ref am, .int (nI mn), .ref af, .ref ac]))] H := hP
    have hD : va_D Ag [(an, .inl (N.2 0, 572, .inl nw)), (ak, .inl (N.2 0, 11440, .inl kp)), (mm, .inr (11, [.ref an, .ref ak, .int (nI ke), .int (nI kn), .int (fd + nI 1), .ref ab, .ref az, .ref as_, .ref ae, .ref ao, .ref ar, .ref aw, .ref al, .ref am, .int (nI mn), .ref af, .ref ac]))] := hD
    exact ck_iret hx hb hrt hlk ⟨(fd + nI 1), ke, kn, nw, kp⟩ (by have he : wiF x y z v = (-100001) := (by simp [wiF, cz_3, cz_8]); exact ⟨ckRd_f he (by decide), Or.inr ⟨fun q => absurd (he.symm.trans q) (by decide), rfl, rfl, rfl, rfl⟩⟩) (hP.sub [2, 0, 1] rfl) (hD.sub [2, 0, 1] (by decide) rfl) hS ⟨Nat.le_of_ble_eq_true rfl, Nat.le_of_ble_eq_true rfl⟩ dX11_wind_41
  refine lv_iload_n hx hb dX11_wind_14 rfl (lv_at hl 3 rfl) ?_
  refine lv_iconst (v := (nI 0)) hx hb dX11_wind_15 (by decide) ?_
  refine lv_bipush (v := (nI 7)) hx hb dX11_wind_16 (by decide) ?_
  refine ck_Si (As := [.int z, .int (nI 0), .int (nI 7)]) (rest := []) (wr := [(mm, .inr (11, [.ref an, .ref ak, .int (nI ke), .int (nI kn), .int fd, .ref ab, .ref az, .ref as_, .ref ae, .ref ao, .ref ar, .ref aw, .ref al, .ref am, .int (nI mn), .ref af, .ref ac])), (an, .inl (N.2 0, 572, .inl nw)), (ak, .inl (N.2 0, 11440, .inl kp))]) C0 hP hD hS (c_X11_in l N z (nI 0) (nI 7) ) myX11_in k4_75 ⟨Nat.le_of_ble_eq_true rfl, Nat.le_of_ble_eq_true rfl⟩ [] [0, 1, 2] ⟨⟨rfl, rfl⟩, by decide, by decide, by decide⟩ rfl hl.1 rfl (Nat.le_of_ble_eq_true rfl) dX11_wind_18 ⟨Nat.le_of_ble_eq_true rfl, Nat.le_of_ble_eq_true rfl⟩ (fun r_11 u0 H locs hw0 hP hD hS => ?_)
  have hw_12 : r_11 = (b2i (ckIn z (nI 0) (nI 7))) := hw0
  subst hw_12
  have hP : va_P N.1 vwCl [(mm, .inr (11, [.ref an, .ref ak, .int (nI ke), .int (nI kn), .int fd, .ref ab, .ref az, .ref as_, .ref ae, .ref ao, .ref ar, .ref aw, .ref al, .ref am, .int (nI mn), .ref af, .ref ac])), (an, .inl (N.2 0, 572, .inl nw)), (ak, .inl (N.2 0, 11440, .inl kp))] H := hP
  have hD : va_D Ag [(mm, .inr (11, [.ref an, .ref ak, .int (nI ke), .int (nI kn), .int fd, .ref ab, .ref az, .ref as_, .ref ae, .ref ao, .ref ar, .ref aw, .ref al, .ref am, .int (nI mn), .ref af, .ref ac])), (an, .inl (N.2 0, 572, .inl nw)), (ak, .inl (N.2 0, 11440, .inl kp))] := hD
  refine ck_ifeq (b := ckIn z (nI 0) (nI 7)) (tgt := 35) hx hb dX11_wind_21 (by decide) (fun cz_13 => ?_) (fun cz_13 => ?_)
  · refine lv_aload_n hx hb dX11_wind_35 rfl (lv_at hl 0 rfl) ?_
    refine lv_ldc (own := RX11) (v := (-100001)) hx hb hown (hg _ k4_81) dX11_wind_36 ?_
    refine ck_Vi (As := [.int (-100001)]) (rest := []) (wr := [(an, .inl (N.2 0, 572, .inl nw)), (ak, .inl (N.2 0, 11440, .inl kp))]) C0 hP hD hS (c_X11_finds l N mm an ak ab az as_ ae ao ar aw al am af ac ke kn fd mn (-100001) ) myX11_finds k4_67 ⟨Nat.le_of_ble_eq_true rfl, Nat.le_of_ble_eq_true rfl⟩ [0] [1, 2] ⟨⟨rfl, rfl⟩, by decide, by decide, by decide⟩ 0 rfl rfl rfl rfl hl.1 rfl (Nat.le_of_ble_eq_true rfl) dX11_wind_38 ⟨Nat.le_of_ble_eq_true rfl, Nat.le_of_ble_eq_true rfl⟩ (fun r_14 u0 H locs hw0 hP hD hS => ?_)
    have hw_15 : r_14 = (-100001) := hw0
    subst hw_15
    have hP : va_P N.1 vwCl [(an, .inl (N.2 0, 572, .inl nw)), (ak, .inl (N.2 0, 11440, .inl kp)), (mm, .inr (11, [.ref an, .ref ak, .int (nI ke), .int (nI kn), .int (fd + nI 1), .ref ab, .ref az, .ref as_, .ref ae, .ref ao, .ref ar, .ref aw, .ref al, .ref am, .int (nI mn), .ref af, .ref ac]))] H := hP
    have hD : va_D Ag [(an, .inl (N.2 0, 572, .inl nw)), (ak, .inl (N.2 0, 11440, .inl kp)), (mm, .inr (11, [.ref an, .ref ak, .int (nI ke), .int (nI kn), .int (fd + nI 1), .ref ab, .ref az, .ref as_, .ref ae, .ref ao, .ref ar, .ref aw, .ref al, .ref am, .int (nI mn), .ref af, .ref ac]))] := hD
    exact ck_iret hx hb hrt hlk ⟨(fd + nI 1), ke, kn, nw, kp⟩ (by have he : wiF x y z v = (-100001) := (by simp [wiF, cz_3, cz_8, cz_13]); exact ⟨ckRd_f he (by decide), Or.inr ⟨fun q => absurd (he.symm.trans q) (by decide), rfl, rfl, rfl, rfl⟩⟩) (hP.sub [2, 0, 1] rfl) (hD.sub [2, 0, 1] (by decide) rfl) hS ⟨Nat.le_of_ble_eq_true rfl, Nat.le_of_ble_eq_true rfl⟩ dX11_wind_41
  refine lv_iload hx hb dX11_wind_24 (lv_at hl 4 rfl) ?_
  refine lv_iconst (v := (nI 0)) hx hb dX11_wind_26 (by decide) ?_
  refine lv_bipush (v := (nI 12)) hx hb dX11_wind_27 (by decide) ?_
  refine ck_Si (As := [.int v, .int (nI 0), .int (nI 12)]) (rest := []) (wr := [(mm, .inr (11, [.ref an, .ref ak, .int (nI ke), .int (nI kn), .int fd, .ref ab, .ref az, .ref as_, .ref ae, .ref ao, .ref ar, .ref aw, .ref al, .ref am, .int (nI mn), .ref af, .ref ac])), (an, .inl (N.2 0, 572, .inl nw)), (ak, .inl (N.2 0, 11440, .inl kp))]) C0 hP hD hS (c_X11_in l N v (nI 0) (nI 12) ) myX11_in k4_75 ⟨Nat.le_of_ble_eq_true rfl, Nat.le_of_ble_eq_true rfl⟩ [] [0, 1, 2] ⟨⟨rfl, rfl⟩, by decide, by decide, by decide⟩ rfl hl.1 rfl (Nat.le_of_ble_eq_true rfl) dX11_wind_29 ⟨Nat.le_of_ble_eq_true rfl, Nat.le_of_ble_eq_true rfl⟩ (fun r_16 u0 H locs hw0 hP hD hS => ?_)
  have hw_17 : r_16 = (b2i (ckIn v (nI 0) (nI 12))) := hw0
  subst hw_17
  have hP : va_P N.1 vwCl [(mm, .inr (11, [.ref an, .ref ak, .int (nI ke), .int (nI kn), .int fd, .ref ab, .ref az, .ref as_, .ref ae, .ref ao, .ref ar, .ref aw, .ref al, .ref am, .int (nI mn), .ref af, .ref ac])), (an, .inl (N.2 0, 572, .inl nw)), (ak, .inl (N.2 0, 11440, .inl kp))] H := hP
  have hD : va_D Ag [(mm, .inr (11, [.ref an, .ref ak, .int (nI ke), .int (nI kn), .int fd, .ref ab, .ref az, .ref as_, .ref ae, .ref ao, .ref ar, .ref aw, .ref al, .ref am, .int (nI mn), .ref af, .ref ac])), (an, .inl (N.2 0, 572, .inl nw)), (ak, .inl (N.2 0, 11440, .inl kp))] := hD
  refine ck_ifne (b := ckIn v (nI 0) (nI 12)) (tgt := 42) hx hb dX11_wind_32 (by decide) (fun cz_18 => ?_) (fun cz_18 => ?_)
  · obtain ⟨i, -, hi, rfl⟩ := (ckIn_n (by decide) (by decide)).mp cz_3
    have exi : ix (nI i) = i := ix_nI (by omega)
    obtain ⟨k, -, hk, rfl⟩ := (ckIn_n (by decide) (by decide)).mp cz_8
    have exk : ix (nI k) = k := ix_nI (by omega)
    refine lv_aload_n hx hb dX11_wind_42 rfl (lv_at hl 0 rfl) ?_
    refine ck_Vv (As := []) (rest := []) (wr := []) C0 hP hD hS (c_X11_keep l N mm an ak ab az as_ ae ao ar aw al am af ac ke kn fd mn nw kp (by omega) (by omega)) myX11_keep k4_84 ⟨Nat.le_of_ble_eq_true rfl, Nat.le_of_ble_eq_true rfl⟩ [0, 1, 2] [] ⟨⟨rfl, rfl⟩, by decide, by decide, by decide⟩ 0 rfl rfl rfl rfl hl.1 rfl (Nat.le_of_ble_eq_true rfl) dX11_wind_43 ⟨Nat.le_of_ble_eq_true rfl, Nat.le_of_ble_eq_true rfl⟩ (fun u0 H locs hw0 hP hD hS => ?_)
    have hP : va_P N.1 vwCl [(mm, .inr (11, [.ref an, .ref ak, .int (nI ((ke + 1) % 20)), .int (nI (min (kn + 1) 20)), .int fd, .ref ab, .ref az, .ref as_, .ref ae, .ref ao, .ref ar, .ref aw, .ref al, .ref am, .int (nI mn), .ref af, .ref ac])), (an, .inl (N.2 0, 572, .inl nw)), (ak, .inl (N.2 0, 11440, .inl (guT kp (572 * ke) nw 572)))] H := hP
    have hD : va_D Ag [(mm, .inr (11, [.ref an, .ref ak, .int (nI ((ke + 1) % 20)), .int (nI (min (kn + 1) 20)), .int fd, .ref ab, .ref az, .ref as_, .ref ae, .ref ao, .ref ar, .ref aw, .ref al, .ref am, .int (nI mn), .ref af, .ref ac])), (an, .inl (N.2 0, 572, .inl nw)), (ak, .inl (N.2 0, 11440, .inl (guT kp (572 * ke) nw 572)))] := hD
    refine lv_aload_n hx hb dX11_wind_46 rfl (lv_at hl 0 rfl) ?_
    refine va_get (ci := 11) (v := .ref an) (C := RX11) (T := TX11) (N := 17) hx hb hg inX11 hown hE.1 hP 0 rfl rfl 0 (by decide) (hg _ k4_10) (fun _ h9 => h9) rfl dX11_wind_47 ?_
    refine lv_iload_n hx hb dX11_wind_50 rfl (lv_at hl 1 rfl) ?_
    refine lv_iload_n hx hb dX11_wind_51 rfl (lv_at hl 2 rfl) ?_
    refine ck_Si (As := [.int (nI i), .int (nI k)]) (rest := [.ref an]) (wr := [(mm, .inr (11, [.ref an, .ref ak, .int (nI ((ke + 1) % 20)), .int (nI (min (kn + 1) 20)), .int fd, .ref ab, .ref az, .ref as_, .ref ae, .ref ao, .ref ar, .ref aw, .ref al, .ref am, .int (nI mn), .ref af, .ref ac])), (an, .inl (N.2 0, 572, .inl nw)), (ak, .inl (N.2 0, 11440, .inl (guT kp (572 * ke) nw 572)))]) C0 hP hD hS (c_X11_windOf l N i k ) myX11_windOf k4_120 ⟨Nat.le_of_ble_eq_true rfl, Nat.le_of_ble_eq_true rfl⟩ [] [0, 1, 2] ⟨⟨rfl, rfl⟩, by decide, by decide, by decide⟩ rfl hl.1 rfl (Nat.le_of_ble_eq_true rfl) dX11_wind_52 ⟨Nat.le_of_ble_eq_true rfl, Nat.le_of_ble_eq_true rfl⟩ (fun r_21 u0 H locs hw0 hP hD hS => ?_)
    have hw_22 : r_21 = (nI (67 + 2 * (20 * i + k))) := hw0
    subst hw_22
    have hP : va_P N.1 vwCl [(mm, .inr (11, [.ref an, .ref ak, .int (nI ((ke + 1) % 20)), .int (nI (min (kn + 1) 20)), .int fd, .ref ab, .ref az, .ref as_, .ref ae, .ref ao, .ref ar, .ref aw, .ref al, .ref am, .int (nI mn), .ref af, .ref ac])), (an, .inl (N.2 0, 572, .inl nw)), (ak, .inl (N.2 0, 11440, .inl (guT kp (572 * ke) nw 572)))] H := hP
    have hD : va_D Ag [(mm, .inr (11, [.ref an, .ref ak, .int (nI ((ke + 1) % 20)), .int (nI (min (kn + 1) 20)), .int fd, .ref ab, .ref az, .ref as_, .ref ae, .ref ao, .ref ar, .ref aw, .ref al, .ref am, .int (nI mn), .ref af, .ref ac])), (an, .inl (N.2 0, 572, .inl nw)), (ak, .inl (N.2 0, 11440, .inl (guT kp (572 * ke) nw 572)))] := hD
    refine lv_iload_n hx hb dX11_wind_55 rfl (lv_at hl 3 rfl) ?_
    refine ck_iast hx hb hE hP hD hS 1 rfl (by omega) (by decide) dX11_wind_56 (ws1 := [(mm, .inr (11, [.ref an, .ref ak, .int (nI ((ke + 1) % 20)), .int (nI (min (kn + 1) 20)), .int fd, .ref ab, .ref az, .ref as_, .ref ae, .ref ao, .ref ar, .ref aw, .ref al, .ref am, .int (nI mn), .ref af, .ref ac])), (an, .inl (N.2 0, 572, .inl (upd nw (67 + 2 * (20 * i + k)) z))), (ak, .inl (N.2 0, 11440, .inl (guT kp (572 * ke) nw 572)))]) rfl (fun H locs hP hD hS => ?_)
    refine lv_aload_n hx hb dX11_wind_57 rfl (lv_at hl 0 rfl) ?_
    refine va_get (ci := 11) (v := .ref an) (C := RX11) (T := TX11) (N := 17) hx hb hg inX11 hown hE.1 hP 0 rfl rfl 0 (by decide) (hg _ k4_10) (fun _ h9 => h9) rfl dX11_wind_58 ?_
    refine lv_iload_n hx hb dX11_wind_61 rfl (lv_at hl 1 rfl) ?_
    refine lv_iload_n hx hb dX11_wind_62 rfl (lv_at hl 2 rfl) ?_
    refine ck_Si (As := [.int (nI i), .int (nI k)]) (rest := [.ref an]) (wr := [(mm, .inr (11, [.ref an, .ref ak, .int (nI ((ke + 1) % 20)), .int (nI (min (kn + 1) 20)), .int fd, .ref ab, .ref az, .ref as_, .ref ae, .ref ao, .ref ar, .ref aw, .ref al, .ref am, .int (nI mn), .ref af, .ref ac])), (an, .inl (N.2 0, 572, .inl (upd nw (67 + 2 * (20 * i + k)) z))), (ak, .inl (N.2 0, 11440, .inl (guT kp (572 * ke) nw 572)))]) C0 hP hD hS (c_X11_windOf l N i k ) myX11_windOf k4_120 ⟨Nat.le_of_ble_eq_true rfl, Nat.le_of_ble_eq_true rfl⟩ [] [0, 1, 2] ⟨⟨rfl, rfl⟩, by decide, by decide, by decide⟩ rfl hl.1 rfl (Nat.le_of_ble_eq_true rfl) dX11_wind_63 ⟨Nat.le_of_ble_eq_true rfl, Nat.le_of_ble_eq_true rfl⟩ (fun r_23 u0 H locs hw0 hP hD hS => ?_)
    have hw_24 : r_23 = (nI (67 + 2 * (20 * i + k))) := hw0
    subst hw_24
    have hP : va_P N.1 vwCl [(mm, .inr (11, [.ref an, .ref ak, .int (nI ((ke + 1) % 20)), .int (nI (min (kn + 1) 20)), .int fd, .ref ab, .ref az, .ref as_, .ref ae, .ref ao, .ref ar, .ref aw, .ref al, .ref am, .int (nI mn), .ref af, .ref ac])), (an, .inl (N.2 0, 572, .inl (upd nw (67 + 2 * (20 * i + k)) z))), (ak, .inl (N.2 0, 11440, .inl (guT kp (572 * ke) nw 572)))] H := hP
    have hD : va_D Ag [(mm, .inr (11, [.ref an, .ref ak, .int (nI ((ke + 1) % 20)), .int (nI (min (kn + 1) 20)), .int fd, .ref ab, .ref az, .ref as_, .ref ae, .ref ao, .ref ar, .ref aw, .ref al, .ref am, .int (nI mn), .ref af, .ref ac])), (an, .inl (N.2 0, 572, .inl (upd nw (67 + 2 * (20 * i + k)) z))), (ak, .inl (N.2 0, 11440, .inl (guT kp (572 * ke) nw 572)))] := hD
    refine lv_iconst (v := (nI 1)) hx hb dX11_wind_66 (by decide) ?_
    refine lv_iadd hx hb dX11_wind_67 ?_
    refine ck_top (y := (nI (67 + 2 * (20 * i + k) + 1))) (nI_add _ _) ?_
    refine lv_iload hx hb dX11_wind_68 (lv_at hl 4 rfl) ?_
    refine ck_iast hx hb hE hP hD hS 1 rfl (by omega) (by decide) dX11_wind_70 (ws1 := [(mm, .inr (11, [.ref an, .ref ak, .int (nI ((ke + 1) % 20)), .int (nI (min (kn + 1) 20)), .int fd, .ref ab, .ref az, .ref as_, .ref ae, .ref ao, .ref ar, .ref aw, .ref al, .ref am, .int (nI mn), .ref af, .ref ac])), (an, .inl (N.2 0, 572, .inl (upd (upd nw (67 + 2 * (20 * i + k)) z) (67 + 2 * (20 * i + k) + 1) v))), (ak, .inl (N.2 0, 11440, .inl (guT kp (572 * ke) nw 572)))]) rfl (fun H locs hP hD hS => ?_)
    refine lv_iconst (v := (nI 0)) hx hb dX11_wind_71 (by decide) ?_
    exact ck_iret hx hb hrt hlk ⟨fd, (ke + 1) % 20, min (kn + 1) 20, upd (upd nw (67 + 2 * (20 * i + k)) z) (67 + 2 * (20 * i + k) + 1) v, guT kp (572 * ke) nw 572⟩ (by have he : wiF (nI i) (nI k) z v = 0 := (by simp [wiF, cz_3, cz_8, cz_13, cz_18, exi, exk]); exact ⟨ckRd_ok he rfl, Or.inl ⟨he, rfl, rfl, rfl, (by rw [exi, exk, show 20 * i + k = i * 20 + k by omega]; exact mV_fo (mV_di hV hn (by omega)) hn (by omega))⟩⟩) hP hD hS ⟨Nat.le_of_ble_eq_true rfl, Nat.le_of_ble_eq_true rfl⟩ dX11_wind_72
  refine lv_aload_n hx hb dX11_wind_35 rfl (lv_at hl 0 rfl) ?_
  refine lv_ldc (own := RX11) (v := (-100001)) hx hb hown (hg _ k4_81) dX11_wind_36 ?_
  refine ck_Vi (As := [.int (-100001)]) (rest := []) (wr := [(an, .inl (N.2 0, 572, .inl nw)), (ak, .inl (N.2 0, 11440, .inl kp))]) C0 hP hD hS (c_X11_finds l N mm an ak ab az as_ ae ao ar aw al am af ac ke kn fd mn (-100001) ) myX11_finds k4_67 ⟨Nat.le_of_ble_eq_true rfl, Nat.le_of_ble_eq_true rfl⟩ [0] [1, 2] ⟨⟨rfl, rfl⟩, by decide, by decide, by decide⟩ 0 rfl rfl rfl rfl hl.1 rfl (Nat.le_of_ble_eq_true rfl) dX11_wind_38 ⟨Nat.le_of_ble_eq_true rfl, Nat.le_of_ble_eq_true rfl⟩ (fun r_25 u0 H locs hw0 hP hD hS => ?_)
  have hw_26 : r_25 = (-100001) := hw0
  subst hw_26
  have hP : va_P N.1 vwCl [(an, .inl (N.2 0, 572, .inl nw)), (ak, .inl (N.2 0, 11440, .inl kp)), (mm, .inr (11, [.ref an, .ref ak, .int (nI ke), .int (nI kn), .int (fd + nI 1), .ref ab, .ref az, .ref as_, .ref ae, .ref ao, .ref ar, .ref aw, .ref al, .ref am, .int (nI mn), .ref af, .ref ac]))] H := hP
  have hD : va_D Ag [(an, .inl (N.2 0, 572, .inl nw)), (ak, .inl (N.2 0, 11440, .inl kp)), (mm, .inr (11, [.ref an, .ref ak, .int (nI ke), .int (nI kn), .int (fd + nI 1), .ref ab, .ref az, .ref as_, .ref ae, .ref ao, .ref ar, .ref aw, .ref al, .ref am, .int (nI mn), .ref af, .ref ac]))] := hD
  exact ck_iret hx hb hrt hlk ⟨(fd + nI 1), ke, kn, nw, kp⟩ (by have he : wiF x y z v = (-100001) := (by simp [wiF, cz_3, cz_8, cz_13, cz_18]); exact ⟨ckRd_f he (by decide), Or.inr ⟨fun q => absurd (he.symm.trans q) (by decide), rfl, rfl, rfl, rfl⟩⟩) (hP.sub [2, 0, 1] rfl) (hD.sub [2, 0, 1] (by decide) rfl) hS ⟨Nat.le_of_ble_eq_true rfl, Nat.le_of_ble_eq_true rfl⟩ dX11_wind_41
set_option maxHeartbeats 4000000 in
set_option maxRecDepth 100000 in
/-- X11_sharp -/
theorem c_X11_sharp (l : Launch) (N : ckN) (mm : Nat) (an : Nat) (ak : Nat) (ab : Nat) (az : Nat) (as_ : Nat) (ae : Nat) (ao : Nat) (ar : Nat) (aw : Nat) (al : Nat) (am : Nat) (af : Nat) (ac : Nat) (ke : Nat) (kn : Nat) (fd : Int32) (mn : Nat) (nw : Nat → Int32) (kp : Nat → Int32) (cf : Nat) (n : Nat) (wk : Int32) (tr : Nat → Int32) (di : Nat → Int32) (fo : Nat → Int32) (w : Nat → List Nat) (sdf : Nat → Int32) (wof : Nat → Int32) (shf : Nat → Int32) (twf : Nat → Int32) (x : Int32) (y : Int32) (hV : mV nw cf n wk tr di fo w sdf wof shf twf) (hn : n ≤ 5) (hke : ke < 20) (hkn : kn ≤ 20) : ckI l yX11_sharp cX11_sharp 4 (some FieldType.int) { frames := 4, cells := 0, slots := 0, locals := 103 } N [.ref mm, .int x, .int y] [(mm, .inr (11, [.ref an, .ref ak, .int (nI ke), .int (nI kn), .int fd, .ref ab, .ref az, .ref as_, .ref ae, .ref ao, .ref ar, .ref aw, .ref al, .ref am, .int (nI mn), .ref af, .ref ac])), (an, .inl (N.2 0, 572, .inl nw)), (ak, .inl (N.2 0, 11440, .inl kp))] (fun (r : Int32) (u : Int32 × Nat × Nat × (Nat → Int32) × (Nat → Int32)) => (ckRd (spF n x y) (shf (ix x)) fd r u.1) ∧ ((spF n x y = 0 ∧ u.2.1 = (ke + 1) % 20 ∧ u.2.2.1 = min (kn + 1) 20 ∧ u.2.2.2.2 = guT kp (572 * ke) nw 572 ∧ mV u.2.2.2.1 cf n wk tr di fo w sdf wof (upd shf (ix x) y) twf) ∨ (spF n x y ≠ 0 ∧ u.2.1 = ke ∧ u.2.2.1 = kn ∧ u.2.2.2.2 = kp ∧ u.2.2.2.1 = nw))) (fun (u : Int32 × Nat × Nat × (Nat → Int32) × (Nat → Int32)) => [(mm, .inr (11, [.ref an, .ref ak, .int (nI u.2.1), .int (nI u.2.2.1), .int u.1, .ref ab, .ref az, .ref as_, .ref ae, .ref ao, .ref ar, .ref aw, .ref al, .ref am, .int (nI mn), .ref af, .ref ac])), (an, .inl (N.2 0, 572, .inl u.2.2.2.1)), (ak, .inl (N.2 0, 11440, .inl u.2.2.2.2))]) := by
  refine ckI.of (by decide) (Nat.le_of_ble_eq_true rfl) ?_
  intro pg eg sg mg blw mth cg Ag ls hx hb hrt hml hown hlk hin hg hE hA hP hD hS hl
  have hown : sg.vm.findClass RX11 = some mg.cls := hown
  have hl : lv_has ls 4 [(0, .ref mm), (1, .int x), (2, .int y)] := hl
  have C0 : ckC pg sg mg ([.ref mm, .int x, .int y]).toArray cg cX11_sharp 4 RX11 N Ag := ⟨⟨hx, hb, hml, hown, hg⟩, hE, hA⟩
  generalize hHe : sg.heap = H at hP
  have hS : va_S Ag sg.heap H [] := hHe ▸ hS
  refine lv_aload_n hx hb dX11_sharp_0 rfl (lv_at hl 0 rfl) ?_
  refine lv_iload_n hx hb dX11_sharp_1 rfl (lv_at hl 1 rfl) ?_
  refine ck_Vi (As := [.int x]) (rest := []) (wr := [(ak, .inl (N.2 0, 11440, .inl kp))]) C0 hP hD hS (c_X11_isPlace l N mm an ak ab az as_ ae ao ar aw al am af ac ke kn fd mn nw cf n wk tr di fo w sdf wof shf twf x hV (by omega)) myX11_isPlace k4_222 ⟨Nat.le_of_ble_eq_true rfl, Nat.le_of_ble_eq_true rfl⟩ [0, 1] [2] ⟨⟨rfl, rfl⟩, by decide, by decide, by decide⟩ 0 rfl rfl rfl rfl hl.1 rfl (Nat.le_of_ble_eq_true rfl) dX11_sharp_2 ⟨Nat.le_of_ble_eq_true rfl, Nat.le_of_ble_eq_true rfl⟩ (fun r_1 u0 H locs hw0 hP hD hS => ?_)
  have hw_2 : r_1 = (b2i (ckLt x n)) := hw0
  subst hw_2
  have hP : va_P N.1 vwCl [(ak, .inl (N.2 0, 11440, .inl kp)), (mm, .inr (11, [.ref an, .ref ak, .int (nI ke), .int (nI kn), .int fd, .ref ab, .ref az, .ref as_, .ref ae, .ref ao, .ref ar, .ref aw, .ref al, .ref am, .int (nI mn), .ref af, .ref ac])), (an, .inl (N.2 0, 572, .inl nw))] H := hP
  have hD : va_D Ag [(ak, .inl (N.2 0, 11440, .inl kp)), (mm, .inr (11, [.ref an, .ref ak, .int (nI ke), .int (nI kn), .int fd, .ref ab, .ref az, .ref as_, .ref ae, .ref ao, .ref ar, .ref aw, .ref al, .ref am, .int (nI mn), .ref af, .ref ac])), (an, .inl (N.2 0, 572, .inl nw))] := hD
  refine ck_ifeq (b := ckLt x n) (tgt := 18) hx hb dX11_sharp_5 (by decide) (fun cz_3 => ?_) (fun cz_3 => ?_)
  · refine lv_aload_n hx hb dX11_sharp_18 rfl (lv_at hl 0 rfl) ?_
    refine lv_ldc (own := RX11) (v := (-100001)) hx hb hown (hg _ k4_81) dX11_sharp_19 ?_
    refine ck_Vi (As := [.int (-100001)]) (rest := []) (wr := [(ak, .inl (N.2 0, 11440, .inl kp)), (an, .inl (N.2 0, 572, .inl nw))]) C0 hP hD hS (c_X11_finds l N mm an ak ab az as_ ae ao ar aw al am af ac ke kn fd mn (-100001) ) myX11_finds k4_67 ⟨Nat.le_of_ble_eq_true rfl, Nat.le_of_ble_eq_true rfl⟩ [1] [0, 2] ⟨⟨rfl, rfl⟩, by decide, by decide, by decide⟩ 1 rfl rfl rfl rfl hl.1 rfl (Nat.le_of_ble_eq_true rfl) dX11_sharp_21 ⟨Nat.le_of_ble_eq_true rfl, Nat.le_of_ble_eq_true rfl⟩ (fun r_4 u0 H locs hw0 hP hD hS => ?_)
    have hw_5 : r_4 = (-100001) := hw0
    subst hw_5
    have hP : va_P N.1 vwCl [(ak, .inl (N.2 0, 11440, .inl kp)), (an, .inl (N.2 0, 572, .inl nw)), (mm, .inr (11, [.ref an, .ref ak, .int (nI ke), .int (nI kn), .int (fd + nI 1), .ref ab, .ref az, .ref as_, .ref ae, .ref ao, .ref ar, .ref aw, .ref al, .ref am, .int (nI mn), .ref af, .ref ac]))] H := hP
    have hD : va_D Ag [(ak, .inl (N.2 0, 11440, .inl kp)), (an, .inl (N.2 0, 572, .inl nw)), (mm, .inr (11, [.ref an, .ref ak, .int (nI ke), .int (nI kn), .int (fd + nI 1), .ref ab, .ref az, .ref as_, .ref ae, .ref ao, .ref ar, .ref aw, .ref al, .ref am, .int (nI mn), .ref af, .ref ac]))] := hD
    exact ck_iret hx hb hrt hlk ⟨(fd + nI 1), ke, kn, nw, kp⟩ (by have he : spF n x y = (-100001) := (by simp [spF, cz_3]); exact ⟨ckRd_f he (by decide), Or.inr ⟨fun q => absurd (he.symm.trans q) (by decide), rfl, rfl, rfl, rfl⟩⟩) (hP.sub [2, 1, 0] rfl) (hD.sub [2, 1, 0] (by decide) rfl) hS ⟨Nat.le_of_ble_eq_true rfl, Nat.le_of_ble_eq_true rfl⟩ dX11_sharp_24
  refine lv_iload_n hx hb dX11_sharp_8 rfl (lv_at hl 2 rfl) ?_
  refine lv_iconst (v := (nI 0)) hx hb dX11_sharp_9 (by decide) ?_
  refine lv_bipush (v := (nI 9)) hx hb dX11_sharp_10 (by decide) ?_
  refine ck_Si (As := [.int y, .int (nI 0), .int (nI 9)]) (rest := []) (wr := [(ak, .inl (N.2 0, 11440, .inl kp)), (mm, .inr (11, [.ref an, .ref ak, .int (nI ke), .int (nI kn), .int fd, .ref ab, .ref az, .ref as_, .ref ae, .ref ao, .ref ar, .ref aw, .ref al, .ref am, .int (nI mn), .ref af, .ref ac])), (an, .inl (N.2 0, 572, .inl nw))]) C0 hP hD hS (c_X11_in l N y (nI 0) (nI 9) ) myX11_in k4_75 ⟨Nat.le_of_ble_eq_true rfl, Nat.le_of_ble_eq_true rfl⟩ [] [0, 1, 2] ⟨⟨rfl, rfl⟩, by decide, by decide, by decide⟩ rfl hl.1 rfl (Nat.le_of_ble_eq_true rfl) dX11_sharp_12 ⟨Nat.le_of_ble_eq_true rfl, Nat.le_of_ble_eq_true rfl⟩ (fun r_6 u0 H locs hw0 hP hD hS => ?_)
  have hw_7 : r_6 = (b2i (ckIn y (nI 0) (nI 9))) := hw0
  subst hw_7
  have hP : va_P N.1 vwCl [(ak, .inl (N.2 0, 11440, .inl kp)), (mm, .inr (11, [.ref an, .ref ak, .int (nI ke), .int (nI kn), .int fd, .ref ab, .ref az, .ref as_, .ref ae, .ref ao, .ref ar, .ref aw, .ref al, .ref am, .int (nI mn), .ref af, .ref ac])), (an, .inl (N.2 0, 572, .inl nw))] H := hP
  have hD : va_D Ag [(ak, .inl (N.2 0, 11440, .inl kp)), (mm, .inr (11, [.ref an, .ref ak, .int (nI ke), .int (nI kn), .int fd, .ref ab, .ref az, .ref as_, .ref ae, .ref ao, .ref ar, .ref aw, .ref al, .ref am, .int (nI mn), .ref af, .ref ac])), (an, .inl (N.2 0, 572, .inl nw))] := hD
  refine ck_ifne (b := ckIn y (nI 0) (nI 9)) (tgt := 25) hx hb dX11_sharp_15 (by decide) (fun cz_8 => ?_) (fun cz_8 => ?_)
  · obtain ⟨i, hi, rfl⟩ := (ckLt_t (by omega)).mp cz_3
    have exi : ix (nI i) = i := ix_nI (by omega)
    refine lv_aload_n hx hb dX11_sharp_25 rfl (lv_at hl 0 rfl) ?_
    refine ck_Vv (As := []) (rest := []) (wr := []) C0 hP hD hS (c_X11_keep l N mm an ak ab az as_ ae ao ar aw al am af ac ke kn fd mn nw kp (by omega) (by omega)) myX11_keep k4_84 ⟨Nat.le_of_ble_eq_true rfl, Nat.le_of_ble_eq_true rfl⟩ [1, 2, 0] [] ⟨⟨rfl, rfl⟩, by decide, by decide, by decide⟩ 1 rfl rfl rfl rfl hl.1 rfl (Nat.le_of_ble_eq_true rfl) dX11_sharp_26 ⟨Nat.le_of_ble_eq_true rfl, Nat.le_of_ble_eq_true rfl⟩ (fun u0 H locs hw0 hP hD hS => ?_)
    have hP : va_P N.1 vwCl [(mm, .inr (11, [.ref an, .ref ak, .int (nI ((ke + 1) % 20)), .int (nI (min (kn + 1) 20)), .int fd, .ref ab, .ref az, .ref as_, .ref ae, .ref ao, .ref ar, .ref aw, .ref al, .ref am, .int (nI mn), .ref af, .ref ac])), (an, .inl (N.2 0, 572, .inl nw)), (ak, .inl (N.2 0, 11440, .inl (guT kp (572 * ke) nw 572)))] H := hP
    have hD : va_D Ag [(mm, .inr (11, [.ref an, .ref ak, .int (nI ((ke + 1) % 20)), .int (nI (min (kn + 1) 20)), .int fd, .ref ab, .ref az, .ref as_, .ref ae, .ref ao, .ref ar, .ref aw, .ref al, .ref am, .int (nI mn), .ref af, .ref ac])), (an, .inl (N.2 0, 572, .inl nw)), (ak, .inl (N.2 0, 11440, .inl (guT kp (572 * ke) nw 572)))] := hD
    refine lv_aload_n hx hb dX11_sharp_29 rfl (lv_at hl 0 rfl) ?_
    refine va_get (ci := 11) (v := .ref an) (C := RX11) (T := TX11) (N := 17) hx hb hg inX11 hown hE.1 hP 0 rfl rfl 0 (by decide) (hg _ k4_10) (fun _ h9 => h9) rfl dX11_sharp_30 ?_
    refine lv_sipush (v := (nI 242)) hx hb dX11_sharp_33 (by decide) ?_
    refine lv_iload_n hx hb dX11_sharp_36 rfl (lv_at hl 1 rfl) ?_
    refine lv_iadd hx hb dX11_sharp_37 ?_
    refine ck_top (y := (nI (242 + i))) (nI_add _ _) ?_
    refine ck_iald hx hb hE hP 1 rfl (by omega) (by decide) dX11_sharp_38 ?_
    refine lv_istore_n (lv' := [(3, .int (nw (242 + i))), (0, .ref mm), (1, .int (nI i)), (2, .int y)]) hx hb dX11_sharp_39 rfl hl (by decide) rfl (fun ls hl => ?_)
    refine lv_aload_n hx hb dX11_sharp_40 rfl (lv_at hl 1 rfl) ?_
    refine va_get (ci := 11) (v := .ref an) (C := RX11) (T := TX11) (N := 17) hx hb hg inX11 hown hE.1 hP 0 rfl rfl 0 (by decide) (hg _ k4_10) (fun _ h9 => h9) rfl dX11_sharp_41 ?_
    refine lv_sipush (v := (nI 242)) hx hb dX11_sharp_44 (by decide) ?_
    refine lv_iload_n hx hb dX11_sharp_47 rfl (lv_at hl 2 rfl) ?_
    refine lv_iadd hx hb dX11_sharp_48 ?_
    refine ck_top (y := (nI (242 + i))) (nI_add _ _) ?_
    refine lv_iload_n hx hb dX11_sharp_49 rfl (lv_at hl 3 rfl) ?_
    refine ck_iast hx hb hE hP hD hS 1 rfl (by omega) (by decide) dX11_sharp_50 (ws1 := [(mm, .inr (11, [.ref an, .ref ak, .int (nI ((ke + 1) % 20)), .int (nI (min (kn + 1) 20)), .int fd, .ref ab, .ref az, .ref as_, .ref ae, .ref ao, .ref ar, .ref aw, .ref al, .ref am, .int (nI mn), .ref af, .ref ac])), (an, .inl (N.2 0, 572, .inl (upd nw (242 + i) y))), (ak, .inl (N.2 0, 11440, .inl (guT kp (572 * ke) nw 572)))]) rfl (fun H locs hP hD hS => ?_)
    refine lv_iload_n hx hb dX11_sharp_51 rfl (lv_at hl 0 rfl) ?_
    exact ck_iret hx hb hrt hlk ⟨fd, (ke + 1) % 20, min (kn + 1) 20, upd nw (242 + i) y, guT kp (572 * ke) nw 572⟩ (by have he : spF n (nI i) y = 0 := (by simp [spF, cz_3, cz_8, exi]); exact ⟨ckRd_ok he (by rw [exi]; exact hV.2.2.2.2.2.2.2.2.1 i (by omega)), Or.inl ⟨he, rfl, rfl, rfl, (by rw [exi]; exact mV_sh hV hn (by omega))⟩⟩) hP hD hS ⟨Nat.le_of_ble_eq_true rfl, Nat.le_of_ble_eq_true rfl⟩ dX11_sharp_52
  refine lv_aload_n hx hb dX11_sharp_18 rfl (lv_at hl 0 rfl) ?_
  refine lv_ldc (own := RX11) (v := (-100001)) hx hb hown (hg _ k4_81) dX11_sharp_19 ?_
  refine ck_Vi (As := [.int (-100001)]) (rest := []) (wr := [(ak, .inl (N.2 0, 11440, .inl kp)), (an, .inl (N.2 0, 572, .inl nw))]) C0 hP hD hS (c_X11_finds l N mm an ak ab az as_ ae ao ar aw al am af ac ke kn fd mn (-100001) ) myX11_finds k4_67 ⟨Nat.le_of_ble_eq_true rfl, Nat.le_of_ble_eq_true rfl⟩ [1] [0, 2] ⟨⟨rfl, rfl⟩, by decide, by decide, by decide⟩ 1 rfl rfl rfl rfl hl.1 rfl (Nat.le_of_ble_eq_true rfl) dX11_sharp_21 ⟨Nat.le_of_ble_eq_true rfl, Nat.le_of_ble_eq_true rfl⟩ (fun r_11 u0 H locs hw0 hP hD hS => ?_)
  have hw_12 : r_11 = (-100001) := hw0
  subst hw_12
  have hP : va_P N.1 vwCl [(ak, .inl (N.2 0, 11440, .inl kp)), (an, .inl (N.2 0, 572, .inl nw)), (mm, .inr (11, [.ref an, .ref ak, .int (nI ke), .int (nI kn), .int (fd + nI 1), .ref ab, .ref az, .ref as_, .ref ae, .ref ao, .ref ar, .ref aw, .ref al, .ref am, .int (nI mn), .ref af, .ref ac]))] H := hP
  have hD : va_D Ag [(ak, .inl (N.2 0, 11440, .inl kp)), (an, .inl (N.2 0, 572, .inl nw)), (mm, .inr (11, [.ref an, .ref ak, .int (nI ke), .int (nI kn), .int (fd + nI 1), .ref ab, .ref az, .ref as_, .ref ae, .ref ao, .ref ar, .ref aw, .ref al, .ref am, .int (nI mn), .ref af, .ref ac]))] := hD
  exact ck_iret hx hb hrt hlk ⟨(fd + nI 1), ke, kn, nw, kp⟩ (by have he : spF n x y = (-100001) := (by simp [spF, cz_3, cz_8]); exact ⟨ckRd_f he (by decide), Or.inr ⟨fun q => absurd (he.symm.trans q) (by decide), rfl, rfl, rfl, rfl⟩⟩) (hP.sub [2, 1, 0] rfl) (hD.sub [2, 1, 0] (by decide) rfl) hS ⟨Nat.le_of_ble_eq_true rfl, Nat.le_of_ble_eq_true rfl⟩ dX11_sharp_24
set_option maxHeartbeats 4000000 in
set_option maxRecDepth 100000 in
/-- X11_flyer -/
theorem c_X11_flyer (l : Launch) (N : ckN) (mm : Nat) (an : Nat) (ak : Nat) (ab : Nat) (az : Nat) (as_ : Nat) (ae : Nat) (ao : Nat) (ar : Nat) (aw : Nat) (al : Nat) (am : Nat) (af : Nat) (ac : Nat) (ke : Nat) (kn : Nat) (fd : Int32) (mn : Nat) (nw : Nat → Int32) (kp : Nat → Int32) (cf : Nat) (n : Nat) (wk : Int32) (tr : Nat → Int32) (di : Nat → Int32) (fo : Nat → Int32) (w : Nat → List Nat) (sdf : Nat → Int32) (wof : Nat → Int32) (shf : Nat → Int32) (twf : Nat → Int32) (x1 : Int32) (x2 : Int32) (x3 : Int32) (x4 : Int32) (x5 : Int32) (x6 : Int32) (hV : mV nw cf n wk tr di fo w sdf wof shf twf) (hn : n ≤ 5) (hke : ke < 20) (hkn : kn ≤ 20) (hcf : cf ≤ 8) : ckI l yX11_flyer cX11_flyer 9 (some FieldType.int) { frames := 4, cells := 0, slots := 0, locals := 102 } N [.ref mm, .int x1, .int x2, .int x3, .int x4, .int x5, .int x6] [(mm, .inr (11, [.ref an, .ref ak, .int (nI ke), .int (nI kn), .int fd, .ref ab, .ref az, .ref as_, .ref ae, .ref ao, .ref ar, .ref aw, .ref al, .ref am, .int (nI mn), .ref af, .ref ac])), (an, .inl (N.2 0, 572, .inl nw)), (ak, .inl (N.2 0, 11440, .inl kp))] (fun (r : Int32) (u : Int32 × Nat × Nat × (Nat → Int32) × (Nat → Int32)) => (ckRd (fyF cf x1 x2 x3 x4 x5 x6) (nI cf) fd r u.1) ∧ ((fyF cf x1 x2 x3 x4 x5 x6 = 0 ∧ u.2.1 = (ke + 1) % 20 ∧ u.2.2.1 = min (kn + 1) 20 ∧ u.2.2.2.2 = guT kp (572 * ke) nw 572 ∧ mV u.2.2.2.1 (cf + 1) n wk (fyT tr cf x1 x2 x3 x4 x5 x6) di fo w sdf wof shf twf) ∨ (fyF cf x1 x2 x3 x4 x5 x6 ≠ 0 ∧ u.2.1 = ke ∧ u.2.2.1 = kn ∧ u.2.2.2.2 = kp ∧ u.2.2.2.1 = nw))) (fun (u : Int32 × Nat × Nat × (Nat → Int32) × (Nat → Int32)) => [(mm, .inr (11, [.ref an, .ref ak, .int (nI u.2.1), .int (nI u.2.2.1), .int u.1, .ref ab, .ref az, .ref as_, .ref ae, .ref ao, .ref ar, .ref aw, .ref al, .ref am, .int (nI mn), .ref af, .ref ac])), (an, .inl (N.2 0, 572, .inl u.2.2.2.1)), (ak, .inl (N.2 0, 11440, .inl u.2.2.2.2))]) := by
  refine ckI.of (by decide) (Nat.le_of_ble_eq_true rfl) ?_
  intro pg eg sg mg blw mth cg Ag ls hx hb hrt hml hown hlk hin hg hE hA hP hD hS hl
  have hown : sg.vm.findClass RX11 = some mg.cls := hown
  have hl : lv_has ls 9 [(0, .ref mm), (1, .int x1), (2, .int x2), (3, .int x3), (4, .int x4), (5, .int x5), (6, .int x6)] := hl
  have C0 : ckC pg sg mg ([.ref mm, .int x1, .int x2, .int x3, .int x4, .int x5, .int x6]).toArray cg cX11_flyer 9 RX11 N Ag := ⟨⟨hx, hb, hml, hown, hg⟩, hE, hA⟩
  generalize hHe : sg.heap = H at hP
  have hS : va_S Ag sg.heap H [] := hHe ▸ hS
  refine lv_iload_n hx hb dX11_flyer_0 rfl (lv_at hl 1 rfl) ?_
  refine lv_iconst (v := (nI 0)) hx hb dX11_flyer_1 (by decide) ?_
  refine lv_iconst (v := (nI 3)) hx hb dX11_flyer_2 (by decide) ?_
  refine ck_Si (As := [.int x1, .int (nI 0), .int (nI 3)]) (rest := []) (wr := [(mm, .inr (11, [.ref an, .ref ak, .int (nI ke), .int (nI kn), .int fd, .ref ab, .ref az, .ref as_, .ref ae, .ref ao, .ref ar, .ref aw, .ref al, .ref am, .int (nI mn), .ref af, .ref ac])), (an, .inl (N.2 0, 572, .inl nw)), (ak, .inl (N.2 0, 11440, .inl kp))]) C0 hP hD hS (c_X11_in l N x1 (nI 0) (nI 3) ) myX11_in k4_75 ⟨Nat.le_of_ble_eq_true rfl, Nat.le_of_ble_eq_true rfl⟩ [] [0, 1, 2] ⟨⟨rfl, rfl⟩, by decide, by decide, by decide⟩ rfl hl.1 rfl (Nat.le_of_ble_eq_true rfl) dX11_flyer_3 ⟨Nat.le_of_ble_eq_true rfl, Nat.le_of_ble_eq_true rfl⟩ (fun r_1 u0 H locs hw0 hP hD hS => ?_)
  have hw_2 : r_1 = (b2i (ckIn x1 (nI 0) (nI 3))) := hw0
  subst hw_2
  have hP : va_P N.1 vwCl [(mm, .inr (11, [.ref an, .ref ak, .int (nI ke), .int (nI kn), .int fd, .ref ab, .ref az, .ref as_, .ref ae, .ref ao, .ref ar, .ref aw, .ref al, .ref am, .int (nI mn), .ref af, .ref ac])), (an, .inl (N.2 0, 572, .inl nw)), (ak, .inl (N.2 0, 11440, .inl kp))] H := hP
  have hD : va_D Ag [(mm, .inr (11, [.ref an, .ref ak, .int (nI ke), .int (nI kn), .int fd, .ref ab, .ref az, .ref as_, .ref ae, .ref ao, .ref ar, .ref aw, .ref al, .ref am, .int (nI mn), .ref af, .ref ac])), (an, .inl (N.2 0, 572, .inl nw)), (ak, .inl (N.2 0, 11440, .inl kp))] := hD
  refine ck_ifeq (b := ckIn x1 (nI 0) (nI 3)) (tgt := 74) hx hb dX11_flyer_6 (by decide) (fun cz_3 => ?_) (fun cz_3 => ?_)
  · refine lv_aload_n hx hb dX11_flyer_74 rfl (lv_at hl 0 rfl) ?_
    refine lv_ldc (own := RX11) (v := (-100001)) hx hb hown (hg _ k4_81) dX11_flyer_75 ?_
    refine ck_Vi (As := [.int (-100001)]) (rest := []) (wr := [(an, .inl (N.2 0, 572, .inl nw)), (ak, .inl (N.2 0, 11440, .inl kp))]) C0 hP hD hS (c_X11_finds l N mm an ak ab az as_ ae ao ar aw al am af ac ke kn fd mn (-100001) ) myX11_finds k4_67 ⟨Nat.le_of_ble_eq_true rfl, Nat.le_of_ble_eq_true rfl⟩ [0] [1, 2] ⟨⟨rfl, rfl⟩, by decide, by decide, by decide⟩ 0 rfl rfl rfl rfl hl.1 rfl (Nat.le_of_ble_eq_true rfl) dX11_flyer_77 ⟨Nat.le_of_ble_eq_true rfl, Nat.le_of_ble_eq_true rfl⟩ (fun r_4 u0 H locs hw0 hP hD hS => ?_)
    have hw_5 : r_4 = (-100001) := hw0
    subst hw_5
    have hP : va_P N.1 vwCl [(an, .inl (N.2 0, 572, .inl nw)), (ak, .inl (N.2 0, 11440, .inl kp)), (mm, .inr (11, [.ref an, .ref ak, .int (nI ke), .int (nI kn), .int (fd + nI 1), .ref ab, .ref az, .ref as_, .ref ae, .ref ao, .ref ar, .ref aw, .ref al, .ref am, .int (nI mn), .ref af, .ref ac]))] H := hP
    have hD : va_D Ag [(an, .inl (N.2 0, 572, .inl nw)), (ak, .inl (N.2 0, 11440, .inl kp)), (mm, .inr (11, [.ref an, .ref ak, .int (nI ke), .int (nI kn), .int (fd + nI 1), .ref ab, .ref az, .ref as_, .ref ae, .ref ao, .ref ar, .ref aw, .ref al, .ref am, .int (nI mn), .ref af, .ref ac]))] := hD
    exact ck_iret hx hb hrt hlk ⟨(fd + nI 1), ke, kn, nw, kp⟩ (by have he : fyF cf x1 x2 x3 x4 x5 x6 = (-100001) := (by simp [fyF, cz_3]); exact ⟨ckRd_f he (by decide), Or.inr ⟨fun q => absurd (he.symm.trans q) (by decide), rfl, rfl, rfl, rfl⟩⟩) (hP.sub [2, 0, 1] rfl) (hD.sub [2, 0, 1] (by decide) rfl) hS ⟨Nat.le_of_ble_eq_true rfl, Nat.le_of_ble_eq_true rfl⟩ dX11_flyer_80
  refine lv_iload_n hx hb dX11_flyer_9 rfl (lv_at hl 2 rfl) ?_
  refine lv_iconst (v := (nI 0)) hx hb dX11_flyer_10 (by decide) ?_
  refine lv_sipush (v := (nI 9999)) hx hb dX11_flyer_11 (by decide) ?_
  refine ck_Si (As := [.int x2, .int (nI 0), .int (nI 9999)]) (rest := []) (wr := [(mm, .inr (11, [.ref an, .ref ak, .int (nI ke), .int (nI kn), .int fd, .ref ab, .ref az, .ref as_, .ref ae, .ref ao, .ref ar, .ref aw, .ref al, .ref am, .int (nI mn), .ref af, .ref ac])), (an, .inl (N.2 0, 572, .inl nw)), (ak, .inl (N.2 0, 11440, .inl kp))]) C0 hP hD hS (c_X11_in l N x2 (nI 0) (nI 9999) ) myX11_in k4_75 ⟨Nat.le_of_ble_eq_true rfl, Nat.le_of_ble_eq_true rfl⟩ [] [0, 1, 2] ⟨⟨rfl, rfl⟩, by decide, by decide, by decide⟩ rfl hl.1 rfl (Nat.le_of_ble_eq_true rfl) dX11_flyer_14 ⟨Nat.le_of_ble_eq_true rfl, Nat.le_of_ble_eq_true rfl⟩ (fun r_6 u0 H locs hw0 hP hD hS => ?_)
  have hw_7 : r_6 = (b2i (ckIn x2 (nI 0) (nI 9999))) := hw0
  subst hw_7
  have hP : va_P N.1 vwCl [(mm, .inr (11, [.ref an, .ref ak, .int (nI ke), .int (nI kn), .int fd, .ref ab, .ref az, .ref as_, .ref ae, .ref ao, .ref ar, .ref aw, .ref al, .ref am, .int (nI mn), .ref af, .ref ac])), (an, .inl (N.2 0, 572, .inl nw)), (ak, .inl (N.2 0, 11440, .inl kp))] H := hP
  have hD : va_D Ag [(mm, .inr (11, [.ref an, .ref ak, .int (nI ke), .int (nI kn), .int fd, .ref ab, .ref az, .ref as_, .ref ae, .ref ao, .ref ar, .ref aw, .ref al, .ref am, .int (nI mn), .ref af, .ref ac])), (an, .inl (N.2 0, 572, .inl nw)), (ak, .inl (N.2 0, 11440, .inl kp))] := hD
  refine ck_ifeq (b := ckIn x2 (nI 0) (nI 9999)) (tgt := 74) hx hb dX11_flyer_17 (by decide) (fun cz_8 => ?_) (fun cz_8 => ?_)
  · refine lv_aload_n hx hb dX11_flyer_74 rfl (lv_at hl 0 rfl) ?_
    refine lv_ldc (own := RX11) (v := (-100001)) hx hb hown (hg _ k4_81) dX11_flyer_75 ?_
    refine ck_Vi (As := [.int (-100001)]) (rest := []) (wr := [(an, .inl (N.2 0, 572, .inl nw)), (ak, .inl (N.2 0, 11440, .inl kp))]) C0 hP hD hS (c_X11_finds l N mm an ak ab az as_ ae ao ar aw al am af ac ke kn fd mn (-100001) ) myX11_finds k4_67 ⟨Nat.le_of_ble_eq_true rfl, Nat.le_of_ble_eq_true rfl⟩ [0] [1, 2] ⟨⟨rfl, rfl⟩, by decide, by decide, by decide⟩ 0 rfl rfl rfl rfl hl.1 rfl (Nat.le_of_ble_eq_true rfl) dX11_flyer_77 ⟨Nat.le_of_ble_eq_true rfl, Nat.le_of_ble_eq_true rfl⟩ (fun r_9 u0 H locs hw0 hP hD hS => ?_)
    have hw_10 : r_9 = (-100001) := hw0
    subst hw_10
    have hP : va_P N.1 vwCl [(an, .inl (N.2 0, 572, .inl nw)), (ak, .inl (N.2 0, 11440, .inl kp)), (mm, .inr (11, [.ref an, .ref ak, .int (nI ke), .int (nI kn), .int (fd + nI 1), .ref ab, .ref az, .ref as_, .ref ae, .ref ao, .ref ar, .ref aw, .ref al, .ref am, .int (nI mn), .ref af, .ref ac]))] H := hP
    have hD : va_D Ag [(an, .inl (N.2 0, 572, .inl nw)), (ak, .inl (N.2 0, 11440, .inl kp)), (mm, .inr (11, [.ref an, .ref ak, .int (nI ke), .int (nI kn), .int (fd + nI 1), .ref ab, .ref az, .ref as_, .ref ae, .ref ao, .ref ar, .ref aw, .ref al, .ref am, .int (nI mn), .ref af, .ref ac]))] := hD
    exact ck_iret hx hb hrt hlk ⟨(fd + nI 1), ke, kn, nw, kp⟩ (by have he : fyF cf x1 x2 x3 x4 x5 x6 = (-100001) := (by simp [fyF, cz_3, cz_8]); exact ⟨ckRd_f he (by decide), Or.inr ⟨fun q => absurd (he.symm.trans q) (by decide), rfl, rfl, rfl, rfl⟩⟩) (hP.sub [2, 0, 1] rfl) (hD.sub [2, 0, 1] (by decide) rfl) hS ⟨Nat.le_of_ble_eq_true rfl, Nat.le_of_ble_eq_true rfl⟩ dX11_flyer_80
  refine lv_iload_n hx hb dX11_flyer_20 rfl (lv_at hl 3 rfl) ?_
  refine ck_Si (As := [.int x3]) (rest := []) (wr := [(mm, .inr (11, [.ref an, .ref ak, .int (nI ke), .int (nI kn), .int fd, .ref ab, .ref az, .ref as_, .ref ae, .ref ao, .ref ar, .ref aw, .ref al, .ref am, .int (nI mn), .ref af, .ref ac])), (an, .inl (N.2 0, 572, .inl nw)), (ak, .inl (N.2 0, 11440, .inl kp))]) C0 hP hD hS (c_X11_isHeight l N x3 ) myX11_isHeight k4_78 ⟨Nat.le_of_ble_eq_true rfl, Nat.le_of_ble_eq_true rfl⟩ [] [0, 1, 2] ⟨⟨rfl, rfl⟩, by decide, by decide, by decide⟩ rfl hl.1 rfl (Nat.le_of_ble_eq_true rfl) dX11_flyer_21 ⟨Nat.le_of_ble_eq_true rfl, Nat.le_of_ble_eq_true rfl⟩ (fun r_11 u0 H locs hw0 hP hD hS => ?_)
  have hw_12 : r_11 = (b2i (ckIn x3 (nI 0) (nI 3))) := hw0
  subst hw_12
  have hP : va_P N.1 vwCl [(mm, .inr (11, [.ref an, .ref ak, .int (nI ke), .int (nI kn), .int fd, .ref ab, .ref az, .ref as_, .ref ae, .ref ao, .ref ar, .ref aw, .ref al, .ref am, .int (nI mn), .ref af, .ref ac])), (an, .inl (N.2 0, 572, .inl nw)), (ak, .inl (N.2 0, 11440, .inl kp))] H := hP
  have hD : va_D Ag [(mm, .inr (11, [.ref an, .ref ak, .int (nI ke), .int (nI kn), .int fd, .ref ab, .ref az, .ref as_, .ref ae, .ref ao, .ref ar, .ref aw, .ref al, .ref am, .int (nI mn), .ref af, .ref ac])), (an, .inl (N.2 0, 572, .inl nw)), (ak, .inl (N.2 0, 11440, .inl kp))] := hD
  refine ck_ifeq (b := ckIn x3 (nI 0) (nI 3)) (tgt := 74) hx hb dX11_flyer_24 (by decide) (fun cz_13 => ?_) (fun cz_13 => ?_)
  · refine lv_aload_n hx hb dX11_flyer_74 rfl (lv_at hl 0 rfl) ?_
    refine lv_ldc (own := RX11) (v := (-100001)) hx hb hown (hg _ k4_81) dX11_flyer_75 ?_
    refine ck_Vi (As := [.int (-100001)]) (rest := []) (wr := [(an, .inl (N.2 0, 572, .inl nw)), (ak, .inl (N.2 0, 11440, .inl kp))]) C0 hP hD hS (c_X11_finds l N mm an ak ab az as_ ae ao ar aw al am af ac ke kn fd mn (-100001) ) myX11_finds k4_67 ⟨Nat.le_of_ble_eq_true rfl, Nat.le_of_ble_eq_true rfl⟩ [0] [1, 2] ⟨⟨rfl, rfl⟩, by decide, by decide, by decide⟩ 0 rfl rfl rfl rfl hl.1 rfl (Nat.le_of_ble_eq_true rfl) dX11_flyer_77 ⟨Nat.le_of_ble_eq_true rfl, Nat.le_of_ble_eq_true rfl⟩ (fun r_14 u0 H locs hw0 hP hD hS => ?_)
    have hw_15 : r_14 = (-100001) := hw0
    subst hw_15
    have hP : va_P N.1 vwCl [(an, .inl (N.2 0, 572, .inl nw)), (ak, .inl (N.2 0, 11440, .inl kp)), (mm, .inr (11, [.ref an, .ref ak, .int (nI ke), .int (nI kn), .int (fd + nI 1), .ref ab, .ref az, .ref as_, .ref ae, .ref ao, .ref ar, .ref aw, .ref al, .ref am, .int (nI mn), .ref af, .ref ac]))] H := hP
    have hD : va_D Ag [(an, .inl (N.2 0, 572, .inl nw)), (ak, .inl (N.2 0, 11440, .inl kp)), (mm, .inr (11, [.ref an, .ref ak, .int (nI ke), .int (nI kn), .int (fd + nI 1), .ref ab, .ref az, .ref as_, .ref ae, .ref ao, .ref ar, .ref aw, .ref al, .ref am, .int (nI mn), .ref af, .ref ac]))] := hD
    exact ck_iret hx hb hrt hlk ⟨(fd + nI 1), ke, kn, nw, kp⟩ (by have he : fyF cf x1 x2 x3 x4 x5 x6 = (-100001) := (by simp [fyF, cz_3, cz_8, cz_13]); exact ⟨ckRd_f he (by decide), Or.inr ⟨fun q => absurd (he.symm.trans q) (by decide), rfl, rfl, rfl, rfl⟩⟩) (hP.sub [2, 0, 1] rfl) (hD.sub [2, 0, 1] (by decide) rfl) hS ⟨Nat.le_of_ble_eq_true rfl, Nat.le_of_ble_eq_true rfl⟩ dX11_flyer_80
  refine lv_iload hx hb dX11_flyer_27 (lv_at hl 4 rfl) ?_
  refine lv_iconst (v := (nI 1)) hx hb dX11_flyer_29 (by decide) ?_
  refine lv_bipush (v := (nI 40)) hx hb dX11_flyer_30 (by decide) ?_
  refine ck_Si (As := [.int x4, .int (nI 1), .int (nI 40)]) (rest := []) (wr := [(mm, .inr (11, [.ref an, .ref ak, .int (nI ke), .int (nI kn), .int fd, .ref ab, .ref az, .ref as_, .ref ae, .ref ao, .ref ar, .ref aw, .ref al, .ref am, .int (nI mn), .ref af, .ref ac])), (an, .inl (N.2 0, 572, .inl nw)), (ak, .inl (N.2 0, 11440, .inl kp))]) C0 hP hD hS (c_X11_in l N x4 (nI 1) (nI 40) ) myX11_in k4_75 ⟨Nat.le_of_ble_eq_true rfl, Nat.le_of_ble_eq_true rfl⟩ [] [0, 1, 2] ⟨⟨rfl, rfl⟩, by decide, by decide, by decide⟩ rfl hl.1 rfl (Nat.le_of_ble_eq_true rfl) dX11_flyer_32 ⟨Nat.le_of_ble_eq_true rfl, Nat.le_of_ble_eq_true rfl⟩ (fun r_16 u0 H locs hw0 hP hD hS => ?_)
  have hw_17 : r_16 = (b2i (ckIn x4 (nI 1) (nI 40))) := hw0
  subst hw_17
  have hP : va_P N.1 vwCl [(mm, .inr (11, [.ref an, .ref ak, .int (nI ke), .int (nI kn), .int fd, .ref ab, .ref az, .ref as_, .ref ae, .ref ao, .ref ar, .ref aw, .ref al, .ref am, .int (nI mn), .ref af, .ref ac])), (an, .inl (N.2 0, 572, .inl nw)), (ak, .inl (N.2 0, 11440, .inl kp))] H := hP
  have hD : va_D Ag [(mm, .inr (11, [.ref an, .ref ak, .int (nI ke), .int (nI kn), .int fd, .ref ab, .ref az, .ref as_, .ref ae, .ref ao, .ref ar, .ref aw, .ref al, .ref am, .int (nI mn), .ref af, .ref ac])), (an, .inl (N.2 0, 572, .inl nw)), (ak, .inl (N.2 0, 11440, .inl kp))] := hD
  refine ck_ifeq (b := ckIn x4 (nI 1) (nI 40)) (tgt := 74) hx hb dX11_flyer_35 (by decide) (fun cz_18 => ?_) (fun cz_18 => ?_)
  · refine lv_aload_n hx hb dX11_flyer_74 rfl (lv_at hl 0 rfl) ?_
    refine lv_ldc (own := RX11) (v := (-100001)) hx hb hown (hg _ k4_81) dX11_flyer_75 ?_
    refine ck_Vi (As := [.int (-100001)]) (rest := []) (wr := [(an, .inl (N.2 0, 572, .inl nw)), (ak, .inl (N.2 0, 11440, .inl kp))]) C0 hP hD hS (c_X11_finds l N mm an ak ab az as_ ae ao ar aw al am af ac ke kn fd mn (-100001) ) myX11_finds k4_67 ⟨Nat.le_of_ble_eq_true rfl, Nat.le_of_ble_eq_true rfl⟩ [0] [1, 2] ⟨⟨rfl, rfl⟩, by decide, by decide, by decide⟩ 0 rfl rfl rfl rfl hl.1 rfl (Nat.le_of_ble_eq_true rfl) dX11_flyer_77 ⟨Nat.le_of_ble_eq_true rfl, Nat.le_of_ble_eq_true rfl⟩ (fun r_19 u0 H locs hw0 hP hD hS => ?_)
    have hw_20 : r_19 = (-100001) := hw0
    subst hw_20
    have hP : va_P N.1 vwCl [(an, .inl (N.2 0, 572, .inl nw)), (ak, .inl (N.2 0, 11440, .inl kp)), (mm, .inr (11, [.ref an, .ref ak, .int (nI ke), .int (nI kn), .int (fd + nI 1), .ref ab, .ref az, .ref as_, .ref ae, .ref ao, .ref ar, .ref aw, .ref al, .ref am, .int (nI mn), .ref af, .ref ac]))] H := hP
    have hD : va_D Ag [(an, .inl (N.2 0, 572, .inl nw)), (ak, .inl (N.2 0, 11440, .inl kp)), (mm, .inr (11, [.ref an, .ref ak, .int (nI ke), .int (nI kn), .int (fd + nI 1), .ref ab, .ref az, .ref as_, .ref ae, .ref ao, .ref ar, .ref aw, .ref al, .ref am, .int (nI mn), .ref af, .ref ac]))] := hD
    exact ck_iret hx hb hrt hlk ⟨(fd + nI 1), ke, kn, nw, kp⟩ (by have he : fyF cf x1 x2 x3 x4 x5 x6 = (-100001) := (by simp [fyF, cz_3, cz_8, cz_13, cz_18]); exact ⟨ckRd_f he (by decide), Or.inr ⟨fun q => absurd (he.symm.trans q) (by decide), rfl, rfl, rfl, rfl⟩⟩) (hP.sub [2, 0, 1] rfl) (hD.sub [2, 0, 1] (by decide) rfl) hS ⟨Nat.le_of_ble_eq_true rfl, Nat.le_of_ble_eq_true rfl⟩ dX11_flyer_80
  refine lv_iload hx hb dX11_flyer_38 (lv_at hl 5 rfl) ?_
  refine lv_iconst (v := (nI 1)) hx hb dX11_flyer_40 (by decide) ?_
  refine lv_bipush (v := (nI 9)) hx hb dX11_flyer_41 (by decide) ?_
  refine ck_Si (As := [.int x5, .int (nI 1), .int (nI 9)]) (rest := []) (wr := [(mm, .inr (11, [.ref an, .ref ak, .int (nI ke), .int (nI kn), .int fd, .ref ab, .ref az, .ref as_, .ref ae, .ref ao, .ref ar, .ref aw, .ref al, .ref am, .int (nI mn), .ref af, .ref ac])), (an, .inl (N.2 0, 572, .inl nw)), (ak, .inl (N.2 0, 11440, .inl kp))]) C0 hP hD hS (c_X11_in l N x5 (nI 1) (nI 9) ) myX11_in k4_75 ⟨Nat.le_of_ble_eq_true rfl, Nat.le_of_ble_eq_true rfl⟩ [] [0, 1, 2] ⟨⟨rfl, rfl⟩, by decide, by decide, by decide⟩ rfl hl.1 rfl (Nat.le_of_ble_eq_true rfl) dX11_flyer_43 ⟨Nat.le_of_ble_eq_true rfl, Nat.le_of_ble_eq_true rfl⟩ (fun r_21 u0 H locs hw0 hP hD hS => ?_)
  have hw_22 : r_21 = (b2i (ckIn x5 (nI 1) (nI 9))) := hw0
  subst hw_22
  have hP : va_P N.1 vwCl [(mm, .inr (11, [.ref an, .ref ak, .int (nI ke), .int (nI kn), .int fd, .ref ab, .ref az, .ref as_, .ref ae, .ref ao, .ref ar, .ref aw, .ref al, .ref am, .int (nI mn), .ref af, .ref ac])), (an, .inl (N.2 0, 572, .inl nw)), (ak, .inl (N.2 0, 11440, .inl kp))] H := hP
  have hD : va_D Ag [(mm, .inr (11, [.ref an, .ref ak, .int (nI ke), .int (nI kn), .int fd, .ref ab, .ref az, .ref as_, .ref ae, .ref ao, .ref ar, .ref aw, .ref al, .ref am, .int (nI mn), .ref af, .ref ac])), (an, .inl (N.2 0, 572, .inl nw)), (ak, .inl (N.2 0, 11440, .inl kp))] := hD
  refine ck_ifeq (b := ckIn x5 (nI 1) (nI 9)) (tgt := 74) hx hb dX11_flyer_46 (by decide) (fun cz_23 => ?_) (fun cz_23 => ?_)
  · refine lv_aload_n hx hb dX11_flyer_74 rfl (lv_at hl 0 rfl) ?_
    refine lv_ldc (own := RX11) (v := (-100001)) hx hb hown (hg _ k4_81) dX11_flyer_75 ?_
    refine ck_Vi (As := [.int (-100001)]) (rest := []) (wr := [(an, .inl (N.2 0, 572, .inl nw)), (ak, .inl (N.2 0, 11440, .inl kp))]) C0 hP hD hS (c_X11_finds l N mm an ak ab az as_ ae ao ar aw al am af ac ke kn fd mn (-100001) ) myX11_finds k4_67 ⟨Nat.le_of_ble_eq_true rfl, Nat.le_of_ble_eq_true rfl⟩ [0] [1, 2] ⟨⟨rfl, rfl⟩, by decide, by decide, by decide⟩ 0 rfl rfl rfl rfl hl.1 rfl (Nat.le_of_ble_eq_true rfl) dX11_flyer_77 ⟨Nat.le_of_ble_eq_true rfl, Nat.le_of_ble_eq_true rfl⟩ (fun r_24 u0 H locs hw0 hP hD hS => ?_)
    have hw_25 : r_24 = (-100001) := hw0
    subst hw_25
    have hP : va_P N.1 vwCl [(an, .inl (N.2 0, 572, .inl nw)), (ak, .inl (N.2 0, 11440, .inl kp)), (mm, .inr (11, [.ref an, .ref ak, .int (nI ke), .int (nI kn), .int (fd + nI 1), .ref ab, .ref az, .ref as_, .ref ae, .ref ao, .ref ar, .ref aw, .ref al, .ref am, .int (nI mn), .ref af, .ref ac]))] H := hP
    have hD : va_D Ag [(an, .inl (N.2 0, 572, .inl nw)), (ak, .inl (N.2 0, 11440, .inl kp)), (mm, .inr (11, [.ref an, .ref ak, .int (nI ke), .int (nI kn), .int (fd + nI 1), .ref ab, .ref az, .ref as_, .ref ae, .ref ao, .ref ar, .ref aw, .ref al, .ref am, .int (nI mn), .ref af, .ref ac]))] := hD
    exact ck_iret hx hb hrt hlk ⟨(fd + nI 1), ke, kn, nw, kp⟩ (by have he : fyF cf x1 x2 x3 x4 x5 x6 = (-100001) := (by simp [fyF, cz_3, cz_8, cz_13, cz_18, cz_23]); exact ⟨ckRd_f he (by decide), Or.inr ⟨fun q => absurd (he.symm.trans q) (by decide), rfl, rfl, rfl, rfl⟩⟩) (hP.sub [2, 0, 1] rfl) (hD.sub [2, 0, 1] (by decide) rfl) hS ⟨Nat.le_of_ble_eq_true rfl, Nat.le_of_ble_eq_true rfl⟩ dX11_flyer_80
  refine lv_iload hx hb dX11_flyer_49 (lv_at hl 6 rfl) ?_
  refine lv_if_lt (tgt := 74) hx hb dX11_flyer_51 (by decide) (fun cz_26 => ?_) (fun cz_26 => ?_)
  · have hq6 : ckFc x6 = false := by rw [ckFc, decide_eq_false (by have z := cz_26; rw [i_lt] at z; have e0 : (0 : Int32).toInt = 0 := (by decide); omega)]; rfl
    refine lv_aload_n hx hb dX11_flyer_74 rfl (lv_at hl 0 rfl) ?_
    refine lv_ldc (own := RX11) (v := (-100001)) hx hb hown (hg _ k4_81) dX11_flyer_75 ?_
    refine ck_Vi (As := [.int (-100001)]) (rest := []) (wr := [(an, .inl (N.2 0, 572, .inl nw)), (ak, .inl (N.2 0, 11440, .inl kp))]) C0 hP hD hS (c_X11_finds l N mm an ak ab az as_ ae ao ar aw al am af ac ke kn fd mn (-100001) ) myX11_finds k4_67 ⟨Nat.le_of_ble_eq_true rfl, Nat.le_of_ble_eq_true rfl⟩ [0] [1, 2] ⟨⟨rfl, rfl⟩, by decide, by decide, by decide⟩ 0 rfl rfl rfl rfl hl.1 rfl (Nat.le_of_ble_eq_true rfl) dX11_flyer_77 ⟨Nat.le_of_ble_eq_true rfl, Nat.le_of_ble_eq_true rfl⟩ (fun r_27 u0 H locs hw0 hP hD hS => ?_)
    have hw_28 : r_27 = (-100001) := hw0
    subst hw_28
    have hP : va_P N.1 vwCl [(an, .inl (N.2 0, 572, .inl nw)), (ak, .inl (N.2 0, 11440, .inl kp)), (mm, .inr (11, [.ref an, .ref ak, .int (nI ke), .int (nI kn), .int (fd + nI 1), .ref ab, .ref az, .ref as_, .ref ae, .ref ao, .ref ar, .ref aw, .ref al, .ref am, .int (nI mn), .ref af, .ref ac]))] H := hP
    have hD : va_D Ag [(an, .inl (N.2 0, 572, .inl nw)), (ak, .inl (N.2 0, 11440, .inl kp)), (mm, .inr (11, [.ref an, .ref ak, .int (nI ke), .int (nI kn), .int (fd + nI 1), .ref ab, .ref az, .ref as_, .ref ae, .ref ao, .ref ar, .ref aw, .ref al, .ref am, .int (nI mn), .ref af, .ref ac]))] := hD
    exact ck_iret hx hb hrt hlk ⟨(fd + nI 1), ke, kn, nw, kp⟩ (by have he : fyF cf x1 x2 x3 x4 x5 x6 = (-100001) := (by simp [fyF, cz_3, cz_8, cz_13, cz_18, cz_23, hq6]); exact ⟨ckRd_f he (by decide), Or.inr ⟨fun q => absurd (he.symm.trans q) (by decide), rfl, rfl, rfl, rfl⟩⟩) (hP.sub [2, 0, 1] rfl) (hD.sub [2, 0, 1] (by decide) rfl) hS ⟨Nat.le_of_ble_eq_true rfl, Nat.le_of_ble_eq_true rfl⟩ dX11_flyer_80
  obtain ⟨fc, hfc, rfl⟩ := nI_of cz_26
  have exfc : ix (nI fc) = fc := ix_nI hfc
  have hd6 : decide (0 ≤ (nI fc).toInt) = true := decide_eq_true (by rw [nI_toInt hfc]; omega)
  refine lv_iload hx hb dX11_flyer_54 (lv_at hl 6 rfl) ?_
  refine lv_bipush (v := (nI 16)) hx hb dX11_flyer_56 (by decide) ?_
  refine lv_idiv hx hb dX11_flyer_58 (by decide) ?_
  refine ck_top (y := (nI (fc / 16))) (pk_div (by omega) (by omega) (by omega)) ?_
  refine lv_bipush (v := (nI 12)) hx hb dX11_flyer_59 (by decide) ?_
  refine ck_ic_gt (tgt := 74) hx hb dX11_flyer_61 (by decide) (by omega) (by omega) (fun cz_29 => ?_) (fun cz_29 => ?_)
  · have hq6 : ckFc (nI fc) = false := by rw [ckFc, exfc, hd6, ckIn_le (by omega) (by decide), ckIn_le (by omega) (by decide), decide_eq_false (show ¬ fc / 16 ≤ 12 by omega)]; rfl
    refine lv_aload_n hx hb dX11_flyer_74 rfl (lv_at hl 0 rfl) ?_
    refine lv_ldc (own := RX11) (v := (-100001)) hx hb hown (hg _ k4_81) dX11_flyer_75 ?_
    refine ck_Vi (As := [.int (-100001)]) (rest := []) (wr := [(an, .inl (N.2 0, 572, .inl nw)), (ak, .inl (N.2 0, 11440, .inl kp))]) C0 hP hD hS (c_X11_finds l N mm an ak ab az as_ ae ao ar aw al am af ac ke kn fd mn (-100001) ) myX11_finds k4_67 ⟨Nat.le_of_ble_eq_true rfl, Nat.le_of_ble_eq_true rfl⟩ [0] [1, 2] ⟨⟨rfl, rfl⟩, by decide, by decide, by decide⟩ 0 rfl rfl rfl rfl hl.1 rfl (Nat.le_of_ble_eq_true rfl) dX11_flyer_77 ⟨Nat.le_of_ble_eq_true rfl, Nat.le_of_ble_eq_true rfl⟩ (fun r_30 u0 H locs hw0 hP hD hS => ?_)
    have hw_31 : r_30 = (-100001) := hw0
    subst hw_31
    have hP : va_P N.1 vwCl [(an, .inl (N.2 0, 572, .inl nw)), (ak, .inl (N.2 0, 11440, .inl kp)), (mm, .inr (11, [.ref an, .ref ak, .int (nI ke), .int (nI kn), .int (fd + nI 1), .ref ab, .ref az, .ref as_, .ref ae, .ref ao, .ref ar, .ref aw, .ref al, .ref am, .int (nI mn), .ref af, .ref ac]))] H := hP
    have hD : va_D Ag [(an, .inl (N.2 0, 572, .inl nw)), (ak, .inl (N.2 0, 11440, .inl kp)), (mm, .inr (11, [.ref an, .ref ak, .int (nI ke), .int (nI kn), .int (fd + nI 1), .ref ab, .ref az, .ref as_, .ref ae, .ref ao, .ref ar, .ref aw, .ref al, .ref am, .int (nI mn), .ref af, .ref ac]))] := hD
    exact ck_iret hx hb hrt hlk ⟨(fd + nI 1), ke, kn, nw, kp⟩ (by have he : fyF cf x1 x2 x3 x4 x5 (nI fc) = (-100001) := (by simp [fyF, cz_3, cz_8, cz_13, cz_18, cz_23, hq6]); exact ⟨ckRd_f he (by decide), Or.inr ⟨fun q => absurd (he.symm.trans q) (by decide), rfl, rfl, rfl, rfl⟩⟩) (hP.sub [2, 0, 1] rfl) (hD.sub [2, 0, 1] (by decide) rfl) hS ⟨Nat.le_of_ble_eq_true rfl, Nat.le_of_ble_eq_true rfl⟩ dX11_flyer_80
  refine lv_iload hx hb dX11_flyer_64 (lv_at hl 6 rfl) ?_
  refine lv_bipush (v := (nI 16)) hx hb dX11_flyer_66 (by decide) ?_
  refine lv_irem hx hb dX11_flyer_68 (by decide) ?_
  refine ck_top (y := (nI (fc % 16))) (pk_rem (by omega) (by omega) (by omega)) ?_
  refine lv_bipush (v := (nI 12)) hx hb dX11_flyer_69 (by decide) ?_
  refine ck_ic_le (tgt := 81) hx hb dX11_flyer_71 (by decide) (by omega) (by omega) (fun cz_32 => ?_) (fun cz_32 => ?_)
  · have hq6 : ckFc (nI fc) = true := by rw [ckFc, exfc, hd6, ckIn_le (by omega) (by decide), ckIn_le (by omega) (by decide), decide_eq_true (show fc / 16 ≤ 12 by omega), decide_eq_true (show fc % 16 ≤ 12 by omega)]; rfl
    refine lv_iload hx hb dX11_flyer_81 (lv_at hl 6 rfl) ?_
    refine lv_bipush (v := (nI 16)) hx hb dX11_flyer_83 (by decide) ?_
    refine lv_idiv hx hb dX11_flyer_85 (by decide) ?_
    refine ck_top (y := (nI (fc / 16))) (pk_div (by omega) (by omega) (by omega)) ?_
    refine lv_iload hx hb dX11_flyer_86 (lv_at hl 6 rfl) ?_
    refine lv_bipush (v := (nI 16)) hx hb dX11_flyer_88 (by decide) ?_
    refine lv_irem hx hb dX11_flyer_90 (by decide) ?_
    refine ck_top (y := (nI (fc % 16))) (pk_rem (by omega) (by omega) (by omega)) ?_
    refine ck_ic_le (tgt := 101) hx hb dX11_flyer_91 (by decide) (by omega) (by omega) (fun cz_33 => ?_) (fun cz_33 => ?_)
    · have hsz : fc / 16 ≤ fc % 16 := by omega
      refine lv_aload_n hx hb dX11_flyer_101 rfl (lv_at hl 0 rfl) ?_
      refine va_get (ci := 11) (v := .ref an) (C := RX11) (T := TX11) (N := 17) hx hb hg inX11 hown hE.1 hP 0 rfl rfl 0 (by decide) (hg _ k4_10) (fun _ h9 => h9) rfl dX11_flyer_102 ?_
      refine lv_iconst (v := (nI 0)) hx hb dX11_flyer_105 (by decide) ?_
      refine ck_iald hx hb hE hP 1 rfl (by omega) (by decide) dX11_flyer_106 ?_
      refine ck_top (y := (nI cf)) hV.1 ?_
      refine lv_istore (lv' := [(7, .int (nI cf)), (0, .ref mm), (1, .int x1), (2, .int x2), (3, .int x3), (4, .int x4), (5, .int x5), (6, .int (nI fc))]) hx hb dX11_flyer_107 hl (by decide) rfl (fun ls hl => ?_)
      refine lv_iload hx hb dX11_flyer_109 (lv_at hl 0 rfl) ?_
      refine lv_bipush (v := (nI 8)) hx hb dX11_flyer_111 (by decide) ?_
      refine ck_ic_ne (tgt := 123) hx hb dX11_flyer_113 (by decide) (by omega) (by omega) (fun cz_34 => ?_) (fun cz_34 => ?_)
      · have hfu : ¬ 8 ≤ cf := by omega
        have hx2 := cz_8
        obtain ⟨sp, -, hsp, rfl⟩ := (ckIn_n (by decide) (by decide)).mp hx2
        have exsp : ix (nI sp) = sp := ix_nI (by omega)
        refine lv_aload_n hx hb dX11_flyer_123 rfl (lv_at hl 1 rfl) ?_
        refine ck_Vv (As := []) (rest := []) (wr := []) C0 hP hD hS (c_X11_keep l N mm an ak ab az as_ ae ao ar aw al am af ac ke kn fd mn nw kp (by omega) (by omega)) myX11_keep k4_84 ⟨Nat.le_of_ble_eq_true rfl, Nat.le_of_ble_eq_true rfl⟩ [0, 1, 2] [] ⟨⟨rfl, rfl⟩, by decide, by decide, by decide⟩ 0 rfl rfl rfl rfl hl.1 rfl (Nat.le_of_ble_eq_true rfl) dX11_flyer_124 ⟨Nat.le_of_ble_eq_true rfl, Nat.le_of_ble_eq_true rfl⟩ (fun u0 H locs hw0 hP hD hS => ?_)
        have hP : va_P N.1 vwCl [(mm, .inr (11, [.ref an, .ref ak, .int (nI ((ke + 1) % 20)), .int (nI (min (kn + 1) 20)), .int fd, .ref ab, .ref az, .ref as_, .ref ae, .ref ao, .ref ar, .ref aw, .ref al, .ref am, .int (nI mn), .ref af, .ref ac])), (an, .inl (N.2 0, 572, .inl nw)), (ak, .inl (N.2 0, 11440, .inl (guT kp (572 * ke) nw 572)))] H := hP
        have hD : va_D Ag [(mm, .inr (11, [.ref an, .ref ak, .int (nI ((ke + 1) % 20)), .int (nI (min (kn + 1) 20)), .int fd, .ref ab, .ref az, .ref as_, .ref ae, .ref ao, .ref ar, .ref aw, .ref al, .ref am, .int (nI mn), .ref af, .ref ac])), (an, .inl (N.2 0, 572, .inl nw)), (ak, .inl (N.2 0, 11440, .inl (guT kp (572 * ke) nw 572)))] := hD
        refine lv_iconst (v := (nI 3)) hx hb dX11_flyer_127 (by decide) ?_
        refine lv_bipush (v := (nI 8)) hx hb dX11_flyer_128 (by decide) ?_
        refine lv_iload hx hb dX11_flyer_130 (lv_at hl 0 rfl) ?_
        refine lv_imul hx hb dX11_flyer_132 ?_
        refine ck_top (y := (nI (8 * cf))) (pk_mul _ _) ?_
        refine lv_iadd hx hb dX11_flyer_133 ?_
        refine ck_top (y := (nI (3 + (8 * cf)))) (nI_add _ _) ?_
        refine lv_istore (lv' := [(8, .int (nI (3 + (8 * cf)))), (7, .int (nI cf)), (0, .ref mm), (1, .int x1), (2, .int (nI sp)), (3, .int x3), (4, .int x4), (5, .int x5), (6, .int (nI fc))]) hx hb dX11_flyer_134 hl (by decide) rfl (fun ls hl => ?_)
        refine lv_aload_n hx hb dX11_flyer_136 rfl (lv_at hl 2 rfl) ?_
        refine va_get (ci := 11) (v := .ref an) (C := RX11) (T := TX11) (N := 17) hx hb hg inX11 hown hE.1 hP 0 rfl rfl 0 (by decide) (hg _ k4_10) (fun _ h9 => h9) rfl dX11_flyer_137 ?_
        refine lv_iload hx hb dX11_flyer_140 (lv_at hl 0 rfl) ?_
        refine lv_iload_n hx hb dX11_flyer_142 rfl (lv_at hl 3 rfl) ?_
        refine ck_iast hx hb hE hP hD hS 1 rfl (by omega) (by decide) dX11_flyer_143 (ws1 := [(mm, .inr (11, [.ref an, .ref ak, .int (nI ((ke + 1) % 20)), .int (nI (min (kn + 1) 20)), .int fd, .ref ab, .ref az, .ref as_, .ref ae, .ref ao, .ref ar, .ref aw, .ref al, .ref am, .int (nI mn), .ref af, .ref ac])), (an, .inl (N.2 0, 572, .inl (upd nw (3 + (8 * cf)) x1))), (ak, .inl (N.2 0, 11440, .inl (guT kp (572 * ke) nw 572)))]) rfl (fun H locs hP hD hS => ?_)
        refine lv_aload_n hx hb dX11_flyer_144 rfl (lv_at hl 2 rfl) ?_
        refine va_get (ci := 11) (v := .ref an) (C := RX11) (T := TX11) (N := 17) hx hb hg inX11 hown hE.1 hP 0 rfl rfl 0 (by decide) (hg _ k4_10) (fun _ h9 => h9) rfl dX11_flyer_145 ?_
        refine lv_iload hx hb dX11_flyer_148 (lv_at hl 0 rfl) ?_
        refine lv_iconst (v := (nI 1)) hx hb dX11_flyer_150 (by decide) ?_
        refine lv_iadd hx hb dX11_flyer_151 ?_
        refine ck_top (y := (nI (3 + (8 * cf) + 1))) (nI_add _ _) ?_
        refine lv_iload_n hx hb dX11_flyer_152 rfl (lv_at hl 4 rfl) ?_
        refine lv_bipush (v := (nI 100)) hx hb dX11_flyer_153 (by decide) ?_
        refine lv_idiv hx hb dX11_flyer_155 (by decide) ?_
        refine ck_top (y := (nI (sp / 100))) (pk_div (by omega) (by omega) (by omega)) ?_
        refine ck_iast hx hb hE hP hD hS 1 rfl (by omega) (by decide) dX11_flyer_156 (ws1 := [(mm, .inr (11, [.ref an, .ref ak, .int (nI ((ke + 1) % 20)), .int (nI (min (kn + 1) 20)), .int fd, .ref ab, .ref az, .ref as_, .ref ae, .ref ao, .ref ar, .ref aw, .ref al, .ref am, .int (nI mn), .ref af, .ref ac])), (an, .inl (N.2 0, 572, .inl (upd (upd nw (3 + (8 * cf)) x1) (3 + (8 * cf) + 1) (nI (sp / 100))))), (ak, .inl (N.2 0, 11440, .inl (guT kp (572 * ke) nw 572)))]) rfl (fun H locs hP hD hS => ?_)
        refine lv_aload_n hx hb dX11_flyer_157 rfl (lv_at hl 2 rfl) ?_
        refine va_get (ci := 11) (v := .ref an) (C := RX11) (T := TX11) (N := 17) hx hb hg inX11 hown hE.1 hP 0 rfl rfl 0 (by decide) (hg _ k4_10) (fun _ h9 => h9) rfl dX11_flyer_158 ?_
        refine lv_iload hx hb dX11_flyer_161 (lv_at hl 0 rfl) ?_
        refine lv_iconst (v := (nI 2)) hx hb dX11_flyer_163 (by decide) ?_
        refine lv_iadd hx hb dX11_flyer_164 ?_
        refine ck_top (y := (nI (3 + (8 * cf) + 2))) (nI_add _ _) ?_
        refine lv_iload_n hx hb dX11_flyer_165 rfl (lv_at hl 4 rfl) ?_
        refine lv_bipush (v := (nI 100)) hx hb dX11_flyer_166 (by decide) ?_
        refine lv_irem hx hb dX11_flyer_168 (by decide) ?_
        refine ck_top (y := (nI (sp % 100))) (pk_rem (by omega) (by omega) (by omega)) ?_
        refine ck_iast hx hb hE hP hD hS 1 rfl (by omega) (by decide) dX11_flyer_169 (ws1 := [(mm, .inr (11, [.ref an, .ref ak, .int (nI ((ke + 1) % 20)), .int (nI (min (kn + 1) 20)), .int fd, .ref ab, .ref az, .ref as_, .ref ae, .ref ao, .ref ar, .ref aw, .ref al, .ref am, .int (nI mn), .ref af, .ref ac])), (an, .inl (N.2 0, 572, .inl (upd (upd (upd nw (3 + (8 * cf)) x1) (3 + (8 * cf) + 1) (nI (sp / 100))) (3 + (8 * cf) + 2) (nI (sp % 100))))), (ak, .inl (N.2 0, 11440, .inl (guT kp (572 * ke) nw 572)))]) rfl (fun H locs hP hD hS => ?_)
        refine lv_aload_n hx hb dX11_flyer_170 rfl (lv_at hl 2 rfl) ?_
        refine va_get (ci := 11) (v := .ref an) (C := RX11) (T := TX11) (N := 17) hx hb hg inX11 hown hE.1 hP 0 rfl rfl 0 (by decide) (hg _ k4_10) (fun _ h9 => h9) rfl dX11_flyer_171 ?_
        refine lv_iload hx hb dX11_flyer_174 (lv_at hl 0 rfl) ?_
        refine lv_iconst (v := (nI 3)) hx hb dX11_flyer_176 (by decide) ?_
        refine lv_iadd hx hb dX11_flyer_177 ?_
        refine ck_top (y := (nI (3 + (8 * cf) + 3))) (nI_add _ _) ?_
        refine lv_iload_n hx hb dX11_flyer_178 rfl (lv_at hl 5 rfl) ?_
        refine ck_iast hx hb hE hP hD hS 1 rfl (by omega) (by decide) dX11_flyer_179 (ws1 := [(mm, .inr (11, [.ref an, .ref ak, .int (nI ((ke + 1) % 20)), .int (nI (min (kn + 1) 20)), .int fd, .ref ab, .ref az, .ref as_, .ref ae, .ref ao, .ref ar, .ref aw, .ref al, .ref am, .int (nI mn), .ref af, .ref ac])), (an, .inl (N.2 0, 572, .inl (upd (upd (upd (upd nw (3 + (8 * cf)) x1) (3 + (8 * cf) + 1) (nI (sp / 100))) (3 + (8 * cf) + 2) (nI (sp % 100))) (3 + (8 * cf) + 3) x3))), (ak, .inl (N.2 0, 11440, .inl (guT kp (572 * ke) nw 572)))]) rfl (fun H locs hP hD hS => ?_)
        refine lv_aload_n hx hb dX11_flyer_180 rfl (lv_at hl 2 rfl) ?_
        refine va_get (ci := 11) (v := .ref an) (C := RX11) (T := TX11) (N := 17) hx hb hg inX11 hown hE.1 hP 0 rfl rfl 0 (by decide) (hg _ k4_10) (fun _ h9 => h9) rfl dX11_flyer_181 ?_
        refine lv_iload hx hb dX11_flyer_184 (lv_at hl 0 rfl) ?_
        refine lv_iconst (v := (nI 4)) hx hb dX11_flyer_186 (by decide) ?_
        refine lv_iadd hx hb dX11_flyer_187 ?_
        refine ck_top (y := (nI (3 + (8 * cf) + 4))) (nI_add _ _) ?_
        refine lv_iload hx hb dX11_flyer_188 (lv_at hl 6 rfl) ?_
        refine ck_iast hx hb hE hP hD hS 1 rfl (by omega) (by decide) dX11_flyer_190 (ws1 := [(mm, .inr (11, [.ref an, .ref ak, .int (nI ((ke + 1) % 20)), .int (nI (min (kn + 1) 20)), .int fd, .ref ab, .ref az, .ref as_, .ref ae, .ref ao, .ref ar, .ref aw, .ref al, .ref am, .int (nI mn), .ref af, .ref ac])), (an, .inl (N.2 0, 572, .inl (upd (upd (upd (upd (upd nw (3 + (8 * cf)) x1) (3 + (8 * cf) + 1) (nI (sp / 100))) (3 + (8 * cf) + 2) (nI (sp % 100))) (3 + (8 * cf) + 3) x3) (3 + (8 * cf) + 4) x4))), (ak, .inl (N.2 0, 11440, .inl (guT kp (572 * ke) nw 572)))]) rfl (fun H locs hP hD hS => ?_)
        refine lv_aload_n hx hb dX11_flyer_191 rfl (lv_at hl 2 rfl) ?_
        refine va_get (ci := 11) (v := .ref an) (C := RX11) (T := TX11) (N := 17) hx hb hg inX11 hown hE.1 hP 0 rfl rfl 0 (by decide) (hg _ k4_10) (fun _ h9 => h9) rfl dX11_flyer_192 ?_
        refine lv_iload hx hb dX11_flyer_195 (lv_at hl 0 rfl) ?_
        refine lv_iconst (v := (nI 5)) hx hb dX11_flyer_197 (by decide) ?_
        refine lv_iadd hx hb dX11_flyer_198 ?_
        refine ck_top (y := (nI (3 + (8 * cf) + 5))) (nI_add _ _) ?_
        refine lv_iload hx hb dX11_flyer_199 (lv_at hl 7 rfl) ?_
        refine ck_iast hx hb hE hP hD hS 1 rfl (by omega) (by decide) dX11_flyer_201 (ws1 := [(mm, .inr (11, [.ref an, .ref ak, .int (nI ((ke + 1) % 20)), .int (nI (min (kn + 1) 20)), .int fd, .ref ab, .ref az, .ref as_, .ref ae, .ref ao, .ref ar, .ref aw, .ref al, .ref am, .int (nI mn), .ref af, .ref ac])), (an, .inl (N.2 0, 572, .inl (upd (upd (upd (upd (upd (upd nw (3 + (8 * cf)) x1) (3 + (8 * cf) + 1) (nI (sp / 100))) (3 + (8 * cf) + 2) (nI (sp % 100))) (3 + (8 * cf) + 3) x3) (3 + (8 * cf) + 4) x4) (3 + (8 * cf) + 5) x5))), (ak, .inl (N.2 0, 11440, .inl (guT kp (572 * ke) nw 572)))]) rfl (fun H locs hP hD hS => ?_)
        refine lv_aload_n hx hb dX11_flyer_202 rfl (lv_at hl 2 rfl) ?_
        refine va_get (ci := 11) (v := .ref an) (C := RX11) (T := TX11) (N := 17) hx hb hg inX11 hown hE.1 hP 0 rfl rfl 0 (by decide) (hg _ k4_10) (fun _ h9 => h9) rfl dX11_flyer_203 ?_
        refine lv_iload hx hb dX11_flyer_206 (lv_at hl 0 rfl) ?_
        refine lv_bipush (v := (nI 6)) hx hb dX11_flyer_208 (by decide) ?_
        refine lv_iadd hx hb dX11_flyer_210 ?_
        refine ck_top (y := (nI (3 + (8 * cf) + 6))) (nI_add _ _) ?_
        refine lv_iload hx hb dX11_flyer_211 (lv_at hl 8 rfl) ?_
        refine lv_bipush (v := (nI 16)) hx hb dX11_flyer_213 (by decide) ?_
        refine lv_idiv hx hb dX11_flyer_215 (by decide) ?_
        refine ck_top (y := (nI (fc / 16))) (pk_div (by omega) (by omega) (by omega)) ?_
        refine ck_iast hx hb hE hP hD hS 1 rfl (by omega) (by decide) dX11_flyer_216 (ws1 := [(mm, .inr (11, [.ref an, .ref ak, .int (nI ((ke + 1) % 20)), .int (nI (min (kn + 1) 20)), .int fd, .ref ab, .ref az, .ref as_, .ref ae, .ref ao, .ref ar, .ref aw, .ref al, .ref am, .int (nI mn), .ref af, .ref ac])), (an, .inl (N.2 0, 572, .inl (upd (upd (upd (upd (upd (upd (upd nw (3 + (8 * cf)) x1) (3 + (8 * cf) + 1) (nI (sp / 100))) (3 + (8 * cf) + 2) (nI (sp % 100))) (3 + (8 * cf) + 3) x3) (3 + (8 * cf) + 4) x4) (3 + (8 * cf) + 5) x5) (3 + (8 * cf) + 6) (nI (fc / 16))))), (ak, .inl (N.2 0, 11440, .inl (guT kp (572 * ke) nw 572)))]) rfl (fun H locs hP hD hS => ?_)
        refine lv_aload_n hx hb dX11_flyer_217 rfl (lv_at hl 2 rfl) ?_
        refine va_get (ci := 11) (v := .ref an) (C := RX11) (T := TX11) (N := 17) hx hb hg inX11 hown hE.1 hP 0 rfl rfl 0 (by decide) (hg _ k4_10) (fun _ h9 => h9) rfl dX11_flyer_218 ?_
        refine lv_iload hx hb dX11_flyer_221 (lv_at hl 0 rfl) ?_
        refine lv_bipush (v := (nI 7)) hx hb dX11_flyer_223 (by decide) ?_
        refine lv_iadd hx hb dX11_flyer_225 ?_
        refine ck_top (y := (nI (3 + (8 * cf) + 7))) (nI_add _ _) ?_
        refine lv_iload hx hb dX11_flyer_226 (lv_at hl 8 rfl) ?_
        refine lv_bipush (v := (nI 16)) hx hb dX11_flyer_228 (by decide) ?_
        refine lv_irem hx hb dX11_flyer_230 (by decide) ?_
        refine ck_top (y := (nI (fc % 16))) (pk_rem (by omega) (by omega) (by omega)) ?_
        refine ck_iast hx hb hE hP hD hS 1 rfl (by omega) (by decide) dX11_flyer_231 (ws1 := [(mm, .inr (11, [.ref an, .ref ak, .int (nI ((ke + 1) % 20)), .int (nI (min (kn + 1) 20)), .int fd, .ref ab, .ref az, .ref as_, .ref ae, .ref ao, .ref ar, .ref aw, .ref al, .ref am, .int (nI mn), .ref af, .ref ac])), (an, .inl (N.2 0, 572, .inl (upd (upd (upd (upd (upd (upd (upd (upd nw (3 + (8 * cf)) x1) (3 + (8 * cf) + 1) (nI (sp / 100))) (3 + (8 * cf) + 2) (nI (sp % 100))) (3 + (8 * cf) + 3) x3) (3 + (8 * cf) + 4) x4) (3 + (8 * cf) + 5) x5) (3 + (8 * cf) + 6) (nI (fc / 16))) (3 + (8 * cf) + 7) (nI (fc % 16))))), (ak, .inl (N.2 0, 11440, .inl (guT kp (572 * ke) nw 572)))]) rfl (fun H locs hP hD hS => ?_)
        refine lv_aload_n hx hb dX11_flyer_232 rfl (lv_at hl 2 rfl) ?_
        refine va_get (ci := 11) (v := .ref an) (C := RX11) (T := TX11) (N := 17) hx hb hg inX11 hown hE.1 hP 0 rfl rfl 0 (by decide) (hg _ k4_10) (fun _ h9 => h9) rfl dX11_flyer_233 ?_
        refine lv_iconst (v := (nI 0)) hx hb dX11_flyer_236 (by decide) ?_
        refine lv_dup2_11 hx hb dX11_flyer_237 rfl rfl ?_
        refine ck_iald hx hb hE hP 1 rfl (by omega) (by decide) dX11_flyer_238 ?_
        refine ck_top (y := (nI cf)) (by rw [pk_un (by omega), pk_un (by omega), pk_un (by omega), pk_un (by omega), pk_un (by omega), pk_un (by omega), pk_un (by omega), pk_un (by omega)]; exact hV.1) ?_
        refine lv_iconst (v := (nI 1)) hx hb dX11_flyer_239 (by decide) ?_
        refine lv_iadd hx hb dX11_flyer_240 ?_
        refine ck_top (y := (nI (cf + 1))) (nI_add _ _) ?_
        refine ck_iast hx hb hE hP hD hS 1 rfl (by omega) (by decide) dX11_flyer_241 (ws1 := [(mm, .inr (11, [.ref an, .ref ak, .int (nI ((ke + 1) % 20)), .int (nI (min (kn + 1) 20)), .int fd, .ref ab, .ref az, .ref as_, .ref ae, .ref ao, .ref ar, .ref aw, .ref al, .ref am, .int (nI mn), .ref af, .ref ac])), (an, .inl (N.2 0, 572, .inl (upd (upd (upd (upd (upd (upd (upd (upd (upd nw (3 + (8 * cf)) x1) (3 + (8 * cf) + 1) (nI (sp / 100))) (3 + (8 * cf) + 2) (nI (sp % 100))) (3 + (8 * cf) + 3) x3) (3 + (8 * cf) + 4) x4) (3 + (8 * cf) + 5) x5) (3 + (8 * cf) + 6) (nI (fc / 16))) (3 + (8 * cf) + 7) (nI (fc % 16))) 0 (nI (cf + 1))))), (ak, .inl (N.2 0, 11440, .inl (guT kp (572 * ke) nw 572)))]) rfl (fun H locs hP hD hS => ?_)
        refine lv_iload hx hb dX11_flyer_242 (lv_at hl 1 rfl) ?_
        exact ck_iret hx hb hrt hlk ⟨fd, (ke + 1) % 20, min (kn + 1) 20, upd (upd (upd (upd (upd (upd (upd (upd (upd nw (3 + (8 * cf)) x1) (3 + (8 * cf) + 1) (nI (sp / 100))) (3 + (8 * cf) + 2) (nI (sp % 100))) (3 + (8 * cf) + 3) x3) (3 + (8 * cf) + 4) x4) (3 + (8 * cf) + 5) x5) (3 + (8 * cf) + 6) (nI (fc / 16))) (3 + (8 * cf) + 7) (nI (fc % 16))) 0 (nI (cf + 1)), guT kp (572 * ke) nw 572⟩ (by have he : fyF cf x1 (nI sp) x3 x4 x5 (nI fc) = 0 := (by simp [fyF, cz_3, cz_8, cz_13, cz_18, cz_23, hq6, exfc, hsz, hfu]); exact ⟨ckRd_ok he rfl, Or.inl ⟨he, rfl, rfl, rfl, (by rw [fyT, exsp, exfc, show 3 + 8 * cf + 1 = 3 + (cf * 8 + 1) by omega, show 3 + 8 * cf + 2 = 3 + (cf * 8 + 2) by omega, show 3 + 8 * cf + 3 = 3 + (cf * 8 + 3) by omega, show 3 + 8 * cf + 4 = 3 + (cf * 8 + 4) by omega, show 3 + 8 * cf + 5 = 3 + (cf * 8 + 5) by omega, show 3 + 8 * cf + 6 = 3 + (cf * 8 + 6) by omega, show 3 + 8 * cf + 7 = 3 + (cf * 8 + 7) by omega, show 3 + 8 * cf = 3 + (cf * 8 + 0) by omega]; exact mV_cf (mV_tr (mV_tr (mV_tr (mV_tr (mV_tr (mV_tr (mV_tr (mV_tr hV hn (by omega)) hn (by omega)) hn (by omega)) hn (by omega)) hn (by omega)) hn (by omega)) hn (by omega)) hn (by omega)) hn rfl)⟩⟩) hP hD hS ⟨Nat.le_of_ble_eq_true rfl, Nat.le_of_ble_eq_true rfl⟩ dX11_flyer_244
      have hfu : 8 ≤ cf := by omega
      refine lv_aload_n hx hb dX11_flyer_116 rfl (lv_at hl 1 rfl) ?_
      refine lv_ldc (own := RX11) (v := (-100005)) hx hb hown (hg _ k4_83) dX11_flyer_117 ?_
      refine ck_Vi (As := [.int (-100005)]) (rest := []) (wr := [(an, .inl (N.2 0, 572, .inl nw)), (ak, .inl (N.2 0, 11440, .inl kp))]) C0 hP hD hS (c_X11_finds l N mm an ak ab az as_ ae ao ar aw al am af ac ke kn fd mn (-100005) ) myX11_finds k4_67 ⟨Nat.le_of_ble_eq_true rfl, Nat.le_of_ble_eq_true rfl⟩ [0] [1, 2] ⟨⟨rfl, rfl⟩, by decide, by decide, by decide⟩ 0 rfl rfl rfl rfl hl.1 rfl (Nat.le_of_ble_eq_true rfl) dX11_flyer_119 ⟨Nat.le_of_ble_eq_true rfl, Nat.le_of_ble_eq_true rfl⟩ (fun r_37 u0 H locs hw0 hP hD hS => ?_)
      have hw_38 : r_37 = (-100005) := hw0
      subst hw_38
      have hP : va_P N.1 vwCl [(an, .inl (N.2 0, 572, .inl nw)), (ak, .inl (N.2 0, 11440, .inl kp)), (mm, .inr (11, [.ref an, .ref ak, .int (nI ke), .int (nI kn), .int (fd + nI 1), .ref ab, .ref az, .ref as_, .ref ae, .ref ao, .ref ar, .ref aw, .ref al, .ref am, .int (nI mn), .ref af, .ref ac]))] H := hP
      have hD : va_D Ag [(an, .inl (N.2 0, 572, .inl nw)), (ak, .inl (N.2 0, 11440, .inl kp)), (mm, .inr (11, [.ref an, .ref ak, .int (nI ke), .int (nI kn), .int (fd + nI 1), .ref ab, .ref az, .ref as_, .ref ae, .ref ao, .ref ar, .ref aw, .ref al, .ref am, .int (nI mn), .ref af, .ref ac]))] := hD
      exact ck_iret hx hb hrt hlk ⟨(fd + nI 1), ke, kn, nw, kp⟩ (by have he : fyF cf x1 x2 x3 x4 x5 (nI fc) = (-100005) := (by simp [fyF, cz_3, cz_8, cz_13, cz_18, cz_23, hq6, exfc, hsz, hfu]); exact ⟨ckRd_f he (by decide), Or.inr ⟨fun q => absurd (he.symm.trans q) (by decide), rfl, rfl, rfl, rfl⟩⟩) (hP.sub [2, 0, 1] rfl) (hD.sub [2, 0, 1] (by decide) rfl) hS ⟨Nat.le_of_ble_eq_true rfl, Nat.le_of_ble_eq_true rfl⟩ dX11_flyer_122
    have hsz : ¬ fc / 16 ≤ fc % 16 := by omega
    refine lv_aload_n hx hb dX11_flyer_94 rfl (lv_at hl 0 rfl) ?_
    refine lv_ldc (own := RX11) (v := (-100003)) hx hb hown (hg _ k4_82) dX11_flyer_95 ?_
    refine ck_Vi (As := [.int (-100003)]) (rest := []) (wr := [(an, .inl (N.2 0, 572, .inl nw)), (ak, .inl (N.2 0, 11440, .inl kp))]) C0 hP hD hS (c_X11_finds l N mm an ak ab az as_ ae ao ar aw al am af ac ke kn fd mn (-100003) ) myX11_finds k4_67 ⟨Nat.le_of_ble_eq_true rfl, Nat.le_of_ble_eq_true rfl⟩ [0] [1, 2] ⟨⟨rfl, rfl⟩, by decide, by decide, by decide⟩ 0 rfl rfl rfl rfl hl.1 rfl (Nat.le_of_ble_eq_true rfl) dX11_flyer_97 ⟨Nat.le_of_ble_eq_true rfl, Nat.le_of_ble_eq_true rfl⟩ (fun r_39 u0 H locs hw0 hP hD hS => ?_)
    have hw_40 : r_39 = (-100003) := hw0
    subst hw_40
    have hP : va_P N.1 vwCl [(an, .inl (N.2 0, 572, .inl nw)), (ak, .inl (N.2 0, 11440, .inl kp)), (mm, .inr (11, [.ref an, .ref ak, .int (nI ke), .int (nI kn), .int (fd + nI 1), .ref ab, .ref az, .ref as_, .ref ae, .ref ao, .ref ar, .ref aw, .ref al, .ref am, .int (nI mn), .ref af, .ref ac]))] H := hP
    have hD : va_D Ag [(an, .inl (N.2 0, 572, .inl nw)), (ak, .inl (N.2 0, 11440, .inl kp)), (mm, .inr (11, [.ref an, .ref ak, .int (nI ke), .int (nI kn), .int (fd + nI 1), .ref ab, .ref az, .ref as_, .ref ae, .ref ao, .ref ar, .ref aw, .ref al, .ref am, .int (nI mn), .ref af, .ref ac]))] := hD
    exact ck_iret hx hb hrt hlk ⟨(fd + nI 1), ke, kn, nw, kp⟩ (by have he : fyF cf x1 x2 x3 x4 x5 (nI fc) = (-100003) := (by simp [fyF, cz_3, cz_8, cz_13, cz_18, cz_23, hq6, exfc, hsz]); exact ⟨ckRd_f he (by decide), Or.inr ⟨fun q => absurd (he.symm.trans q) (by decide), rfl, rfl, rfl, rfl⟩⟩) (hP.sub [2, 0, 1] rfl) (hD.sub [2, 0, 1] (by decide) rfl) hS ⟨Nat.le_of_ble_eq_true rfl, Nat.le_of_ble_eq_true rfl⟩ dX11_flyer_100
  have hq6 : ckFc (nI fc) = false := by rw [ckFc, exfc, hd6, ckIn_le (by omega) (by decide), ckIn_le (by omega) (by decide), decide_eq_true (show fc / 16 ≤ 12 by omega), decide_eq_false (show ¬ fc % 16 ≤ 12 by omega)]; rfl
  refine lv_aload_n hx hb dX11_flyer_74 rfl (lv_at hl 0 rfl) ?_
  refine lv_ldc (own := RX11) (v := (-100001)) hx hb hown (hg _ k4_81) dX11_flyer_75 ?_
  refine ck_Vi (As := [.int (-100001)]) (rest := []) (wr := [(an, .inl (N.2 0, 572, .inl nw)), (ak, .inl (N.2 0, 11440, .inl kp))]) C0 hP hD hS (c_X11_finds l N mm an ak ab az as_ ae ao ar aw al am af ac ke kn fd mn (-100001) ) myX11_finds k4_67 ⟨Nat.le_of_ble_eq_true rfl, Nat.le_of_ble_eq_true rfl⟩ [0] [1, 2] ⟨⟨rfl, rfl⟩, by decide, by decide, by decide⟩ 0 rfl rfl rfl rfl hl.1 rfl (Nat.le_of_ble_eq_true rfl) dX11_flyer_77 ⟨Nat.le_of_ble_eq_true rfl, Nat.le_of_ble_eq_true rfl⟩ (fun r_41 u0 H locs hw0 hP hD hS => ?_)
  have hw_42 : r_41 = (-100001) := hw0
  subst hw_42
  have hP : va_P N.1 vwCl [(an, .inl (N.2 0, 572, .inl nw)), (ak, .inl (N.2 0, 11440, .inl kp)), (mm, .inr (11, [.ref an, .ref ak, .int (nI ke), .int (nI kn), .int (fd + nI 1), .ref ab, .ref az, .ref as_, .ref ae, .ref ao, .ref ar, .ref aw, .ref al, .ref am, .int (nI mn), .ref af, .ref ac]))] H := hP
  have hD : va_D Ag [(an, .inl (N.2 0, 572, .inl nw)), (ak, .inl (N.2 0, 11440, .inl kp)), (mm, .inr (11, [.ref an, .ref ak, .int (nI ke), .int (nI kn), .int (fd + nI 1), .ref ab, .ref az, .ref as_, .ref ae, .ref ao, .ref ar, .ref aw, .ref al, .ref am, .int (nI mn), .ref af, .ref ac]))] := hD
  exact ck_iret hx hb hrt hlk ⟨(fd + nI 1), ke, kn, nw, kp⟩ (by have he : fyF cf x1 x2 x3 x4 x5 (nI fc) = (-100001) := (by simp [fyF, cz_3, cz_8, cz_13, cz_18, cz_23, hq6]); exact ⟨ckRd_f he (by decide), Or.inr ⟨fun q => absurd (he.symm.trans q) (by decide), rfl, rfl, rfl, rfl⟩⟩) (hP.sub [2, 0, 1] rfl) (hD.sub [2, 0, 1] (by decide) rfl) hS ⟨Nat.le_of_ble_eq_true rfl, Nat.le_of_ble_eq_true rfl⟩ dX11_flyer_80
