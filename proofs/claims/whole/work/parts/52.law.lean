set_option maxHeartbeats 4000000 in
set_option maxRecDepth 100000 in
/-- THE LAW'S LOOP: at its head, behind k calls -/
theorem law_loop {p : Program} {l : Launch} {e : Env} {s : State} {m : MethodId} {below : List Frame} {meth : Method} {c0 : Code} {b L : Nat} {xs : Nat → Int32} {N : ckN} {ad am : Nat → Nat} {shp : Nat → Option Nat} (hL : L ≤ 448) (C0 : lw_At p s m meth c0 b L xs) (hE : ckE N (fun q : Nat => s.heap.size ≤ q) s) :
    ∀ (n k cells slots : Nat), k + n = 65 → k ≤ 64 → cells + 16 * n ≤ 600000 → slots + 596 * n ≤ 7302250 → ∀ (c ch cs : Nat → Nat → Int32) (nn bt ct ns : Nat → Nat) (ii : Nat → Int32) (stf : Nat → Option Nat) (sl : Nat → va_W) (w : Nat → List Nat) (cm : Nat → Nat → Int32) (mn : Nat) (H : Heap) (locs : List Loc), Jv N ad shp c ch nn bt ct ii stf sl w cm → va_P N.1 vwCl (CW N ad shp c ch cs nn bt ct ns ii stf sl ++ MW N am cm (nn 2) (nn 3) (ii 1) mn) H → va_D (fun q : Nat => s.heap.size ≤ q) (CW N ad shp c ch cs nn bt ct ns ii stf sl ++ MW N am cm (nn 2) (nn 3) (ii 1) mn) → va_S (fun q : Nat => s.heap.size ≤ q) s.heap H locs → ∀ ls : Array Slot, lv_has ls 4 [(0, .ref b), (1, .ref (ad 0)), (2, .ref (am 0)), (3, .int (nI (7 * k)))] → W p l e room_1 s m #[Value.ref b] below meth c0 H locs cells slots (lw_Z below #[Value.ref b] s) (F0 m 18 ls []) := by
  obtain ⟨hx, hb, hr, hml, hown, hts, hX, hbl, hlocks, hgv⟩ := C0
  have hA : ∀ q : Nat, s.heap.size ≤ q → (fun q : Nat => s.heap.size ≤ q) q := fun _ h => h
  have hbA : ¬ (fun q : Nat => s.heap.size ≤ q) b := Nat.not_le.mpr hbl
  have hg : ∀ w ∈ wsG, w.before #[Value.ref b] s = true := fun w h => hts w (wsG_in w h)
  have hCC : ckC p s m #[Value.ref b] c0 code 4 "KiteMeetLaw" N (fun q : Nat => s.heap.size ≤ q) := ⟨⟨hx, hb, hml, hown, hg⟩, hE, hA⟩
  intro n
  induction n with
  | zero =>
    intro k cells slots h1 h2
    exact absurd h2 (by omega)
  | succ n ih =>
    intro k cells slots hk hk4 hcs hss c ch cs nn bt ct ns ii stf sl w cm mn H locs hJ hP hD hS ls hl
    refine lv_iload_n hx hb dL_law_18 rfl (lv_at hl 3 rfl) ?_
    refine lv_aload_n hx hb dL_law_19 rfl (lv_at hl 0 rfl) ?_
    refine va_slen hx hb hX hbl hbA hS dL_law_20 ?_
    refine lv_bipush (v := nI 7) hx hb dL_law_21 (by decide) ?_
    refine lv_isub hx hb dL_law_23 ?_
    refine lv_icmp_gt (tgt := 1244) hx hb dL_law_24 (by decide) (fun _ => ?_) (fun hgo => ?_)
    · refine lv_iconst (v := 1) hx hb dL_law_1244 (by decide) ?_
      refine va_forget (fun q hq => hS.2.2 q hq) ?_
      refine W.widen (k := 600000) (n := 7302250) (by omega) (by omega) ?_
      exact lw_ret hx hb hr hlocks dL_law_1245
    · have hi : 7 * k + 7 ≤ L := lw_end hL (by omega) hgo
      have hC : LC p s m c0 cells slots N (fun q : Nat => s.heap.size ≤ q) b L (7 * k) xs ls ad am := ⟨hx, hb, hCC, hX, hbl, hbA, hi, hL, hl, by omega, by omega⟩
      have K : LK p l e s m below meth c0 cells slots (lw_Z below #[Value.ref b] s) N (fun q : Nat => s.heap.size ≤ q) b ls ad am shp := by
        intro c ch cs nn bt ct ns ii stf sl w cm mn H locs hJ hP hD hS
        refine lv_iinc (v := nI (7 * (k + 1))) (lv' := [(3, .int (nI (7 * (k + 1)))), (0, .ref b), (1, .ref (ad 0)), (2, .ref (am 0))]) hx hb dL_law_1238 hl (k := 3) rfl (show nI (7 * k) + nI 7 = nI (7 * (k + 1)) from by rw [nI_add]; rfl) (by decide) rfl (fun ls hl => ?_)
        refine lv_goto (tgt := 18) hx hb dL_law_1241 (by decide) ?_
        exact ih (k + 1) (cells + 16) (slots + 596) (by omega) (by omega) (by omega) (by omega) c ch cs nn bt ct ns ii stf sl w cm mn H locs hJ hP hD hS ls (lv_sub hl [1, 2, 3, 0] rfl)
      refine lv_aload_n hx hb dL_law_27 rfl (lv_at hl 0 rfl) ?_
      refine lv_iload_n hx hb dL_law_28 rfl (lv_at hl 3 rfl) ?_
      refine va_sld hx hb hX hbl hbA hS (vp_in_nI (by omega) (by omega)) dL_law_29 ?_
      refine lv_bipush (v := 31) hx hb dL_law_30 (by decide) ?_
      refine lv_iand hx hb dL_law_32 ?_
      obtain ⟨j, hj, ej⟩ := lw_and (xs (nI (7 * k)).toNatClampNeg)
      rw [ej]
      have hjs : j = 0 ∨ j = 1 ∨ j = 2 ∨ j = 3 ∨ j = 4 ∨ j = 5 ∨ j = 6 ∨ j = 7 ∨ j = 8 ∨ j = 9 ∨ j = 10 ∨ j = 11 ∨ j = 12 ∨ j = 13 ∨ j = 14 ∨ j = 15 ∨ j = 16 ∨ j = 17 ∨ j = 18 ∨ j = 19 ∨ j = 20 ∨ j = 21 ∨ j = 22 ∨ j = 23 ∨ j = 24 ∨ j = 25 ∨ j = 26 ∨ j = 27 ∨ j = 28 ∨ j = 29 ∨ j = 30 ∨ j = 31 := by omega
      rcases hjs with rfl | rfl | rfl | rfl | rfl | rfl | rfl | rfl | rfl | rfl | rfl | rfl | rfl | rfl | rfl | rfl | rfl | rfl | rfl | rfl | rfl | rfl | rfl | rfl | rfl | rfl | rfl | rfl | rfl | rfl | rfl | rfl
      · refine lv_tableIn (off := 135) (tgt := 168) hx hb dL_law_33 (by decide) (by decide) (by decide) (by decide) ?_
        exact L_flyer hC K hJ hP hD hS
      · refine lv_tableIn (off := 210) (tgt := 243) hx hb dL_law_33 (by decide) (by decide) (by decide) (by decide) ?_
        exact L_as hC K hJ hP hD hS
      · refine lv_tableIn (off := 243) (tgt := 276) hx hb dL_law_33 (by decide) (by decide) (by decide) (by decide) ?_
        exact L_of hC K hJ hP hD hS
      · refine lv_tableIn (off := 276) (tgt := 309) hx hb dL_law_33 (by decide) (by decide) (by decide) (by decide) ?_
        exact L_go hC K hJ hP hD hS
      · refine lv_tableIn (off := 309) (tgt := 342) hx hb dL_law_33 (by decide) (by decide) (by decide) (by decide) ?_
        exact L_line hC K hJ hP hD hS
      · refine lv_tableIn (off := 342) (tgt := 375) hx hb dL_law_33 (by decide) (by decide) (by decide) (by decide) ?_
        exact L_wind hC K hJ hP hD hS
      · refine lv_tableIn (off := 395) (tgt := 428) hx hb dL_law_33 (by decide) (by decide) (by decide) (by decide) ?_
        exact L_windAt hC K hJ hP hD hS
      · refine lv_tableIn (off := 454) (tgt := 487) hx hb dL_law_33 (by decide) (by decide) (by decide) (by decide) ?_
        exact L_flies hC K hJ hP hD hS
      · refine lv_tableIn (off := 487) (tgt := 520) hx hb dL_law_33 (by decide) (by decide) (by decide) (by decide) ?_
        exact L_kite hC K hJ hP hD hS
      · refine lv_tableIn (off := 546) (tgt := 579) hx hb dL_law_33 (by decide) (by decide) (by decide) (by decide) ?_
        exact L_meet hC K hJ hP hD hS
      · refine lv_tableIn (off := 589) (tgt := 622) hx hb dL_law_33 (by decide) (by decide) (by decide) (by decide) ?_
        exact L_meets hC K hJ hP hD hS
      · refine lv_tableIn (off := 612) (tgt := 645) hx hb dL_law_33 (by decide) (by decide) (by decide) (by decide) ?_
        exact L_field hC K hJ hP hD hS
      · refine lv_tableIn (off := 635) (tgt := 668) hx hb dL_law_33 (by decide) (by decide) (by decide) (by decide) ?_
        exact L_best hC K hJ hP hD hS
      · refine lv_tableIn (off := 668) (tgt := 701) hx hb dL_law_33 (by decide) (by decide) (by decide) (by decide) ?_
        exact L_row hC K hJ hP hD hS
      · refine lv_tableIn (off := 691) (tgt := 724) hx hb dL_law_33 (by decide) (by decide) (by decide) (by decide) ?_
        exact L_walk hC K hJ hP hD hS
      · refine lv_tableIn (off := 740) (tgt := 773) hx hb dL_law_33 (by decide) (by decide) (by decide) (by decide) ?_
        exact L_at hC K hJ hP hD hS
      · refine lv_tableIn (off := 763) (tgt := 796) hx hb dL_law_33 (by decide) (by decide) (by decide) (by decide) ?_
        exact L_letter hC K hJ hP hD hS
      · refine lv_tableIn (off := 796) (tgt := 829) hx hb dL_law_33 (by decide) (by decide) (by decide) (by decide) ?_
        exact L_tangle hC K hJ hP hD hS
      · refine lv_tableIn (off := 809) (tgt := 842) hx hb dL_law_33 (by decide) (by decide) (by decide) (by decide) ?_
        exact L_twist hC K hJ hP hD hS
      · refine lv_tableIn (off := 842) (tgt := 875) hx hb dL_law_33 (by decide) (by decide) (by decide) (by decide) ?_
        exact L_fewest hC K hJ hP hD hS
      · refine lv_tableIn (off := 865) (tgt := 898) hx hb dL_law_33 (by decide) (by decide) (by decide) (by decide) ?_
        exact L_same hC K hJ hP hD hS
      · refine lv_tableIn (off := 908) (tgt := 941) hx hb dL_law_33 (by decide) (by decide) (by decide) (by decide) ?_
        exact L_sharp hC K hJ hP hD hS
      · refine lv_tableIn (off := 941) (tgt := 974) hx hb dL_law_33 (by decide) (by decide) (by decide) (by decide) ?_
        exact L_wear hC K hJ hP hD hS
      · refine lv_tableIn (off := 964) (tgt := 997) hx hb dL_law_33 (by decide) (by decide) (by decide) (by decide) ?_
        exact L_lost hC K hJ hP hD hS
      · refine lv_tableIn (off := 977) (tgt := 1010) hx hb dL_law_33 (by decide) (by decide) (by decide) (by decide) ?_
        exact L_sheet hC K hJ hP hD hS
      · refine lv_tableIn (off := 1020) (tgt := 1053) hx hb dL_law_33 (by decide) (by decide) (by decide) (by decide) ?_
        exact L_put hC K hJ hP hD hS
      · refine lv_tableIn (off := 1063) (tgt := 1096) hx hb dL_law_33 (by decide) (by decide) (by decide) (by decide) ?_
        exact L_copy hC K hJ hP hD hS
      · refine lv_tableIn (off := 1126) (tgt := 1159) hx hb dL_law_33 (by decide) (by decide) (by decide) (by decide) ?_
        exact L_gusts hC K hJ hP hD hS
      · refine lv_tableIn (off := 1169) (tgt := 1202) hx hb dL_law_33 (by decide) (by decide) (by decide) (by decide) ?_
        exact L_undo hC K hJ hP hD hS
      · refine lv_tableIn (off := 1182) (tgt := 1215) hx hb dL_law_33 (by decide) (by decide) (by decide) (by decide) ?_
        exact L_all hC K hJ hP hD hS
      · refine lv_tableOut (tgt := 1238) hx hb dL_law_33 (by decide) (by decide) ?_
        refine W.widen (k := cells + 16) (n := slots + 596) (by omega) (by omega) ?_
        exact K c ch cs nn bt ct ns ii stf sl w cm mn H locs hJ hP hD hS
      · refine lv_tableOut (tgt := 1238) hx hb dL_law_33 (by decide) (by decide) ?_
        refine W.widen (k := cells + 16) (n := slots + 596) (by omega) (by omega) ?_
        exact K c ch cs nn bt ct ns ii stf sl w cm mn H locs hJ hP hD hS
set_option maxHeartbeats 4000000 in
set_option maxRecDepth 100000 in
/-- THE LAW, from its entry -/
theorem whole_start {p : Program} {e : Env} {s : State} {m : MethodId} {below : List Frame} {meth : Method} {c : Code} (l : Launch) {b L : Nat} {xs : Nat → Int32} (hL : L ≤ 448) (C0 : lw_At p s m meth c b L xs) : W p l e room_1 s m #[Value.ref b] below meth c s.heap [] 0 0 (lw_Z below #[Value.ref b] s) (entryFrame m ([Value.ref b] : List Value).toArray 4) := by
  obtain ⟨hx, hb, hr, hml, hown, hts, hX, hbl, hlocks, hgv⟩ := id C0
  have hA : ∀ q : Nat, s.heap.size ≤ q → (fun q : Nat => s.heap.size ≤ q) q := fun _ h => h
  have hg : ∀ w ∈ wsG, w.before #[Value.ref b] s = true := fun w h => hts w (wsG_in w h)
  obtain ⟨N, hE⟩ := ck_entry hts hgv
  have hCC : ckC p s m #[Value.ref b] c code 4 "KiteMeetLaw" N (fun q : Nat => s.heap.size ≤ q) := ⟨⟨hx, hb, hml, hown, hg⟩, hE, hA⟩
  have hS : va_S (fun q : Nat => s.heap.size ≤ q) s.heap s.heap [] := va_S.rf
  have hP : va_P N.1 vwCl [] s.heap := fun k q h => by simp at h
  have hD : va_D (fun q : Nat => s.heap.size ≤ q) [] := ⟨fun i j p q h => by simp at h, fun k q h => by simp at h⟩
  have hl := lv_entry ([.ref b]) (n := 4) (Nat.le_of_ble_eq_true rfl)
  rw [lg_entry_eq]
  generalize (lg_sl ([.ref b]) ++ List.replicate (4 - (lg_sl ([.ref b])).length) Slot.unset).toArray = ls at hl ⊢
  have hl : lv_has ls 4 [(0, .ref b)] := hl
  refine va_new (ci := 10) (fs := [.null, .null, .null, .null, .null, .null, .null, .int (nI 0)]) (C := RX10) (T := TX10) (N := 8) hx hb hg inX10 tyX10 tyX10_ok hown (hg _ k1_16) (hg _ k1_17) (hg _ k1_1) hE.1 hP hD hS hA rfl (fun j hj => by rcases (show j = 0 ∨ j = 1 ∨ j = 2 ∨ j = 3 ∨ j = 4 ∨ j = 5 ∨ j = 6 ∨ j = 7 by omega) with rfl | rfl | rfl | rfl | rfl | rfl | rfl | rfl <;> rfl) (Nat.le_of_ble_eq_true rfl) (Nat.le_of_ble_eq_true rfl) dL_law_0 (fun xk H hP hD hS => ?_)
  have hP : va_P N.1 vwCl [(xk, .inr (10, [.null, .null, .null, .null, .null, .null, .null, .int (nI 0)]))] H := hP
  have hD : va_D (fun q : Nat => s.heap.size ≤ q) [(xk, .inr (10, [.null, .null, .null, .null, .null, .null, .null, .int (nI 0)]))] := hD
  refine W.widen (k := 1) (n := 8) (by omega) (by omega) ?_
  refine lv_dup hx hb dL_law_3 rfl ?_
  refine ck_Iv (As := []) (rest := [.ref xk]) (wr := []) hCC hP hD hS (c_X10_init l N xk) myX10_init k1_18 ⟨Nat.le_of_ble_eq_true rfl, Nat.le_of_ble_eq_true rfl⟩ [0] [] ⟨⟨rfl, rfl⟩, by decide, by decide, by decide⟩ rfl hl.1 rfl (Nat.le_of_ble_eq_true rfl) dL_law_4 ⟨Nat.le_of_ble_eq_true rfl, Nat.le_of_ble_eq_true rfl⟩ (fun u H locs hw hP hD hS => ?_)
  obtain ⟨k_hs, k_shs, k_ja, k_uu, k_tb, k_ob, k_sts, k_sa, k_a, k_fl, k_t, k_wi, k_d, k_f, k_nr, k_ra, k_b, k_lw, k_gw, k_sd, k_tw, k_sh, k_wo, k_jj, k_wu, k_tl, k_tg, k_ol, k_og, k_q0, k_q1, k_q2, k_q3, k_m0, k_m1, k_m2, k_m3, k_shf, k_lf2, k_gf2, k_sdf2, k_twf2, k_shf2, k_wof2⟩ := u
  obtain ⟨kwd, ksd, ksh, kwo, ktw, kq0, kq1, kq2, kq3⟩ := hw
  have hP : va_P N.1 vwCl [(xk, .inr (10, [.ref k_sa, .ref k_hs, .ref k_shs, .ref k_ja, .ref k_uu, .ref k_tb, .ref k_ob, .int (nI 0)])), (k_hs, .inr (2, [.ref k_sts, .int (nI 0), .int (nI 0)])), (k_sts, .inl (N.2 2, 20, .inr (.inr (.inr (.inr (fun _ => none)))))), (k_sa, .inr (6, [.ref k_a, .ref k_ra])), (k_a, .inr (0, [.ref k_fl, .ref k_wi, .ref k_nr])), (k_fl, .inr (1, [.ref k_t, .int (nI 0)])), (k_t, .inl (N.2 0, 64, .inl (fun _ => 0))), (k_wi, .inr (8, [.ref k_d, .ref k_f])), (k_d, .inl (N.2 0, 80, .inl (fun _ => 0))), (k_f, .inl (N.2 0, 80, .inl (fun _ => 0))), (k_nr, .inl (N.2 0, 8, .inl (fun _ => 0))), (k_ra, .inr (4, [.ref k_b, .ref k_sd, .ref k_tw, .ref k_sh, .ref k_wo, .int (nI 3), .int (nI 0)])), (k_b, .inr (9, [.ref k_lw, .ref k_gw, .int (nI 3)])), (k_lw, .inl (N.2 0, 5, .inl k_lf2)), (k_gw, .inl (N.2 0, 300, .inl k_gf2)), (k_sd, .inl (N.2 0, 5, .inl k_sdf2)), (k_tw, .inl (N.2 0, 25, .inl k_twf2)), (k_sh, .inl (N.2 0, 5, .inl k_shf2)), (k_wo, .inl (N.2 0, 5, .inl k_wof2)), (k_shs, .inl (N.2 1, 4, .inr (.inr (.inr (.inr k_shf))))), (k_q0, .inr (5, [.ref k_m0, .int (nI 0), .int (nI 0)])), (k_m0, .inl (N.2 0, 40, .inl (fun _ => 0))), (k_q1, .inr (5, [.ref k_m1, .int (nI 0), .int (nI 0)])), (k_m1, .inl (N.2 0, 40, .inl (fun _ => 0))), (k_q2, .inr (5, [.ref k_m2, .int (nI 0), .int (nI 0)])), (k_m2, .inl (N.2 0, 40, .inl (fun _ => 0))), (k_q3, .inr (5, [.ref k_m3, .int (nI 0), .int (nI 0)])), (k_m3, .inl (N.2 0, 40, .inl (fun _ => 0))), (k_ja, .inr (3, [.ref k_jj, .int (nI 0)])), (k_jj, .inl (N.2 0, 180, .inl (fun _ => 0))), (k_uu, .inr (7, [.ref k_wu])), (k_wu, .inl (N.2 0, 3, .inl (fun _ => 0))), (k_tb, .inr (9, [.ref k_tl, .ref k_tg, .int (nI 0)])), (k_tl, .inl (N.2 0, 5, .inl (fun _ => 0))), (k_tg, .inl (N.2 0, 300, .inl (fun _ => 0))), (k_ob, .inr (9, [.ref k_ol, .ref k_og, .int (nI 0)])), (k_ol, .inl (N.2 0, 5, .inl (fun _ => 0))), (k_og, .inl (N.2 0, 300, .inl (fun _ => 0)))] H := hP
  have hD : va_D (fun q : Nat => s.heap.size ≤ q) [(xk, .inr (10, [.ref k_sa, .ref k_hs, .ref k_shs, .ref k_ja, .ref k_uu, .ref k_tb, .ref k_ob, .int (nI 0)])), (k_hs, .inr (2, [.ref k_sts, .int (nI 0), .int (nI 0)])), (k_sts, .inl (N.2 2, 20, .inr (.inr (.inr (.inr (fun _ => none)))))), (k_sa, .inr (6, [.ref k_a, .ref k_ra])), (k_a, .inr (0, [.ref k_fl, .ref k_wi, .ref k_nr])), (k_fl, .inr (1, [.ref k_t, .int (nI 0)])), (k_t, .inl (N.2 0, 64, .inl (fun _ => 0))), (k_wi, .inr (8, [.ref k_d, .ref k_f])), (k_d, .inl (N.2 0, 80, .inl (fun _ => 0))), (k_f, .inl (N.2 0, 80, .inl (fun _ => 0))), (k_nr, .inl (N.2 0, 8, .inl (fun _ => 0))), (k_ra, .inr (4, [.ref k_b, .ref k_sd, .ref k_tw, .ref k_sh, .ref k_wo, .int (nI 3), .int (nI 0)])), (k_b, .inr (9, [.ref k_lw, .ref k_gw, .int (nI 3)])), (k_lw, .inl (N.2 0, 5, .inl k_lf2)), (k_gw, .inl (N.2 0, 300, .inl k_gf2)), (k_sd, .inl (N.2 0, 5, .inl k_sdf2)), (k_tw, .inl (N.2 0, 25, .inl k_twf2)), (k_sh, .inl (N.2 0, 5, .inl k_shf2)), (k_wo, .inl (N.2 0, 5, .inl k_wof2)), (k_shs, .inl (N.2 1, 4, .inr (.inr (.inr (.inr k_shf))))), (k_q0, .inr (5, [.ref k_m0, .int (nI 0), .int (nI 0)])), (k_m0, .inl (N.2 0, 40, .inl (fun _ => 0))), (k_q1, .inr (5, [.ref k_m1, .int (nI 0), .int (nI 0)])), (k_m1, .inl (N.2 0, 40, .inl (fun _ => 0))), (k_q2, .inr (5, [.ref k_m2, .int (nI 0), .int (nI 0)])), (k_m2, .inl (N.2 0, 40, .inl (fun _ => 0))), (k_q3, .inr (5, [.ref k_m3, .int (nI 0), .int (nI 0)])), (k_m3, .inl (N.2 0, 40, .inl (fun _ => 0))), (k_ja, .inr (3, [.ref k_jj, .int (nI 0)])), (k_jj, .inl (N.2 0, 180, .inl (fun _ => 0))), (k_uu, .inr (7, [.ref k_wu])), (k_wu, .inl (N.2 0, 3, .inl (fun _ => 0))), (k_tb, .inr (9, [.ref k_tl, .ref k_tg, .int (nI 0)])), (k_tl, .inl (N.2 0, 5, .inl (fun _ => 0))), (k_tg, .inl (N.2 0, 300, .inl (fun _ => 0))), (k_ob, .inr (9, [.ref k_ol, .ref k_og, .int (nI 0)])), (k_ol, .inl (N.2 0, 5, .inl (fun _ => 0))), (k_og, .inl (N.2 0, 300, .inl (fun _ => 0)))] := hD
  refine W.widen (k := 38) (n := 1605) (Nat.le_of_ble_eq_true rfl) (Nat.le_of_ble_eq_true rfl) ?_
  refine lv_astore_n (lv' := [(1, .ref xk), (0, .ref b)]) hx hb dL_law_7 rfl hl (by decide) rfl (fun ls hl => ?_)
  refine va_new (ci := 11) (fs := [.null, .null, .int (nI 0), .int (nI 0), .int (nI 0), .null, .null, .null, .null, .null, .null, .null, .null, .null, .int (nI 0), .null, .null]) (C := RX11) (T := TX11) (N := 17) hx hb hg inX11 tyX11 tyX11_ok hown (hg _ k3_232) (hg _ k3_233) (hg _ k1_12) hE.1 hP hD hS hA rfl (fun j hj => by rcases (show j = 0 ∨ j = 1 ∨ j = 2 ∨ j = 3 ∨ j = 4 ∨ j = 5 ∨ j = 6 ∨ j = 7 ∨ j = 8 ∨ j = 9 ∨ j = 10 ∨ j = 11 ∨ j = 12 ∨ j = 13 ∨ j = 14 ∨ j = 15 ∨ j = 16 by omega) with rfl | rfl | rfl | rfl | rfl | rfl | rfl | rfl | rfl | rfl | rfl | rfl | rfl | rfl | rfl | rfl | rfl <;> rfl) (Nat.le_of_ble_eq_true rfl) (Nat.le_of_ble_eq_true rfl) dL_law_8 (fun xm H hP hD hS => ?_)
  have hP : va_P N.1 vwCl [(xk, .inr (10, [.ref k_sa, .ref k_hs, .ref k_shs, .ref k_ja, .ref k_uu, .ref k_tb, .ref k_ob, .int (nI 0)])), (k_hs, .inr (2, [.ref k_sts, .int (nI 0), .int (nI 0)])), (k_sts, .inl (N.2 2, 20, .inr (.inr (.inr (.inr (fun _ => none)))))), (k_sa, .inr (6, [.ref k_a, .ref k_ra])), (k_a, .inr (0, [.ref k_fl, .ref k_wi, .ref k_nr])), (k_fl, .inr (1, [.ref k_t, .int (nI 0)])), (k_t, .inl (N.2 0, 64, .inl (fun _ => 0))), (k_wi, .inr (8, [.ref k_d, .ref k_f])), (k_d, .inl (N.2 0, 80, .inl (fun _ => 0))), (k_f, .inl (N.2 0, 80, .inl (fun _ => 0))), (k_nr, .inl (N.2 0, 8, .inl (fun _ => 0))), (k_ra, .inr (4, [.ref k_b, .ref k_sd, .ref k_tw, .ref k_sh, .ref k_wo, .int (nI 3), .int (nI 0)])), (k_b, .inr (9, [.ref k_lw, .ref k_gw, .int (nI 3)])), (k_lw, .inl (N.2 0, 5, .inl k_lf2)), (k_gw, .inl (N.2 0, 300, .inl k_gf2)), (k_sd, .inl (N.2 0, 5, .inl k_sdf2)), (k_tw, .inl (N.2 0, 25, .inl k_twf2)), (k_sh, .inl (N.2 0, 5, .inl k_shf2)), (k_wo, .inl (N.2 0, 5, .inl k_wof2)), (k_shs, .inl (N.2 1, 4, .inr (.inr (.inr (.inr k_shf))))), (k_q0, .inr (5, [.ref k_m0, .int (nI 0), .int (nI 0)])), (k_m0, .inl (N.2 0, 40, .inl (fun _ => 0))), (k_q1, .inr (5, [.ref k_m1, .int (nI 0), .int (nI 0)])), (k_m1, .inl (N.2 0, 40, .inl (fun _ => 0))), (k_q2, .inr (5, [.ref k_m2, .int (nI 0), .int (nI 0)])), (k_m2, .inl (N.2 0, 40, .inl (fun _ => 0))), (k_q3, .inr (5, [.ref k_m3, .int (nI 0), .int (nI 0)])), (k_m3, .inl (N.2 0, 40, .inl (fun _ => 0))), (k_ja, .inr (3, [.ref k_jj, .int (nI 0)])), (k_jj, .inl (N.2 0, 180, .inl (fun _ => 0))), (k_uu, .inr (7, [.ref k_wu])), (k_wu, .inl (N.2 0, 3, .inl (fun _ => 0))), (k_tb, .inr (9, [.ref k_tl, .ref k_tg, .int (nI 0)])), (k_tl, .inl (N.2 0, 5, .inl (fun _ => 0))), (k_tg, .inl (N.2 0, 300, .inl (fun _ => 0))), (k_ob, .inr (9, [.ref k_ol, .ref k_og, .int (nI 0)])), (k_ol, .inl (N.2 0, 5, .inl (fun _ => 0))), (k_og, .inl (N.2 0, 300, .inl (fun _ => 0))), (xm, .inr (11, [.null, .null, .int (nI 0), .int (nI 0), .int (nI 0), .null, .null, .null, .null, .null, .null, .null, .null, .null, .int (nI 0), .null, .null]))] H := hP
  have hD : va_D (fun q : Nat => s.heap.size ≤ q) [(xk, .inr (10, [.ref k_sa, .ref k_hs, .ref k_shs, .ref k_ja, .ref k_uu, .ref k_tb, .ref k_ob, .int (nI 0)])), (k_hs, .inr (2, [.ref k_sts, .int (nI 0), .int (nI 0)])), (k_sts, .inl (N.2 2, 20, .inr (.inr (.inr (.inr (fun _ => none)))))), (k_sa, .inr (6, [.ref k_a, .ref k_ra])), (k_a, .inr (0, [.ref k_fl, .ref k_wi, .ref k_nr])), (k_fl, .inr (1, [.ref k_t, .int (nI 0)])), (k_t, .inl (N.2 0, 64, .inl (fun _ => 0))), (k_wi, .inr (8, [.ref k_d, .ref k_f])), (k_d, .inl (N.2 0, 80, .inl (fun _ => 0))), (k_f, .inl (N.2 0, 80, .inl (fun _ => 0))), (k_nr, .inl (N.2 0, 8, .inl (fun _ => 0))), (k_ra, .inr (4, [.ref k_b, .ref k_sd, .ref k_tw, .ref k_sh, .ref k_wo, .int (nI 3), .int (nI 0)])), (k_b, .inr (9, [.ref k_lw, .ref k_gw, .int (nI 3)])), (k_lw, .inl (N.2 0, 5, .inl k_lf2)), (k_gw, .inl (N.2 0, 300, .inl k_gf2)), (k_sd, .inl (N.2 0, 5, .inl k_sdf2)), (k_tw, .inl (N.2 0, 25, .inl k_twf2)), (k_sh, .inl (N.2 0, 5, .inl k_shf2)), (k_wo, .inl (N.2 0, 5, .inl k_wof2)), (k_shs, .inl (N.2 1, 4, .inr (.inr (.inr (.inr k_shf))))), (k_q0, .inr (5, [.ref k_m0, .int (nI 0), .int (nI 0)])), (k_m0, .inl (N.2 0, 40, .inl (fun _ => 0))), (k_q1, .inr (5, [.ref k_m1, .int (nI 0), .int (nI 0)])), (k_m1, .inl (N.2 0, 40, .inl (fun _ => 0))), (k_q2, .inr (5, [.ref k_m2, .int (nI 0), .int (nI 0)])), (k_m2, .inl (N.2 0, 40, .inl (fun _ => 0))), (k_q3, .inr (5, [.ref k_m3, .int (nI 0), .int (nI 0)])), (k_m3, .inl (N.2 0, 40, .inl (fun _ => 0))), (k_ja, .inr (3, [.ref k_jj, .int (nI 0)])), (k_jj, .inl (N.2 0, 180, .inl (fun _ => 0))), (k_uu, .inr (7, [.ref k_wu])), (k_wu, .inl (N.2 0, 3, .inl (fun _ => 0))), (k_tb, .inr (9, [.ref k_tl, .ref k_tg, .int (nI 0)])), (k_tl, .inl (N.2 0, 5, .inl (fun _ => 0))), (k_tg, .inl (N.2 0, 300, .inl (fun _ => 0))), (k_ob, .inr (9, [.ref k_ol, .ref k_og, .int (nI 0)])), (k_ol, .inl (N.2 0, 5, .inl (fun _ => 0))), (k_og, .inl (N.2 0, 300, .inl (fun _ => 0))), (xm, .inr (11, [.null, .null, .int (nI 0), .int (nI 0), .int (nI 0), .null, .null, .null, .null, .null, .null, .null, .null, .null, .int (nI 0), .null, .null]))] := hD
  refine W.widen (k := 39) (n := 1622) (by omega) (by omega) ?_
  refine lv_dup hx hb dL_law_11 rfl ?_
  refine ck_Iv (As := []) (rest := [.ref xm]) (wr := [(xk, .inr (10, [.ref k_sa, .ref k_hs, .ref k_shs, .ref k_ja, .ref k_uu, .ref k_tb, .ref k_ob, .int (nI 0)])), (k_hs, .inr (2, [.ref k_sts, .int (nI 0), .int (nI 0)])), (k_sts, .inl (N.2 2, 20, .inr (.inr (.inr (.inr (fun _ => none)))))), (k_sa, .inr (6, [.ref k_a, .ref k_ra])), (k_a, .inr (0, [.ref k_fl, .ref k_wi, .ref k_nr])), (k_fl, .inr (1, [.ref k_t, .int (nI 0)])), (k_t, .inl (N.2 0, 64, .inl (fun _ => 0))), (k_wi, .inr (8, [.ref k_d, .ref k_f])), (k_d, .inl (N.2 0, 80, .inl (fun _ => 0))), (k_f, .inl (N.2 0, 80, .inl (fun _ => 0))), (k_nr, .inl (N.2 0, 8, .inl (fun _ => 0))), (k_ra, .inr (4, [.ref k_b, .ref k_sd, .ref k_tw, .ref k_sh, .ref k_wo, .int (nI 3), .int (nI 0)])), (k_b, .inr (9, [.ref k_lw, .ref k_gw, .int (nI 3)])), (k_lw, .inl (N.2 0, 5, .inl k_lf2)), (k_gw, .inl (N.2 0, 300, .inl k_gf2)), (k_sd, .inl (N.2 0, 5, .inl k_sdf2)), (k_tw, .inl (N.2 0, 25, .inl k_twf2)), (k_sh, .inl (N.2 0, 5, .inl k_shf2)), (k_wo, .inl (N.2 0, 5, .inl k_wof2)), (k_shs, .inl (N.2 1, 4, .inr (.inr (.inr (.inr k_shf))))), (k_q0, .inr (5, [.ref k_m0, .int (nI 0), .int (nI 0)])), (k_m0, .inl (N.2 0, 40, .inl (fun _ => 0))), (k_q1, .inr (5, [.ref k_m1, .int (nI 0), .int (nI 0)])), (k_m1, .inl (N.2 0, 40, .inl (fun _ => 0))), (k_q2, .inr (5, [.ref k_m2, .int (nI 0), .int (nI 0)])), (k_m2, .inl (N.2 0, 40, .inl (fun _ => 0))), (k_q3, .inr (5, [.ref k_m3, .int (nI 0), .int (nI 0)])), (k_m3, .inl (N.2 0, 40, .inl (fun _ => 0))), (k_ja, .inr (3, [.ref k_jj, .int (nI 0)])), (k_jj, .inl (N.2 0, 180, .inl (fun _ => 0))), (k_uu, .inr (7, [.ref k_wu])), (k_wu, .inl (N.2 0, 3, .inl (fun _ => 0))), (k_tb, .inr (9, [.ref k_tl, .ref k_tg, .int (nI 0)])), (k_tl, .inl (N.2 0, 5, .inl (fun _ => 0))), (k_tg, .inl (N.2 0, 300, .inl (fun _ => 0))), (k_ob, .inr (9, [.ref k_ol, .ref k_og, .int (nI 0)])), (k_ol, .inl (N.2 0, 5, .inl (fun _ => 0))), (k_og, .inl (N.2 0, 300, .inl (fun _ => 0)))]) hCC hP hD hS (c_X11_init l N xm) myX11_init k3_234 ⟨Nat.le_of_ble_eq_true rfl, Nat.le_of_ble_eq_true rfl⟩ [38] [0, 1, 2, 3, 4, 5, 6, 7, 8, 9, 10, 11, 12, 13, 14, 15, 16, 17, 18, 19, 20, 21, 22, 23, 24, 25, 26, 27, 28, 29, 30, 31, 32, 33, 34, 35, 36, 37] ⟨⟨rfl, rfl⟩, by decide, by decide, by decide⟩ rfl hl.1 rfl (Nat.le_of_ble_eq_true rfl) dL_law_12 ⟨Nat.le_of_ble_eq_true rfl, Nat.le_of_ble_eq_true rfl⟩ (fun u H locs hw hP hD hS => ?_)
  obtain ⟨n_an, n_ak, n_ab, n_az, n_as_, n_ae, n_ao, n_ar, n_aw, n_al, n_am, n_af, n_ac, n_nw4, n_ea, n_no, n_bk4, n_lo4⟩ := u
  obtain ⟨nV, nea, nno⟩ := hw
  refine W.widen (k := 52) (n := 15594) (Nat.le_of_ble_eq_true rfl) (Nat.le_of_ble_eq_true rfl) ?_
  have hP : va_P N.1 vwCl (CW N (fun k => match k with | 0 => xk | 1 => k_hs | 2 => k_sts | 3 => k_sa | 4 => k_a | 5 => k_fl | 6 => k_t | 7 => k_wi | 8 => k_d | 9 => k_f | 10 => k_nr | 11 => k_ra | 12 => k_b | 13 => k_lw | 14 => k_gw | 15 => k_sd | 16 => k_tw | 17 => k_sh | 18 => k_wo | 19 => k_shs | 20 => k_q0 | 21 => k_m0 | 22 => k_q1 | 23 => k_m1 | 24 => k_q2 | 25 => k_m2 | 26 => k_q3 | 27 => k_m3 | 28 => k_ja | 29 => k_jj | 30 => k_uu | 31 => k_wu | 32 => k_tb | 33 => k_tl | 34 => k_tg | 35 => k_ob | 36 => k_ol | _ => k_og) k_shf (fun k => match k with | 4 => k_lf2 | 5 => k_gf2 | 6 => k_sdf2 | 7 => k_twf2 | 8 => k_shf2 | 9 => k_wof2 | _ => fun _ => 0) (fun _ _ => 0) (fun _ _ => 0) (fun k => match k with | 1 => 3 | _ => 0) (fun _ => 0) (fun _ => 0) (fun _ => 0) (fun _ => nI 0) (fun _ => none) (fun _ => []) ++ MW N (fun k => match k with | 0 => xm | 1 => n_an | 2 => n_ak | 3 => n_ab | 4 => n_az | 5 => n_as_ | 6 => n_ae | 7 => n_ao | 8 => n_ar | 9 => n_aw | 10 => n_al | 11 => n_am | 12 => n_af | _ => n_ac) (fun k => match k with | 0 => n_nw4 | 1 => fun _ => 0 | 2 => fun _ => 0 | 3 => fun _ => 0 | 4 => fun _ => 0 | 5 => n_ea | 6 => n_no | 7 => fun _ => 0 | 8 => n_bk4 | 9 => n_lo4 | 10 => fun _ => 0 | 11 => fun _ => 0 | _ => fun _ => 0) ((fun k => match k with | 1 => 3 | _ => 0) 2) ((fun k => match k with | 1 => 3 | _ => 0) 3) (nI 0) 0) H := hP
  have hD : va_D (fun q : Nat => s.heap.size ≤ q) (CW N (fun k => match k with | 0 => xk | 1 => k_hs | 2 => k_sts | 3 => k_sa | 4 => k_a | 5 => k_fl | 6 => k_t | 7 => k_wi | 8 => k_d | 9 => k_f | 10 => k_nr | 11 => k_ra | 12 => k_b | 13 => k_lw | 14 => k_gw | 15 => k_sd | 16 => k_tw | 17 => k_sh | 18 => k_wo | 19 => k_shs | 20 => k_q0 | 21 => k_m0 | 22 => k_q1 | 23 => k_m1 | 24 => k_q2 | 25 => k_m2 | 26 => k_q3 | 27 => k_m3 | 28 => k_ja | 29 => k_jj | 30 => k_uu | 31 => k_wu | 32 => k_tb | 33 => k_tl | 34 => k_tg | 35 => k_ob | 36 => k_ol | _ => k_og) k_shf (fun k => match k with | 4 => k_lf2 | 5 => k_gf2 | 6 => k_sdf2 | 7 => k_twf2 | 8 => k_shf2 | 9 => k_wof2 | _ => fun _ => 0) (fun _ _ => 0) (fun _ _ => 0) (fun k => match k with | 1 => 3 | _ => 0) (fun _ => 0) (fun _ => 0) (fun _ => 0) (fun _ => nI 0) (fun _ => none) (fun _ => []) ++ MW N (fun k => match k with | 0 => xm | 1 => n_an | 2 => n_ak | 3 => n_ab | 4 => n_az | 5 => n_as_ | 6 => n_ae | 7 => n_ao | 8 => n_ar | 9 => n_aw | 10 => n_al | 11 => n_am | 12 => n_af | _ => n_ac) (fun k => match k with | 0 => n_nw4 | 1 => fun _ => 0 | 2 => fun _ => 0 | 3 => fun _ => 0 | 4 => fun _ => 0 | 5 => n_ea | 6 => n_no | 7 => fun _ => 0 | 8 => n_bk4 | 9 => n_lo4 | 10 => fun _ => 0 | 11 => fun _ => 0 | _ => fun _ => 0) ((fun k => match k with | 1 => 3 | _ => 0) 2) ((fun k => match k with | 1 => 3 | _ => 0) 3) (nI 0) 0) := hD
  refine lv_astore_n (lv' := [(2, .ref xm), (1, .ref xk), (0, .ref b)]) hx hb dL_law_15 rfl hl (by decide) rfl (fun ls hl => ?_)
  refine lv_iconst (v := nI 0) hx hb dL_law_16 (by decide) ?_
  refine lv_istore_n (lv' := [(3, .int (nI 0)), (2, .ref xm), (1, .ref xk), (0, .ref b)]) hx hb dL_law_17 rfl hl (by decide) rfl (fun ls hl => ?_)
  have hJ : Jv N (fun k => match k with | 0 => xk | 1 => k_hs | 2 => k_sts | 3 => k_sa | 4 => k_a | 5 => k_fl | 6 => k_t | 7 => k_wi | 8 => k_d | 9 => k_f | 10 => k_nr | 11 => k_ra | 12 => k_b | 13 => k_lw | 14 => k_gw | 15 => k_sd | 16 => k_tw | 17 => k_sh | 18 => k_wo | 19 => k_shs | 20 => k_q0 | 21 => k_m0 | 22 => k_q1 | 23 => k_m1 | 24 => k_q2 | 25 => k_m2 | 26 => k_q3 | 27 => k_m3 | 28 => k_ja | 29 => k_jj | 30 => k_uu | 31 => k_wu | 32 => k_tb | 33 => k_tl | 34 => k_tg | 35 => k_ob | 36 => k_ol | _ => k_og) k_shf (fun k => match k with | 4 => k_lf2 | 5 => k_gf2 | 6 => k_sdf2 | 7 => k_twf2 | 8 => k_shf2 | 9 => k_wof2 | _ => fun _ => 0) (fun _ _ => 0) (fun k => match k with | 1 => 3 | _ => 0) (fun _ => 0) (fun _ => 0) (fun _ => nI 0) (fun _ => none) (fun _ => []) first0 (fun k => match k with | 0 => n_nw4 | 1 => fun _ => 0 | 2 => fun _ => 0 | 3 => fun _ => 0 | 4 => fun _ => 0 | 5 => n_ea | 6 => n_no | 7 => fun _ => 0 | 8 => n_bk4 | 9 => n_lo4 | 10 => fun _ => 0 | 11 => fun _ => 0 | _ => fun _ => 0) := by
    refine ⟨⟨kwd, iA_0, iR_0 (by decide) (by decide) ksd, mV_view nV (fun _ _ => rfl) (fun _ _ => rfl) (fun _ _ => rfl) ksd kwo ksh ktw⟩, ⟨fun k hk => Or.inl ⟨rfl, rfl⟩, fun d hd => absurd hd (Nat.not_lt_zero d)⟩, fun q hq => ?_, ⟨by decide, by decide⟩, nea, nno⟩
    refine ⟨?_, Nat.zero_le _, Or.inl rfl, rfl, rfl, fun k hk => absurd hk (Nat.not_lt_zero k)⟩
    rcases (show q = 0 ∨ q = 1 ∨ q = 2 ∨ q = 3 by omega) with rfl | rfl | rfl | rfl
    · exact kq0
    · exact kq1
    · exact kq2
    · exact kq3
  exact law_loop hL C0 hE 65 0 52 15594 (by decide) (by decide) (by decide) (by decide) (fun k => match k with | 4 => k_lf2 | 5 => k_gf2 | 6 => k_sdf2 | 7 => k_twf2 | 8 => k_shf2 | 9 => k_wof2 | _ => fun _ => 0) (fun _ _ => 0) (fun _ _ => 0) (fun k => match k with | 1 => 3 | _ => 0) (fun _ => 0) (fun _ => 0) (fun _ => 0) (fun _ => nI 0) (fun _ => none) (fun _ => []) first0 (fun k => match k with | 0 => n_nw4 | 1 => fun _ => 0 | 2 => fun _ => 0 | 3 => fun _ => 0 | 4 => fun _ => 0 | 5 => n_ea | 6 => n_no | 7 => fun _ => 0 | 8 => n_bk4 | 9 => n_lo4 | 10 => fun _ => 0 | 11 => fun _ => 0 | _ => fun _ => 0) 0 H locs hJ hP hD hS ls (lv_sub hl [3, 2, 1, 0] rfl)
