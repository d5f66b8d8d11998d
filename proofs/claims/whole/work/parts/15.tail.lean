/-! worlds with a tail: a part of which only the shape is known -/
theorem ck_nd_iff : ∀ (l : List Nat), va_nd l = true ↔ l.Nodup
  | [] => by simp [va_nd]
  | a :: l => by rw [va_nd, Bool.and_eq_true, decide_eq_true_eq, ck_nd_iff l, List.nodup_cons]
theorem ck_map_lt {ws : va_W} : ∀ {is : List Nat} {wc : va_W}, is.map (fun i => ws[i]?) = wc.map some → ∀ i ∈ is, i < ws.length
  | [], _, _, i, hi => by cases hi
  | j :: is, [], h, i, hi => by cases h
  | j :: is, x :: wc, h, i, hi => by
    rw [List.map_cons, List.map_cons] at h
    injection h with h1 h2
    rcases List.mem_cons.mp hi with rfl | hi
    · exact (List.getElem?_eq_some_iff.mp h1).1
    · exact ck_map_lt h2 i hi
def ckTl (ws ex : va_W) : List Nat := (List.range ex.length).map (fun i => ws.length + i)
theorem ckTl_map (ws ex : va_W) : (ckTl ws ex).map (fun i => (ws ++ ex)[i]?) = ex.map some := by
  apply List.ext_getElem?
  intro k
  rw [ckTl, List.map_map, List.getElem?_map, List.getElem?_map]
  by_cases hk : k < ex.length
  · rw [List.getElem?_range hk, List.getElem?_eq_getElem hk]
    show some ((ws ++ ex)[ws.length + k]?) = some (some ex[k])
    rw [List.getElem?_append_right (by omega), Nat.add_sub_cancel_left, List.getElem?_eq_getElem hk]
  · rw [List.getElem?_eq_none (by rw [List.length_range]; omega), List.getElem?_eq_none (by omega)]
    rfl
theorem ckTl_ge {ws ex : va_W} : ∀ i ∈ ckTl ws ex, ws.length ≤ i := by
  intro i hi
  obtain ⟨k, -, rfl⟩ := List.mem_map.mp hi
  omega
theorem ckTl_nd (ws ex : va_W) : (ckTl ws ex).Nodup := by
  rw [ckTl, List.nodup_iff_pairwise_ne, List.pairwise_map]
  exact (List.nodup_iff_pairwise_ne.mp (List.nodup_range)).imp (fun h q => h (by omega))
theorem ck_map_app {ws ex wc : va_W} {is : List Nat} (h : is.map (fun i => ws[i]?) = wc.map some) : is.map (fun i => (ws ++ ex)[i]?) = wc.map some := by
  rw [← h]
  exact List.map_congr_left (fun i hi => List.getElem?_append_left (ck_map_lt (wc := wc) h i hi))
theorem ckX_t {ws wc wr ex : va_W} {isC isR : List Nat} (h : ckX ws wc wr isC isR) : ckX (ws ++ ex) (wc ++ ex) wr (isC ++ ckTl ws ex) isR := by
  obtain ⟨⟨h1, h2⟩, h3, h4, h5⟩ := h
  have l1 := ck_map_lt (wc := wc) h1
  have l2 := ck_map_lt (wc := wr) h2
  refine ⟨⟨?_, ck_map_app h2⟩, (ck_nd_iff _).mpr (List.nodup_append.mpr ⟨(ck_nd_iff _).mp h3, ckTl_nd ws ex, fun a ha b hb q => ?_⟩), h4, fun i hi q => ?_⟩
  · rw [List.map_append, List.map_append, ck_map_app h1, ckTl_map]
  · have := ckTl_ge b hb; have := l1 a ha; omega
  · rcases List.mem_append.mp q with q | q
    · exact h5 i hi q
    · have := ckTl_ge i q; have := l2 i hi; omega
theorem ckX_r {ws wc wr ex : va_W} {isC isR : List Nat} (h : ckX ws wc wr isC isR) : ckX (ws ++ ex) wc (wr ++ ex) isC (isR ++ ckTl ws ex) := by
  obtain ⟨⟨h1, h2⟩, h3, h4, h5⟩ := h
  have l1 := ck_map_lt (wc := wc) h1
  have l2 := ck_map_lt (wc := wr) h2
  refine ⟨⟨ck_map_app h1, ?_⟩, h3, (ck_nd_iff _).mpr (List.nodup_append.mpr ⟨(ck_nd_iff _).mp h4, ckTl_nd ws ex, fun a ha b hb q => ?_⟩), fun i hi q => ?_⟩
  · rw [List.map_append, List.map_append, ck_map_app h2, ckTl_map]
  · have := ckTl_ge b hb; have := l2 a ha; omega
  · rcases List.mem_append.mp hi with hi | hi
    · exact h5 i hi q
    · have := ckTl_ge i hi; have := l1 i q; omega
/-- a world in another order -/
theorem ck_P_iff {D : va_G} {cl : List vw_C} {ws : va_W} {H : Heap} : va_P D cl ws H ↔ ∀ q ∈ ws, va_at D cl q H :=
  ⟨fun h q hq => by obtain ⟨i, hi⟩ := List.getElem?_of_mem hq; exact h i q hi, fun h k q hk => h q (List.mem_of_getElem? hk)⟩
theorem ck_D_iff {A : Nat → Prop} {ws : va_W} : va_D A ws ↔ (ws.map (fun q => q.1)).Nodup ∧ ∀ q ∈ ws, A q.1 := by
  constructor
  · intro h
    refine ⟨?_, fun q hq => by obtain ⟨i, hi⟩ := List.getElem?_of_mem hq; exact h.2 i q hi⟩
    rw [List.nodup_iff_pairwise_ne, List.pairwise_map, List.pairwise_iff_getElem]
    intro i j hi hj hij q
    have := h.1 i j ws[i] ws[j] (List.getElem?_eq_getElem hi) (List.getElem?_eq_getElem hj) q
    omega
  · intro h
    refine ⟨fun i j p q hi hj hpq => ?_, fun k q hk => h.2 q (List.mem_of_getElem? hk)⟩
    have h1 := List.nodup_iff_pairwise_ne.mp h.1
    rw [List.pairwise_map, List.pairwise_iff_getElem] at h1
    obtain ⟨li, rfl⟩ := List.getElem?_eq_some_iff.mp hi
    obtain ⟨lj, rfl⟩ := List.getElem?_eq_some_iff.mp hj
    rcases Nat.lt_trichotomy i j with q | q | q
    · exact absurd hpq (h1 i j li lj q)
    · exact q
    · exact absurd hpq.symm (h1 j i lj li q)
theorem ck_P_perm {D : va_G} {cl : List vw_C} {ws ws' : va_W} {H : Heap} (p : ws.Perm ws') (h : va_P D cl ws H) : va_P D cl ws' H := ck_P_iff.mpr (fun q hq => ck_P_iff.mp h q (p.mem_iff.mpr hq))
theorem ck_D_perm {A : Nat → Prop} {ws ws' : va_W} (p : ws.Perm ws') (h : va_D A ws) : va_D A ws' := by
  obtain ⟨h1, h2⟩ := ck_D_iff.mp h
  exact ck_D_iff.mpr ⟨(p.map _).nodup_iff.mp h1, fun q hq => h2 q (p.mem_iff.mpr hq)⟩
theorem ck_rot {D : va_G} {cl : List vw_C} {A : Nat → Prop} {a ex b : va_W} {H : Heap} (hP : va_P D cl ((a ++ ex) ++ b) H) (hD : va_D A ((a ++ ex) ++ b)) : va_P D cl ((a ++ b) ++ ex) H ∧ va_D A ((a ++ b) ++ ex) := by
  have p : ((a ++ ex) ++ b).Perm ((a ++ b) ++ ex) := by
    rw [List.append_assoc, List.append_assoc]
    exact List.Perm.append_left a List.perm_append_comm
  exact ⟨ck_P_perm p hP, ck_D_perm p hD⟩
theorem ck_subP {D : va_G} {cl : List vw_C} {ws ws' ex : va_W} {H : Heap} (is : List Nat) (h : va_P D cl (ws ++ ex) H) (hs : is.map (fun i => ws[i]?) = ws'.map some) : va_P D cl (ws' ++ ex) H := by
  rw [ck_P_iff] at h ⊢
  intro q hq
  rcases List.mem_append.mp hq with hq | hq
  · have : some q ∈ is.map (fun i => ws[i]?) := by rw [hs]; exact List.mem_map.mpr ⟨q, hq, rfl⟩
    obtain ⟨i, -, hi⟩ := List.mem_map.mp this
    exact h q (List.mem_append_left _ (List.mem_of_getElem? hi))
  · exact h q (List.mem_append_right _ hq)
theorem ck_subD {A : Nat → Prop} {ws ws' ex : va_W} (is : List Nat) (h : va_D A (ws ++ ex)) (hn : va_nd is = true) (hs : is.map (fun i => ws[i]?) = ws'.map some) : va_D A (ws' ++ ex) := by
  have hx : ckX ws ws' [] is [] := ⟨⟨hs, rfl⟩, hn, rfl, fun i hi => by cases hi⟩
  obtain ⟨⟨h1, -⟩, h3, -⟩ := ckX_t (ex := ex) hx
  exact h.sub _ h3 h1
/-- contracts in other words -/
theorem ckV.conv {S S' : Type} {l : Launch} {y : MethodName} {cc : ByteArray} {maxL : Nat} {ret : Option FieldType} {rm : Room} {N : ckN} {av : List Value} {w0 : va_W} {post : S → Prop} {w1 : S → va_W} {post' : S' → Prop} {w1' : S' → va_W} (h : ckV l y cc maxL ret rm N av w0 post w1) (hc : ∀ u, post u → ∃ u', post' u' ∧ w1' u' = w1 u) : ckV l y cc maxL ret rm N av w0 post' w1' := by
  intro sz
  refine Jvm.Free.MetFree.mono (h sz) (fun _ _ q => q) (fun _ _ _ _ _ q => q) (fun a s o t _ q => ?_)
  obtain ⟨⟨⟨u, h1, h2, h3, h4⟩, h5⟩, h6⟩ := q
  obtain ⟨u', g1, g2⟩ := hc u h2
  exact ⟨⟨⟨u', h1, g1, by rw [g2]; exact h3, by rw [g2]; exact h4⟩, h5⟩, h6⟩
/-- the sixteen cells of a state -/
def tSt (N : ckN) (ad : Nat → Nat) (c : Nat → Nat → Int32) (cf n : Nat) (wk : Int32) : va_W := [((ad 0), .inr (6, [.ref (ad 1), .ref (ad 8)])), ((ad 1), .inr (0, [.ref (ad 2), .ref (ad 4), .ref (ad 7)])), ((ad 2), .inr (1, [.ref (ad 3), .int (nI cf)])), ((ad 3), .inl (N.2 0, 64, .inl (c 0))), ((ad 4), .inr (8, [.ref (ad 5), .ref (ad 6)])), ((ad 5), .inl (N.2 0, 80, .inl (c 1))), ((ad 6), .inl (N.2 0, 80, .inl (c 2))), ((ad 7), .inl (N.2 0, 8, .inl (c 3))), ((ad 8), .inr (4, [.ref (ad 9), .ref (ad 12), .ref (ad 13), .ref (ad 14), .ref (ad 15), .int (nI n), .int wk])), ((ad 9), .inr (9, [.ref (ad 10), .ref (ad 11), .int (nI n)])), ((ad 10), .inl (N.2 0, 5, .inl (c 4))), ((ad 11), .inl (N.2 0, 300, .inl (c 5))), ((ad 12), .inl (N.2 0, 5, .inl (c 6))), ((ad 13), .inl (N.2 0, 25, .inl (c 7))), ((ad 14), .inl (N.2 0, 5, .inl (c 8))), ((ad 15), .inl (N.2 0, 5, .inl (c 9)))]
def ckSlot (N : ckN) (o : Option Nat) (ex : va_W) : Prop := (o = none ∧ ex = []) ∨ ∃ (ad : Nat → Nat) (c : Nat → Nat → Int32) (cf n : Nat) (wk : Int32), o = some (ad 0) ∧ ex = tSt N ad c cf n wk
/-- a state's contents are those told -/
def ckCp (c : Nat → Nat → Int32) (tr di fo : Nat → Int32) (n : Nat) (v : Nat → List Nat) (sdf twf shf wof : Nat → Int32) : Prop := (∀ j, j < 64 → c 0 j = tr j) ∧ (∀ j, j < 80 → c 1 j = di j) ∧ (∀ j, j < 80 → c 2 j = fo j) ∧ ckWd (c 4) (c 5) n v ∧ (∀ j, j < 5 → c 6 j = sdf j) ∧ (∀ j, j < 25 → c 7 j = twf j) ∧ (∀ j, j < 5 → c 8 j = shf j) ∧ (∀ j, j < 5 → c 9 j = wof j)
def ckKept (N : ckN) (stf : Nat → Option Nat) (nx cf n : Nat) (wk : Int32) (tr di fo : Nat → Int32) (v : Nat → List Nat) (sdf twf shf wof : Nat → Int32) (stf1 : Nat → Option Nat) (ex1 : va_W) : Prop := ∃ (ad : Nat → Nat) (c : Nat → Nat → Int32), stf1 = va_up stf nx (some (ad 0)) ∧ ex1 = tSt N ad c cf n wk ∧ ckCp c tr di fo n v sdf twf shf wof
set_option maxHeartbeats 4000000 in
set_option maxRecDepth 100000 in
/-- keep, whether the place was used before or not -/
theorem c_X2_keep_u (l : Launch) (N : ckN) (hs : Nat) (sts : Nat) (nx : Nat) (hc : Nat) (stf : Nat → Option Nat) (sa2 : Nat) (a2 : Nat) (fl2 : Nat) (t2 : Nat) (wi2 : Nat) (d2 : Nat) (f2 : Nat) (nr2 : Nat) (tr2 : Nat → Int32) (di2 : Nat → Int32) (fo2 : Nat → Int32) (ne2 : Nat → Int32) (cf2 : Nat) (ra2 : Nat) (b2 : Nat) (lw2 : Nat) (gw2 : Nat) (sd2 : Nat) (tw2 : Nat) (sh2 : Nat) (wo2 : Nat) (lf2 : Nat → Int32) (gf2 : Nat → Int32) (sdf2 : Nat → Int32) (twf2 : Nat → Int32) (shf2 : Nat → Int32) (wof2 : Nat → Int32) (n2 : Nat) (wk2 : Int32) (v : Nat → List Nat) (ex : va_W) (hv : ckWd lf2 gf2 n2 v) (hn : n2 ≤ 5) (hnx : nx < 20) (hhc : hc ≤ 20) (hsl : ckSlot N (stf nx) ex) : ckV l yX2_keep cX2_keep 2 none { frames := 6, cells := 16, slots := 596, locals := 148 } N [.ref hs, .ref sa2] ([(hs, .inr (2, [.ref sts, .int (nI nx), .int (nI hc)])), (sts, .inl (N.2 2, 20, .inr (.inr (.inr (.inr stf))))), (sa2, .inr (6, [.ref a2, .ref ra2])), (a2, .inr (0, [.ref fl2, .ref wi2, .ref nr2])), (fl2, .inr (1, [.ref t2, .int (nI cf2)])), (t2, .inl (N.2 0, 64, .inl tr2)), (wi2, .inr (8, [.ref d2, .ref f2])), (d2, .inl (N.2 0, 80, .inl di2)), (f2, .inl (N.2 0, 80, .inl fo2)), (nr2, .inl (N.2 0, 8, .inl ne2)), (ra2, .inr (4, [.ref b2, .ref sd2, .ref tw2, .ref sh2, .ref wo2, .int (nI n2), .int wk2])), (b2, .inr (9, [.ref lw2, .ref gw2, .int (nI n2)])), (lw2, .inl (N.2 0, 5, .inl lf2)), (gw2, .inl (N.2 0, 300, .inl gf2)), (sd2, .inl (N.2 0, 5, .inl sdf2)), (tw2, .inl (N.2 0, 25, .inl twf2)), (sh2, .inl (N.2 0, 5, .inl shf2)), (wo2, .inl (N.2 0, 5, .inl wof2))] ++ ex) (fun (u : (Nat → Option Nat) × va_W) => ckKept N stf nx cf2 n2 wk2 tr2 di2 fo2 v sdf2 twf2 shf2 wof2 u.1 u.2) (fun (u : (Nat → Option Nat) × va_W) => ([(hs, .inr (2, [.ref sts, .int (nI ((nx + 1) % 20)), .int (nI (min (hc + 1) 20))])), (sts, .inl (N.2 2, 20, .inr (.inr (.inr (.inr u.1))))), (sa2, .inr (6, [.ref a2, .ref ra2])), (a2, .inr (0, [.ref fl2, .ref wi2, .ref nr2])), (fl2, .inr (1, [.ref t2, .int (nI cf2)])), (t2, .inl (N.2 0, 64, .inl tr2)), (wi2, .inr (8, [.ref d2, .ref f2])), (d2, .inl (N.2 0, 80, .inl di2)), (f2, .inl (N.2 0, 80, .inl fo2)), (nr2, .inl (N.2 0, 8, .inl ne2)), (ra2, .inr (4, [.ref b2, .ref sd2, .ref tw2, .ref sh2, .ref wo2, .int (nI n2), .int wk2])), (b2, .inr (9, [.ref lw2, .ref gw2, .int (nI n2)])), (lw2, .inl (N.2 0, 5, .inl lf2)), (gw2, .inl (N.2 0, 300, .inl gf2)), (sd2, .inl (N.2 0, 5, .inl sdf2)), (tw2, .inl (N.2 0, 25, .inl twf2)), (sh2, .inl (N.2 0, 5, .inl shf2)), (wo2, .inl (N.2 0, 5, .inl wof2))] ++ u.2)) := by
  rcases hsl with ⟨ho, rfl⟩ | ⟨ad, c, cf, n, wk, ho, rfl⟩
  · rw [List.append_nil]
    refine ckV.conv (c_X2_keep_n l N hs sts nx hc stf sa2 a2 fl2 t2 wi2 d2 f2 nr2 tr2 di2 fo2 ne2 cf2 ra2 b2 lw2 gw2 sd2 tw2 sh2 wo2 lf2 gf2 sdf2 twf2 shf2 wof2 n2 wk2 v hv hn hnx hhc ho) ?_
    rintro ⟨sa, a, fl, t, wi, d, f, nr, ra, b, lw, gw, sd, tw, sh, wo, ne, tr3, di3, fo3, lf3, gf3, sdf3, twf3, shf3, wof3⟩ hp
    exact ⟨(va_up stf nx (some sa), tSt N (fun k => match k with | 0 => sa | 1 => a | 2 => fl | 3 => t | 4 => wi | 5 => d | 6 => f | 7 => nr | 8 => ra | 9 => b | 10 => lw | 11 => gw | 12 => sd | 13 => tw | 14 => sh | _ => wo) (fun k => match k with | 0 => tr3 | 1 => di3 | 2 => fo3 | 3 => ne | 4 => lf3 | 5 => gf3 | 6 => sdf3 | 7 => twf3 | 8 => shf3 | _ => wof3) cf2 n2 wk2), ⟨(fun k => match k with | 0 => sa | 1 => a | 2 => fl | 3 => t | 4 => wi | 5 => d | 6 => f | 7 => nr | 8 => ra | 9 => b | 10 => lw | 11 => gw | 12 => sd | 13 => tw | 14 => sh | _ => wo), (fun k => match k with | 0 => tr3 | 1 => di3 | 2 => fo3 | 3 => ne | 4 => lf3 | 5 => gf3 | 6 => sdf3 | 7 => twf3 | 8 => shf3 | _ => wof3), rfl, rfl, hp⟩, rfl⟩
  · refine ckV.conv (c_X2_keep_o l N hs sts nx hc stf (ad 0) (ad 1) (ad 2) (ad 3) (ad 4) (ad 5) (ad 6) (ad 7) (c 0) (c 1) (c 2) (c 3) cf (ad 8) (ad 9) (ad 10) (ad 11) (ad 12) (ad 13) (ad 14) (ad 15) (c 4) (c 5) (c 6) (c 7) (c 8) (c 9) n wk sa2 a2 fl2 t2 wi2 d2 f2 nr2 tr2 di2 fo2 ne2 cf2 ra2 b2 lw2 gw2 sd2 tw2 sh2 wo2 lf2 gf2 sdf2 twf2 shf2 wof2 n2 wk2 v hv hn hnx hhc ho) ?_
    rintro ⟨tr3, di3, fo3, lf3, gf3, sdf3, twf3, shf3, wof3⟩ hp
    have he : stf = va_up stf nx (some (ad 0)) := by
      funext k
      by_cases hk : k = nx
      · rw [hk, ho]; exact (if_pos rfl).symm
      · exact (if_neg hk).symm
    exact ⟨(stf, tSt N ad (fun k => match k with | 0 => tr3 | 1 => di3 | 2 => fo3 | 3 => c 3 | 4 => lf3 | 5 => gf3 | 6 => sdf3 | 7 => twf3 | 8 => shf3 | _ => wof3) cf2 n2 wk2), ⟨ad, (fun k => match k with | 0 => tr3 | 1 => di3 | 2 => fo3 | 3 => c 3 | 4 => lf3 | 5 => gf3 | 6 => sdf3 | 7 => twf3 | 8 => shf3 | _ => wof3), he, rfl, hp⟩, rfl⟩
