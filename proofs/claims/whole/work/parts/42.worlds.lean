/-! worlds of the law: some cells of known shape and twenty places that are kept -/
def up1 {T : Type} (f : Nat → T) (k : Nat) (v : T) : Nat → T := fun j => if j = k then v else f j
theorem up1_at {T : Type} {f : Nat → T} {k : Nat} {v : T} : up1 f k v k = v := if_pos rfl
theorem up1_ne {T : Type} {f : Nat → T} {k j : Nat} {v : T} (h : j ≠ k) : up1 f k v j = f j := if_neg h
theorem up1_self {T : Type} (f : Nat → T) (k : Nat) : up1 f k (f k) = f := by
  funext j
  by_cases h : j = k
  · rw [h, up1_at]
  · rw [up1_ne h]
def ckPick (ws : va_W) (is : List Nat) : va_W := is.filterMap (fun i => ws[i]?)
theorem ckPick_map {ws : va_W} : ∀ {is : List Nat}, (∀ i ∈ is, i < ws.length) → is.map (fun i => ws[i]?) = (ckPick ws is).map some
  | [], _ => rfl
  | i :: is, h => by
    have hi : i < ws.length := h i List.mem_cons_self
    have h2 := ckPick_map (ws := ws) (is := is) (fun j hj => h j (List.mem_cons_of_mem _ hj))
    have h3 : ckPick ws (i :: is) = ws[i] :: ckPick ws is := by
      rw [ckPick, List.filterMap_cons, List.getElem?_eq_getElem hi]
      rfl
    rw [List.map_cons, h2, h3, List.map_cons, List.getElem?_eq_getElem hi]
theorem ck_range_map (ws : va_W) : (List.range ws.length).map (fun i => ws[i]?) = ws.map some := by
  apply List.ext_getElem?
  intro k
  rw [List.getElem?_map, List.getElem?_map]
  by_cases hk : k < ws.length
  · rw [List.getElem?_range hk]
    show some (ws[k]?) = _
    rw [List.getElem?_eq_getElem hk]
    rfl
  · rw [List.getElem?_eq_none (by rw [List.length_range]; omega), List.getElem?_eq_none (by omega)]
    rfl
theorem ck_pm {ws w : va_W} {is : List Nat} (hp : is.Perm (List.range ws.length)) (h : is.map (fun i => ws[i]?) = w.map some) : w.Perm ws := by
  have h1 := hp.filterMap (fun i => ws[i]?)
  rw [ck_fmap h, ck_fmap (ck_range_map ws)] at h1
  exact h1
/-- the left one of two worlds, the right one is left -/
theorem ckX_L (wa wb : va_W) : ckX (wa ++ wb) wa wb (List.range wa.length) (ckTl wa wb) :=
  ⟨⟨ck_map_app (ck_range_map wa), ckTl_map wa wb⟩, (ck_nd_iff _).mpr List.nodup_range, (ck_nd_iff _).mpr (ckTl_nd wa wb), fun i hi hj => by
    have h1 := ckTl_ge i hi
    have h2 := List.mem_range.mp hj
    omega⟩
def SL (sl : Nat → va_W) : va_W := (List.range 20).flatMap sl
def SLr (sl : Nat → va_W) (k : Nat) : va_W := ((List.range 20).filter (fun j => decide (j ≠ k))).flatMap sl
theorem flat_cg {f g : Nat → va_W} : ∀ {l : List Nat}, (∀ j ∈ l, f j = g j) → l.flatMap f = l.flatMap g
  | [], _ => rfl
  | a :: l, h => by
    rw [List.flatMap_cons, List.flatMap_cons, h a List.mem_cons_self, flat_cg (fun j hj => h j (List.mem_cons_of_mem _ hj))]
theorem flat_perm {sl : Nat → va_W} {k : Nat} : ∀ {l : List Nat}, l.Nodup → k ∈ l → (l.flatMap sl).Perm (sl k ++ (l.filter (fun j => decide (j ≠ k))).flatMap sl)
  | [], _, h => by cases h
  | a :: l, hn, h => by
    obtain ⟨n1, n2⟩ := List.nodup_cons.mp hn
    by_cases ha : a = k
    · subst ha
      have e : (a :: l).filter (fun j => decide (j ≠ a)) = l := by
        rw [List.filter_cons_of_neg (by simp)]
        exact List.filter_eq_self.mpr (fun j hj => decide_eq_true (fun q => n1 (q ▸ hj)))
      rw [e, List.flatMap_cons]
    · have hl : k ∈ l := by
        rcases List.mem_cons.mp h with q | q
        · exact absurd q.symm ha
        · exact q
      have e : (a :: l).filter (fun j => decide (j ≠ k)) = a :: l.filter (fun j => decide (j ≠ k)) := List.filter_cons_of_pos (decide_eq_true ha)
      rw [e, List.flatMap_cons, List.flatMap_cons]
      refine ((flat_perm n2 hl).append_left (sl a)).trans ?_
      rw [← List.append_assoc, ← List.append_assoc]
      exact List.perm_append_comm.append_right _
theorem SL_perm {sl : Nat → va_W} {k : Nat} (hk : k < 20) : (SL sl).Perm (sl k ++ SLr sl k) := flat_perm List.nodup_range (List.mem_range.mpr hk)
theorem SLr_up {sl : Nat → va_W} {k : Nat} {ex : va_W} : SLr (up1 sl k ex) k = SLr sl k :=
  flat_cg (fun j hj => up1_ne (of_decide_eq_true (List.mem_filter.mp hj).2))

theorem ckX_pick {ws wc : va_W} {isC isR : List Nat} {n : Nat} (hn : ws.length = n) (hp : (isC ++ isR).isPerm (List.range n) = true) (hC : isC.map (fun i => ws[i]?) = wc.map some) : ckX ws wc (ckPick ws isR) isC isR := by
  have h1 : (isC ++ isR).Perm (List.range n) := List.isPerm_iff.mp hp
  have h2 : (isC ++ isR).Nodup := h1.nodup_iff.mpr List.nodup_range
  obtain ⟨n1, n2, n3⟩ := List.nodup_append.mp h2
  refine ⟨⟨hC, ckPick_map (fun i hi => ?_)⟩, (ck_nd_iff _).mpr n1, (ck_nd_iff _).mpr n2, fun i hi hj => n3 i hj i hi rfl⟩
  have h3 := h1.mem_iff.mp (List.mem_append_right isC hi)
  rw [hn]
  exact List.mem_range.mp h3
theorem ck_put {ws ws' wc' : va_W} {isC isR : List Nat} {n : Nat} (hn : ws.length = n) (hp : (isC ++ isR).isPerm (List.range n) = true) (h1 : isC.map (fun i => ws'[i]?) = wc'.map some) (h2 : isR.map (fun i => ws'[i]?) = isR.map (fun i => ws[i]?)) (h3 : ws'.length = ws.length) : (wc' ++ ckPick ws isR).Perm ws' := by
  have h4 : (isC ++ isR).Perm (List.range n) := List.isPerm_iff.mp hp
  refine ck_pm (is := isC ++ isR) (by rw [h3, hn]; exact h4) ?_
  rw [List.map_append, List.map_append, h1, h2, ckPick_map (fun i hi => ?_)]
  have h5 := h4.mem_iff.mp (List.mem_append_right isC hi)
  rw [hn]
  exact List.mem_range.mp h5
/-- a contract over some cells holds over the whole world: a tail that is not touched -/
theorem ckI.liftR {S S' : Type} {l : Launch} {y : MethodName} {cc : ByteArray} {maxL : Nat} {ret : Option FieldType} {rm : Room} {N : ckN} {av : List Value} {ws wc rs : va_W} {post : Int32 → S → Prop} {w1 : S → va_W} {post' : Int32 → S' → Prop} {w1' : S' → va_W} {n : Nat} (isC isR : List Nat) (h : ckI l y cc maxL ret rm N av wc post w1) (hn : ws.length = n) (hp : (isC ++ isR).isPerm (List.range n) = true) (hC : isC.map (fun i => ws[i]?) = wc.map some)
    (hc : ∀ r u, post r u → ∃ (u' : S') (ws' : va_W), post' r u' ∧ isC.map (fun i => ws'[i]?) = (w1 u).map some ∧ isR.map (fun i => ws'[i]?) = isR.map (fun i => ws[i]?) ∧ ws'.length = ws.length ∧ w1' u' = ws' ++ rs) : ckI l y cc maxL ret rm N av (ws ++ rs) post' w1' := by
  refine ckI.cv (h.frame (ckX_r (ex := rs) (ckX_pick hn hp hC))) (List.Perm.refl _) (fun r u hq => ?_)
  obtain ⟨u', ws', a1, a2, a3, a4, a5⟩ := hc r u hq
  refine ⟨u', a1, ?_⟩
  rw [a5]
  refine List.perm_append_comm.trans ?_
  rw [← List.append_assoc]
  exact (ck_put hn hp a2 a3 a4).append_right rs
/-- the same, with one place of the kept ones -/
theorem ckI.liftA {S S' : Type} {l : Launch} {y : MethodName} {cc : ByteArray} {maxL : Nat} {ret : Option FieldType} {rm : Room} {N : ckN} {av : List Value} {ws wc : va_W} {sl : Nat → va_W} {post : Int32 → S → Prop} {w1 : S → va_W} {post' : Int32 → S' → Prop} {w1' : S' → va_W} {n k : Nat} {ex : va_W} (isC isR : List Nat) (hk : k < 20) (hex : sl k = ex) (h : ckI l y cc maxL ret rm N av (wc ++ ex) post w1) (hn : ws.length = n) (hp : (isC ++ isR).isPerm (List.range n) = true) (hC : isC.map (fun i => ws[i]?) = wc.map some)
    (hc : ∀ r u, post r u → ∃ (u' : S') (ws' wc' ex' : va_W), post' r u' ∧ w1 u = wc' ++ ex' ∧ isC.map (fun i => ws'[i]?) = wc'.map some ∧ isR.map (fun i => ws'[i]?) = isR.map (fun i => ws[i]?) ∧ ws'.length = ws.length ∧ w1' u' = ws' ++ SL (up1 sl k ex')) : ckI l y cc maxL ret rm N av (ws ++ SL sl) post' w1' := by
  subst hex
  refine ckI.cv (h.frame (ckX_r (ex := SLr sl k) (ckX_t (ex := sl k) (ckX_pick hn hp hC)))) ?_ (fun r u hq => ?_)
  · rw [List.append_assoc]
    exact (SL_perm hk).append_left ws
  · obtain ⟨u', ws', wc', ex', a1, a0, a2, a3, a4, a5⟩ := hc r u hq
    refine ⟨u', a1, ?_⟩
    rw [a5, a0]
    have e1 : (SL (up1 sl k ex')).Perm (ex' ++ SLr sl k) := by
      have := SL_perm (sl := up1 sl k ex') hk
      rw [up1_at, SLr_up] at this
      exact this
    refine List.Perm.trans ?_ (((ck_put hn hp a2 a3 a4).append_right _).trans (e1.symm.append_left ws'))
    refine List.perm_append_comm.trans ?_
    rw [List.append_assoc, List.append_assoc]
    refine List.Perm.append_left wc' ?_
    rw [← List.append_assoc, ← List.append_assoc]
    exact List.perm_append_comm.append_right _
/-- the same, with no tail -/
theorem ckI.liftM {S S' : Type} {l : Launch} {y : MethodName} {cc : ByteArray} {maxL : Nat} {ret : Option FieldType} {rm : Room} {N : ckN} {av : List Value} {ws wc : va_W} {post : Int32 → S → Prop} {w1 : S → va_W} {post' : Int32 → S' → Prop} {w1' : S' → va_W} {n : Nat} (isC isR : List Nat) (h : ckI l y cc maxL ret rm N av wc post w1) (hn : ws.length = n) (hp : (isC ++ isR).isPerm (List.range n) = true) (hC : isC.map (fun i => ws[i]?) = wc.map some)
    (hc : ∀ r u, post r u → ∃ (u' : S') (ws' : va_W), post' r u' ∧ isC.map (fun i => ws'[i]?) = (w1 u).map some ∧ isR.map (fun i => ws'[i]?) = isR.map (fun i => ws[i]?) ∧ ws'.length = ws.length ∧ w1' u' = ws') : ckI l y cc maxL ret rm N av ws post' w1' := by
  have h2 := ckI.liftR (rs := []) (post' := post') (w1' := w1') isC isR h hn hp hC (fun r u q => by
    obtain ⟨u', ws', a1, a2, a3, a4, a5⟩ := hc r u q
    exact ⟨u', ws', a1, a2, a3, a4, by rw [List.append_nil]; exact a5⟩)
  rw [List.append_nil] at h2
  exact h2

/-- the class's cells, the kept states apart -/
def CF (N : ckN) (ad : Nat → Nat) (shp : Nat → Option Nat) (c ch cs : Nat → Nat → Int32) (nn bt ct ns : Nat → Nat) (ii : Nat → Int32) (stf : Nat → Option Nat) : va_W := [((ad 0), .inr (10, [.ref (ad 3), .ref (ad 1), .ref (ad 19), .ref (ad 28), .ref (ad 30), .ref (ad 32), .ref (ad 35), .int (ii 1)])), ((ad 1), .inr (2, [.ref (ad 2), .int (nI (nn 2)), .int (nI (nn 3))])), ((ad 2), .inl (N.2 2, 20, .inr (.inr (.inr (.inr stf))))), ((ad 3), .inr (6, [.ref (ad 4), .ref (ad 11)])), ((ad 4), .inr (0, [.ref (ad 5), .ref (ad 7), .ref (ad 10)])), ((ad 5), .inr (1, [.ref (ad 6), .int (nI (nn 0))])), ((ad 6), .inl (N.2 0, 64, .inl (c 0))), ((ad 7), .inr (8, [.ref (ad 8), .ref (ad 9)])), ((ad 8), .inl (N.2 0, 80, .inl (c 1))), ((ad 9), .inl (N.2 0, 80, .inl (c 2))), ((ad 10), .inl (N.2 0, 8, .inl (c 3))), ((ad 11), .inr (4, [.ref (ad 12), .ref (ad 15), .ref (ad 16), .ref (ad 17), .ref (ad 18), .int (nI (nn 1)), .int (ii 0)])), ((ad 12), .inr (9, [.ref (ad 13), .ref (ad 14), .int (nI (nn 1))])), ((ad 13), .inl (N.2 0, 5, .inl (c 4))), ((ad 14), .inl (N.2 0, 300, .inl (c 5))), ((ad 15), .inl (N.2 0, 5, .inl (c 6))), ((ad 16), .inl (N.2 0, 25, .inl (c 7))), ((ad 17), .inl (N.2 0, 5, .inl (c 8))), ((ad 18), .inl (N.2 0, 5, .inl (c 9))), ((ad 19), .inl (N.2 1, 4, .inr (.inr (.inr (.inr shp))))), ((ad 20), .inr (5, [.ref (ad 21), .int (nI (bt 0)), .int (nI (ct 0))])), ((ad 21), .inl (N.2 0, 40, .inl (ch 0))), ((ad 22), .inr (5, [.ref (ad 23), .int (nI (bt 1)), .int (nI (ct 1))])), ((ad 23), .inl (N.2 0, 40, .inl (ch 1))), ((ad 24), .inr (5, [.ref (ad 25), .int (nI (bt 2)), .int (nI (ct 2))])), ((ad 25), .inl (N.2 0, 40, .inl (ch 2))), ((ad 26), .inr (5, [.ref (ad 27), .int (nI (bt 3)), .int (nI (ct 3))])), ((ad 27), .inl (N.2 0, 40, .inl (ch 3))), ((ad 28), .inr (3, [.ref (ad 29), .int (ii 2)])), ((ad 29), .inl (N.2 0, 180, .inl (cs 0))), ((ad 30), .inr (7, [.ref (ad 31)])), ((ad 31), .inl (N.2 0, 3, .inl (cs 1))), ((ad 32), .inr (9, [.ref (ad 33), .ref (ad 34), .int (nI (ns 0))])), ((ad 33), .inl (N.2 0, 5, .inl (cs 2))), ((ad 34), .inl (N.2 0, 300, .inl (cs 3))), ((ad 35), .inr (9, [.ref (ad 36), .ref (ad 37), .int (nI (ns 1))])), ((ad 36), .inl (N.2 0, 5, .inl (cs 4))), ((ad 37), .inl (N.2 0, 300, .inl (cs 5)))]
abbrev CW (N : ckN) (ad : Nat → Nat) (shp : Nat → Option Nat) (c ch cs : Nat → Nat → Int32) (nn bt ct ns : Nat → Nat) (ii : Nat → Int32) (stf : Nat → Option Nat) (sl : Nat → va_W) : va_W := CF N ad shp c ch cs nn bt ct ns ii stf ++ SL sl
abbrev ckCR : Type := (Nat → Nat → Int32) × (Nat → Nat → Int32) × (Nat → Nat → Int32) × (Nat → Nat) × (Nat → Nat) × (Nat → Nat) × (Nat → Nat) × (Nat → Int32) × (Nat → Option Nat) × (Nat → va_W)
abbrev ckMR : Type := (Nat → Nat → Int32) × Nat × Nat × Int32 × Nat
abbrev CWu (N : ckN) (ad : Nat → Nat) (shp : Nat → Option Nat) (u : ckCR) : va_W := CW N ad shp u.1 u.2.1 u.2.2.1 u.2.2.2.1 u.2.2.2.2.1 u.2.2.2.2.2.1 u.2.2.2.2.2.2.1 u.2.2.2.2.2.2.2.1 u.2.2.2.2.2.2.2.2.1 u.2.2.2.2.2.2.2.2.2
abbrev MWu (N : ckN) (am : Nat → Nat) (v : ckMR) : va_W := MW N am v.1 v.2.1 v.2.2.1 v.2.2.2.1 v.2.2.2.2
/-! what holds between two calls, of both objects -/
def JS (c : Nat → Nat → Int32) (cf n : Nat) (wk : Int32) (w : Nat → List Nat) (nw : Nat → Int32) : Prop := ckWd (c 4) (c 5) n w ∧ iA cf (c 0) (c 1) (c 2) ∧ iR n w (c 6) ∧ mV nw cf n wk (c 0) (c 1) (c 2) w (c 6) (c 9) (c 8) (c 7)
def JK (N : ckN) (stf : Nat → Option Nat) (sl : Nat → va_W) (kp : Nat → Int32) (nx hc : Nat) : Prop := (∀ k, k < 20 → ckSlot N (stf k) (sl k)) ∧ ∀ d, d < hc → ∃ (ad : Nat → Nat) (c : Nat → Nat → Int32) (cf n : Nat) (wk : Int32) (w : Nat → List Nat), stf (back nx d) = some (ad 0) ∧ sl (back nx d) = tSt N ad c cf n wk ∧ JS c cf n wk w (fun j => kp (572 * back nx d + j))
def JH (ad : Nat → Nat) (shp : Nat → Option Nat) (ch : Nat → Nat → Int32) (bt ct : Nat → Nat) (sb sz st : Nat → Int32) : Prop := ∀ s, s < 4 → shp s = some (ad (20 + 2 * s)) ∧ ct s ≤ 40 ∧ (bt s = 0 ∨ bt s = 8 ∨ bt s = 16 ∨ bt s = 32) ∧ sb s = nI (bt s) ∧ sz s = nI (ct s) ∧ ∀ k, k < ct s → st (40 * s + k) = ch s k
def Jv (N : ckN) (ad : Nat → Nat) (shp : Nat → Option Nat) (c ch : Nat → Nat → Int32) (nn bt ct : Nat → Nat) (ii : Nat → Int32) (stf : Nat → Option Nat) (sl : Nat → va_W) (w : Nat → List Nat) (cm : Nat → Nat → Int32) : Prop :=
  JS c (nn 0) (nn 1) (ii 0) w (cm 0) ∧ JK N stf sl (cm 1) (nn 2) (nn 3) ∧ JH ad shp ch bt ct (cm 2) (cm 3) (cm 4) ∧ (nn 2 < 20 ∧ nn 3 ≤ 20) ∧ (∀ j, j < 8 → cm 5 j = ckSX j) ∧ ∀ j, j < 8 → cm 6 j = ckSY j
theorem iA_cg {cf : Nat} {tr di fo tr' di' fo' : Nat → Int32} (h : iA cf tr di fo) (h1 : ∀ j, j < 64 → tr' j = tr j) (h2 : ∀ j, j < 80 → di' j = di j) (h3 : ∀ j, j < 80 → fo' j = fo j) : iA cf tr' di' fo' := by
  obtain ⟨a, b, c, d, e⟩ := h
  refine ⟨a, fun i hi => ?_, fun i k hi hk => ?_, fun j hj => ?_, fun j hj => ?_⟩
  · rw [h1 _ (by omega), h1 _ (by omega)]; exact b i hi
  · rw [h1 _ (by omega)]; exact c i k hi hk
  · rw [h2 j hj]; exact d j hj
  · rw [h3 j hj]; exact e j hj
theorem iR_cg {n : Nat} {w : Nat → List Nat} {sdf sdf' : Nat → Int32} (h : iR n w sdf) (h1 : ∀ j, j < 5 → sdf' j = sdf j) : iR n w sdf' :=
  ⟨h.1, h.2.1, h.2.2.1, fun k hk => by rw [h1 k hk]; exact h.2.2.2 k hk⟩
/-- a state whose contents are those of another -/
theorem JS_cg {c c' : Nat → Nat → Int32} {cf n : Nat} {wk : Int32} {w : Nat → List Nat} {nw nw' : Nat → Int32} (h : JS c cf n wk w nw) (hw : ckWd (c' 4) (c' 5) n w) (h0 : ∀ j, j < 64 → c' 0 j = c 0 j) (h1 : ∀ j, j < 80 → c' 1 j = c 1 j) (h2 : ∀ j, j < 80 → c' 2 j = c 2 j) (h6 : ∀ j, j < 5 → c' 6 j = c 6 j) (h7 : ∀ j, j < 25 → c' 7 j = c 7 j) (h8 : ∀ j, j < 5 → c' 8 j = c 8 j) (h9 : ∀ j, j < 5 → c' 9 j = c 9 j) (hv : ∀ k, k < 572 → nw' k = nw k) : JS c' cf n wk w nw' :=
  ⟨hw, iA_cg h.2.1 h0 h1 h2, iR_cg h.2.2.1 h6, mV_view (mV_congr h.2.2.2 h.2.2.1.2.1 hv) h0 h1 h2 h6 h9 h8 h7⟩
/-- a state is kept -/
theorem JK_keep {N : ckN} {stf stf2 : Nat → Option Nat} {sl : Nat → va_W} {ex2 : va_W} {kp nw : Nat → Int32} {nx hc : Nat} {c : Nat → Nat → Int32} {cf n : Nat} {wk : Int32} {w : Nat → List Nat} (h : JK N stf sl kp nx hc) (hnx : nx < 20) (hs : JS c cf n wk w nw) (hk : ckKept N stf nx cf n wk (c 0) (c 1) (c 2) w (c 6) (c 7) (c 8) (c 9) stf2 ex2) : JK N stf2 (up1 sl nx ex2) (guT kp (572 * nx) nw 572) ((nx + 1) % 20) (min (hc + 1) 20) := by
  obtain ⟨ad, c', e1, e2, e3⟩ := hk
  have en : stf2 nx = some (ad 0) := by rw [e1]; exact if_pos rfl
  have eo : ∀ k, k ≠ nx → stf2 k = stf k := fun k hk => by rw [e1]; exact if_neg hk
  refine ⟨fun k hk => ?_, fun d hd => ?_⟩
  · by_cases hkn : k = nx
    · subst hkn
      rw [up1_at]
      exact Or.inr ⟨ad, c', cf, n, wk, en, e2⟩
    · rw [up1_ne hkn, eo k hkn]
      exact h.1 k hk
  · by_cases hd0 : d = 0
    · subst hd0
      have eb : back ((nx + 1) % 20) 0 = nx := by show ((nx + 1) % 20 + 20 - 1 - 0) % 20 = nx; omega
      rw [eb]
      refine ⟨ad, c', cf, n, wk, w, en, by rw [up1_at]; exact e2, ?_⟩
      obtain ⟨g0, g1, g2, gw, g6, g7, g8, g9⟩ := e3
      exact JS_cg hs gw g0 g1 g2 g6 g7 g8 g9 (fun j hj => (show guT kp (572 * nx) nw 572 (572 * nx + j) = nw j from (guT_in (by omega)).trans (congrArg nw (by omega))))
    · have eb : back ((nx + 1) % 20) d = back nx (d - 1) := by show ((nx + 1) % 20 + 20 - 1 - d) % 20 = (nx + 20 - 1 - (d - 1)) % 20; omega
      have hne : back nx (d - 1) ≠ nx := by show (nx + 20 - 1 - (d - 1)) % 20 ≠ nx; omega
      obtain ⟨ad2, c2, cf2, n2, wk2, w2, a1, a2, a3⟩ := h.2 (d - 1) (by omega)
      rw [eb]
      refine ⟨ad2, c2, cf2, n2, wk2, w2, by rw [eo _ hne]; exact a1, by rw [up1_ne hne]; exact a2, ?_⟩
      exact JS_cg a3 a3.1 (fun _ _ => rfl) (fun _ _ => rfl) (fun _ _ => rfl) (fun _ _ => rfl) (fun _ _ => rfl) (fun _ _ => rfl) (fun _ _ => rfl) (fun j hj => (show guT kp (572 * nx) nw 572 (572 * back nx (d - 1) + j) = kp (572 * back nx (d - 1) + j) from guT_out (by omega)))
/-- a kept state comes back -/
theorem JK_back {N : ckN} {stf : Nat → Option Nat} {sl : Nat → va_W} {kp : Nat → Int32} {nx hc : Nat} (h : JK N stf sl kp nx hc) (hnx : nx < 20) (hhc : hc ≤ 20) : JK N stf sl kp ((nx + 20 - 1) % 20) (hc - 1) := by
  refine ⟨h.1, fun d hd => ?_⟩
  have eb : back ((nx + 20 - 1) % 20) d = back nx (d + 1) := by show ((nx + 20 - 1) % 20 + 20 - 1 - d) % 20 = (nx + 20 - 1 - (d + 1)) % 20; omega
  rw [eb]
  exact h.2 (d + 1) (by omega)
