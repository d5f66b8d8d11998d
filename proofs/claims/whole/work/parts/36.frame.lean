/-! contracts over a greater world -/
theorem ck_fmap {ws : va_W} : ∀ {is : List Nat} {w : va_W}, is.map (fun i => ws[i]?) = w.map some → is.filterMap (fun i => ws[i]?) = w := by
  intro is
  induction is with
  | nil =>
    intro w hw
    cases w with
    | nil => rfl
    | cons x w => cases hw
  | cons i is ih =>
    intro w hw
    cases w with
    | nil => cases hw
    | cons x w =>
      rw [List.map_cons, List.map_cons] at hw
      injection hw with h2 h3
      rw [List.filterMap_cons, h2, ih h3]
theorem ck_subA {ws wc : va_W} {isC : List Nat} {sz : Nat} (h : isC.map (fun i => ws[i]?) = wc.map some) : ∀ q, va_A wc sz q → va_A ws sz q := by
  intro q hq
  rcases hq with ⟨k, e, hk⟩ | hq
  · have h1 : (isC.map (fun i => ws[i]?))[k]? = some (some (q, e)) := by rw [h, List.getElem?_map, hk]; rfl
    rw [List.getElem?_map] at h1
    cases hi : isC[k]? with
    | none => rw [hi] at h1; cases h1
    | some i => rw [hi] at h1; exact Or.inl ⟨i, e, Option.some.inj h1⟩
  · exact Or.inr hq
theorem ck_permA {w w' : va_W} {sz : Nat} (h : w'.Perm w) (q : Nat) : va_A w' sz q ↔ va_A w sz q := by
  constructor
  · rintro (⟨k, e, hk⟩ | hq)
    · obtain ⟨i, hi⟩ := List.getElem?_of_mem (h.mem_iff.mp (List.mem_of_getElem? hk))
      exact Or.inl ⟨i, e, hi⟩
    · exact Or.inr hq
  · rintro (⟨k, e, hk⟩ | hq)
    · obtain ⟨i, hi⟩ := List.getElem?_of_mem (h.mem_iff.mpr (List.mem_of_getElem? hk))
      exact Or.inl ⟨i, e, hi⟩
    · exact Or.inr hq
theorem ckI.frame {S : Type} {l : Launch} {y : MethodName} {cc : ByteArray} {maxL : Nat} {ret : Option FieldType} {rm : Room} {N : ckN} {av : List Value} {ws wc wr : va_W} {post : Int32 → S → Prop} {w1 : S → va_W} {isC isR : List Nat} (h : ckI l y cc maxL ret rm N av wc post w1) (X : ckX ws wc wr isC isR) : ckI l y cc maxL ret rm N av ws post (fun u => wr ++ w1 u) := by
  intro sz
  have hsub := ck_subA (sz := sz) X.1.1
  refine Jvm.Free.MetFree.mono (h sz) (fun a s q => ?_) (fun _ _ _ _ _ q => q) (fun a s o t hp q => ?_)
  · obtain ⟨h0, h1, h2, h3, h4⟩ := q
    exact ⟨h0, h1, ⟨h2.1, h2.2.1, h2.2.2.1, h2.2.2.2.1, h2.2.2.2.2.1, h2.2.2.2.2.2.narrow hsub⟩, h3.sub isC (ck_fmap X.1.1), h4.sub isC X.2.1 X.1.1⟩
  · obtain ⟨h0, h1, h2, h3, h4⟩ := hp
    obtain ⟨⟨⟨r, u, g1, g2, g3, g4⟩, g5⟩, L, g6, g7⟩ := q
    have hDA : va_D (va_A ws sz) ws := h4.weaken (fun k q hk _ => va_A.in hk)
    subst h1
    obtain ⟨j1, j2⟩ := va_join (wr := wr) (w1 := w1 u) h3 hDA isC isR X.1.1 X.1.2 X.2.2.1 X.2.2.2 g5.2 hsub g3 g4
    exact ⟨⟨⟨r, u, g1, g2, j1, j2⟩, g5.1, fun q h5 h6 => g5.2 q h5 (fun h7 => h6 (hsub q h7))⟩, L, g6, fun q hq => hsub _ (g7 q hq)⟩
theorem ckI.cv {S S' : Type} {l : Launch} {y : MethodName} {cc : ByteArray} {maxL : Nat} {ret : Option FieldType} {rm : Room} {N : ckN} {av : List Value} {w0 w0' : va_W} {post : Int32 → S → Prop} {w1 : S → va_W} {post' : Int32 → S' → Prop} {w1' : S' → va_W} (h : ckI l y cc maxL ret rm N av w0 post w1) (h0 : w0'.Perm w0) (hc : ∀ r u, post r u → ∃ u', post' r u' ∧ (w1 u).Perm (w1' u')) : ckI l y cc maxL ret rm N av w0' post' w1' := by
  intro sz
  have hsub := fun q => (ck_permA (sz := sz) h0 q).mpr
  have hsub2 := fun q => (ck_permA (sz := sz) h0 q).mp
  refine Jvm.Free.MetFree.mono (h sz) (fun a s q => ?_) (fun _ _ _ _ _ q => q) (fun a s o t hp q => ?_)
  · obtain ⟨k0, k1, h2, h3, h4⟩ := q
    exact ⟨k0, k1, ⟨h2.1, h2.2.1, h2.2.2.1, h2.2.2.2.1, h2.2.2.2.2.1, h2.2.2.2.2.2.narrow hsub⟩, ck_P_perm h0 h3, ck_D_perm h0 h4⟩
  · obtain ⟨⟨⟨r, u, g1, g2, g3, g4⟩, g5⟩, L, g6, g7⟩ := q
    obtain ⟨u', c1, c2⟩ := hc r u g2
    exact ⟨⟨⟨r, u', g1, c1, ck_P_perm c2 g3, (ck_D_perm c2 g4).weaken (fun _ q _ hq => hsub _ hq)⟩, g5.1, fun q h5 h6 => g5.2 q h5 (fun h7 => h6 (hsub q h7))⟩, L, g6, fun q hq => hsub _ (g7 q hq)⟩
theorem ckV.frame {S : Type} {l : Launch} {y : MethodName} {cc : ByteArray} {maxL : Nat} {ret : Option FieldType} {rm : Room} {N : ckN} {av : List Value} {ws wc wr : va_W} {post : S → Prop} {w1 : S → va_W} {isC isR : List Nat} (h : ckV l y cc maxL ret rm N av wc post w1) (X : ckX ws wc wr isC isR) : ckV l y cc maxL ret rm N av ws post (fun u => wr ++ w1 u) := by
  intro sz
  have hsub := ck_subA (sz := sz) X.1.1
  refine Jvm.Free.MetFree.mono (h sz) (fun a s q => ?_) (fun _ _ _ _ _ q => q) (fun a s o t hp q => ?_)
  · obtain ⟨h0, h1, h2, h3, h4⟩ := q
    exact ⟨h0, h1, ⟨h2.1, h2.2.1, h2.2.2.1, h2.2.2.2.1, h2.2.2.2.2.1, h2.2.2.2.2.2.narrow hsub⟩, h3.sub isC (ck_fmap X.1.1), h4.sub isC X.2.1 X.1.1⟩
  · obtain ⟨h0, h1, h2, h3, h4⟩ := hp
    obtain ⟨⟨⟨u, g1, g2, g3, g4⟩, g5⟩, L, g6, g7⟩ := q
    have hDA : va_D (va_A ws sz) ws := h4.weaken (fun k q hk _ => va_A.in hk)
    subst h1
    obtain ⟨j1, j2⟩ := va_join (wr := wr) (w1 := w1 u) h3 hDA isC isR X.1.1 X.1.2 X.2.2.1 X.2.2.2 g5.2 hsub g3 g4
    exact ⟨⟨⟨u, g1, g2, j1, j2⟩, g5.1, fun q h5 h6 => g5.2 q h5 (fun h7 => h6 (hsub q h7))⟩, L, g6, fun q hq => hsub _ (g7 q hq)⟩
theorem ckV.cv {S S' : Type} {l : Launch} {y : MethodName} {cc : ByteArray} {maxL : Nat} {ret : Option FieldType} {rm : Room} {N : ckN} {av : List Value} {w0 w0' : va_W} {post : S → Prop} {w1 : S → va_W} {post' : S' → Prop} {w1' : S' → va_W} (h : ckV l y cc maxL ret rm N av w0 post w1) (h0 : w0'.Perm w0) (hc : ∀ u, post u → ∃ u', post' u' ∧ (w1 u).Perm (w1' u')) : ckV l y cc maxL ret rm N av w0' post' w1' := by
  intro sz
  have hsub := fun q => (ck_permA (sz := sz) h0 q).mpr
  have hsub2 := fun q => (ck_permA (sz := sz) h0 q).mp
  refine Jvm.Free.MetFree.mono (h sz) (fun a s q => ?_) (fun _ _ _ _ _ q => q) (fun a s o t hp q => ?_)
  · obtain ⟨k0, k1, h2, h3, h4⟩ := q
    exact ⟨k0, k1, ⟨h2.1, h2.2.1, h2.2.2.1, h2.2.2.2.1, h2.2.2.2.2.1, h2.2.2.2.2.2.narrow hsub⟩, ck_P_perm h0 h3, ck_D_perm h0 h4⟩
  · obtain ⟨⟨⟨u, g1, g2, g3, g4⟩, g5⟩, L, g6, g7⟩ := q
    obtain ⟨u', c1, c2⟩ := hc u g2
    exact ⟨⟨⟨u', g1, c1, ck_P_perm c2 g3, (ck_D_perm c2 g4).weaken (fun _ q _ hq => hsub _ hq)⟩, g5.1, fun q h5 h6 => g5.2 q h5 (fun h7 => h6 (hsub q h7))⟩, L, g6, fun q hq => hsub _ (g7 q hq)⟩
