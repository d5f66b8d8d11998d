/-- the end in other words: some of its cells, in another order -/
theorem ckI.cs {S S' : Type} {l : Launch} {y : MethodName} {cc : ByteArray} {maxL : Nat} {ret : Option FieldType} {rm : Room} {N : ckN} {av : List Value} {w0 : va_W} {post : Int32 → S → Prop} {w1 : S → va_W} {post' : Int32 → S' → Prop} {w1' : S' → va_W} (h : ckI l y cc maxL ret rm N av w0 post w1) (hc : ∀ r u, post r u → ∃ (u' : S') (is : List Nat), post' r u' ∧ va_nd is = true ∧ is.map (fun i => (w1 u)[i]?) = (w1' u').map some) : ckI l y cc maxL ret rm N av w0 post' w1' := by
  intro sz
  refine Jvm.Free.MetFree.mono (h sz) (fun a s q => q) (fun _ _ _ _ _ q => q) (fun a s o t hp q => ?_)
  obtain ⟨⟨⟨r, u, g1, g2, g3, g4⟩, g5⟩, L, g6, g7⟩ := q
  obtain ⟨u', is, c1, c2, c3⟩ := hc r u g2
  exact ⟨⟨⟨r, u', g1, c1, g3.sub is (ck_fmap c3), g4.sub is c2 c3⟩, g5⟩, L, g6, g7⟩
/-- the end in other words: some of its cells, in another order -/
theorem ckV.cs {S S' : Type} {l : Launch} {y : MethodName} {cc : ByteArray} {maxL : Nat} {ret : Option FieldType} {rm : Room} {N : ckN} {av : List Value} {w0 : va_W} {post : S → Prop} {w1 : S → va_W} {post' : S' → Prop} {w1' : S' → va_W} (h : ckV l y cc maxL ret rm N av w0 post w1) (hc : ∀ u, post u → ∃ (u' : S') (is : List Nat), post' u' ∧ va_nd is = true ∧ is.map (fun i => (w1 u)[i]?) = (w1' u').map some) : ckV l y cc maxL ret rm N av w0 post' w1' := by
  intro sz
  refine Jvm.Free.MetFree.mono (h sz) (fun a s q => q) (fun _ _ _ _ _ q => q) (fun a s o t hp q => ?_)
  obtain ⟨⟨⟨u, g1, g2, g3, g4⟩, g5⟩, L, g6, g7⟩ := q
  obtain ⟨u', is, c1, c2, c3⟩ := hc u g2
  exact ⟨⟨⟨u', g1, c1, g3.sub is (ck_fmap c3), g4.sub is c2 c3⟩, g5⟩, L, g6, g7⟩
