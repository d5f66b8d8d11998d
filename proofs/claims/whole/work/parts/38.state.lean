/-! the abstract state: what both objects stand for -/
abbrev ckG0 : Type := Nat × Nat × Int32 × (Nat → Int32) × (Nat → Int32) × (Nat → Int32) × (Nat → List Nat) × (Nat → Int32) × (Nat → Int32) × (Nat → Int32) × (Nat → Int32)
def g0V (nw : Nat → Int32) (g : ckG0) : Prop := match g with
  | (cf, n, wk, tr, di, fo, w, sdf, wof, shf, twf) => mV nw cf n wk tr di fo w sdf wof shf twf
def g0ok (g : ckG0) : Prop := match g with
  | (cf, n, _, tr, di, fo, w, sdf, _, _, _) => iA cf tr di fo ∧ iR n w sdf
def fin (F R : Int32) : Int32 := if F = 0 then R else F
def fdn (F fd : Int32) : Int32 := if F = 0 then fd else fd + nI 1
theorem ckRd_fin {F R fd r fd2 : Int32} (h : ckRd F R fd r fd2) : r = fin F R ∧ fd2 = fdn F fd := by
  rcases h with ⟨a, b, c⟩ | ⟨a, b, c⟩
  · rw [fin, fdn, if_pos a, if_pos a]; exact ⟨b, c⟩
  · rw [fin, fdn, if_neg a, if_neg a]; exact ⟨b, c⟩
