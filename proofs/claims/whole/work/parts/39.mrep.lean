/-! the model's cells, and what they stand for -/
def MW (N : ckN) (ad : Nat → Nat) (c : Nat → Nat → Int32) (ke kn : Nat) (fd : Int32) (mn : Nat) : va_W := [((ad 0), .inr (11, [.ref (ad 1), .ref (ad 2), .int (nI ke), .int (nI kn), .int fd, .ref (ad 3), .ref (ad 4), .ref (ad 5), .ref (ad 6), .ref (ad 7), .ref (ad 8), .ref (ad 9), .ref (ad 10), .ref (ad 11), .int (nI mn), .ref (ad 12), .ref (ad 13)])), ((ad 1), .inl (N.2 0, 572, .inl (c 0))), ((ad 2), .inl (N.2 0, 11440, .inl (c 1))), ((ad 3), .inl (N.2 0, 4, .inl (c 2))), ((ad 4), .inl (N.2 0, 4, .inl (c 3))), ((ad 5), .inl (N.2 0, 160, .inl (c 4))), ((ad 6), .inl (N.2 0, 8, .inl (c 5))), ((ad 7), .inl (N.2 0, 8, .inl (c 6))), ((ad 8), .inl (N.2 0, 8, .inl (c 7))), ((ad 9), .inl (N.2 0, 1500, .inl (c 8))), ((ad 10), .inl (N.2 0, 25, .inl (c 9))), ((ad 11), .inl (N.2 0, 200, .inl (c 10))), ((ad 12), .inl (N.2 0, 3, .inl (c 11))), ((ad 13), .inl (N.2 0, 40, .inl (c 12)))]
abbrev ckG : Type := ckG0 × (Nat → ckG0) × Nat × Nat × Int32 × (Nat → Nat) × (Nat → Nat) × (Nat → Nat → Int32)
/-- the d-th latest place of a ring of twenty -/
def back (nx d : Nat) : Nat := (nx + 20 - 1 - d) % 20
def gok (g : ckG) : Prop := match g with
  | (g0, kp, nx, hc, _, bt, ct, _) => g0ok g0 ∧ nx < 20 ∧ hc ≤ 20 ∧ (∀ d, d < hc → g0ok (kp (back nx d))) ∧ ∀ s, s < 4 → ct s ≤ 40 ∧ (bt s = 0 ∨ bt s = 8 ∨ bt s = 16 ∨ bt s = 32)
def RM (c : Nat → Nat → Int32) (ke kn : Nat) (fd : Int32) (g : ckG) : Prop := match g with
  | (g0, kp, nx, hc, fd0, bt, ct, nu) => g0V (c 0) g0 ∧ ke = nx ∧ kn = hc ∧ fd = fd0 ∧ (∀ d, d < hc → g0V (fun j => c 1 (572 * back nx d + j)) (kp (back nx d))) ∧ (∀ s, s < 4 → c 2 s = nI (bt s) ∧ c 3 s = nI (ct s) ∧ ∀ k, k < ct s → c 4 (40 * s + k) = nu s k) ∧ (∀ j, j < 8 → c 5 j = ckSX j) ∧ ∀ j, j < 8 → c 6 j = ckSY j
