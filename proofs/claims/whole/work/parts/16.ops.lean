/-! the calls: what each finds (0: nothing), what it answers -/
def ix (x : Int32) : Nat := x.toNatClampNeg
theorem ix_nI {j : Nat} (h : j < 2 ^ 31) : ix (nI j) = j := nI_clamp h
def ckRd (F R fd r fd2 : Int32) : Prop := (F = 0 ∧ r = R ∧ fd2 = fd) ∨ (F ≠ 0 ∧ r = F ∧ fd2 = fd + nI 1)
theorem ckRd_ok {F R fd r : Int32} (h : F = 0) (hr : r = R) : ckRd F R fd r fd := Or.inl ⟨h, hr, rfl⟩
theorem ckRd_f {F R fd v : Int32} (h : F = v) (hv : v ≠ 0) : ckRd F R fd v (fd + nI 1) := Or.inr ⟨by rw [h]; exact hv, h.symm, rfl⟩
theorem ckRd_eq {F R fd r r' fd2 fd2' : Int32} (h : ckRd F R fd r fd2) (h' : ckRd F R fd r' fd2') : r = r' ∧ fd2 = fd2' := by
  rcases h with ⟨a, b, c⟩ | ⟨a, b, c⟩ <;> rcases h' with ⟨a', b', c'⟩ | ⟨a', b', c'⟩
  · exact ⟨b.trans b'.symm, c.trans c'.symm⟩
  · exact absurd a a'
  · exact absurd a' a
  · exact ⟨b.trans b'.symm, c.trans c'.symm⟩
theorem ckIn_gt {x lo : Int32} {k : Nat} (hk : k + 1 < 2 ^ 31) (h : nI (k + 1) ≤ x) : ckIn x lo (nI k) = false := by
  rw [ckIn_f]; rw [i_le, nI_toInt hk] at h; rw [nI_toInt (by omega)]; omega
theorem ckIn_lt {x : Int32} {a k : Nat} (hk : k + 1 < 2 ^ 31) (h1 : ¬ x < nI a) (h2 : ¬ nI (k + 1) ≤ x) : ckIn x (nI a) (nI k) = true := by
  rw [ckIn_iff]; rw [i_le, nI_toInt hk] at h2; rw [i_lt] at h1; rw [nI_toInt (n := k) (by omega)]; omega
def asF (cf : Nat) (kd : Nat → Nat) (x y : Int32) : Int32 := if (ckLt x cf && ckIn y (nI 0) (nI 3)) = true then (if ckUnder (kd (ix x)) (ix y) = true then 0 else -100004) else -100001
def ofF (cf : Nat) (x y : Int32) : Int32 := if (ckLt x cf && ckIn y (nI 0) (nI 7)) = true then 0 else -100001
def goF (cf : Nat) (x y : Int32) : Int32 := if (ckLt x cf && ckIn y (nI 0) (nI 9999)) = true then 0 else -100001
def liF (cf : Nat) (x y : Int32) : Int32 := if (ckLt x cf && ckIn y (nI 1) (nI 40)) = true then 0 else -100001
def wiF (x y z v : Int32) : Int32 := if (ckIn x (nI 0) (nI 3) && ckIn y (nI 0) (nI 19) && ckIn z (nI 0) (nI 7) && ckIn v (nI 0) (nI 12)) = true then 0 else -100001
def waF (x y : Int32) : Int32 := if (ckIn x (nI 0) (nI 3) && ckIn y (nI 0) (nI 19)) = true then 0 else -100001
def flF (cf : Nat) (x y : Int32) : Int32 := if (ckLt x cf && ckIn y (nI 0) (nI 19)) = true then 0 else -100001
def kiF (cf : Nat) (fly : Nat → Nat → Bool) (x y : Int32) : Int32 := if (ckLt x cf && ckIn y (nI 0) (nI 19)) = true then (if fly (ix x) (ix y) = true then 0 else -100006) else -100001
def fstM (q : Nat → Bool) : Nat → Nat → Option Nat
  | _, 0 => none
  | m, c + 1 => if q m then some m else fstM q (m + 1) c
def o2i (o : Option Nat) : Int32 := match o with
  | some m => nI m
  | none => 0
def meF (cf : Nat) (nr : Nat → Nat → Nat → Bool) (x y z : Int32) : Int32 := if (ckLt x cf && ckLt y cf && ckIn z (nI 0) (nI 19)) = true then (if x = y then -100003 else if (fstM (nr (ix x) (ix y)) (ix z) (20 - ix z)).isSome = true then 0 else -100006) else -100001
def meR (nr : Nat → Nat → Nat → Bool) (x y z : Int32) : Int32 := o2i (fstM (nr (ix x) (ix y)) (ix z) (20 - ix z))
def miF (x : Int32) : Int32 := if ckIn x (nI 0) (nI 19) = true then 0 else -100001
def beF (x y : Int32) : Int32 := if (ckIn x (nI 0) (nI 19) && ckIn y (nI 0) (nI 19) && decide (x ≤ y)) = true then 0 else -100001
def bst (sz : Nat → Nat) (a : Nat) : Nat → Nat
  | 0 => a
  | c + 1 => if c = 0 then a else if sz (bst sz a c) < sz (a + c) then a + c else bst sz a c
def atF (n : Nat) (x : Int32) : Int32 := if ckLt x n = true then 0 else -100001
def leF (n : Nat) (w : Nat → List Nat) (x y : Int32) : Int32 := if (ckLt x n && (decide (y = -1) || ckLt y (w (ix x)).length)) = true then 0 else -100001
def leR (w : Nat → List Nat) (x y : Int32) : Int32 := if y = -1 then nI (w (ix x)).length else nI ((w (ix x)).getD (ix y) 0)
def taR (n : Nat) (w : Nat → List Nat) : Int32 := nI (psum (fun q => (w q).length) n) - nI n
def twF (n : Nat) (x y : Int32) : Int32 := if (ckLt x n && ckLt y n) = true then (if x = y then -100003 else 0) else -100001
def alF (x : Int32) : Int32 := if ckIn x (nI 0) (nI 4) = true then 0 else -100001
def alR (cf n : Nat) (wk : Int32) (w : Nat → List Nat) (fd x : Int32) : Int32 := if x = nI 0 then nI cf else if x = nI 1 then nI n else if x = nI 2 then wk else if x = nI 3 then b2i (ckFirst w n) else fd
theorem fstM_y {q : Nat → Bool} {m c : Nat} (hc : 0 < c) (h : q m = true) : fstM q m c = some m := by
  obtain ⟨d, rfl⟩ : ∃ d, c = d + 1 := ⟨c - 1, by omega⟩
  rw [fstM, if_pos h]
theorem fstM_n {q : Nat → Bool} {m c : Nat} (hc : 0 < c) (h : q m = false) : fstM q m c = fstM q (m + 1) (c - 1) := by
  obtain ⟨d, rfl⟩ : ∃ d, c = d + 1 := ⟨c - 1, by omega⟩
  rw [fstM, h]
  rfl
theorem bst_y {sz : Nat → Nat} {a m fd : Nat} (hm : a < m) (hf : fd = bst sz a (m - a)) (h : sz fd < sz m) : m = bst sz a (m + 1 - a) := by
  obtain ⟨c, rfl⟩ : ∃ c, m = a + c := ⟨m - a, by omega⟩
  rw [show a + c + 1 - a = c + 1 by omega, bst, if_neg (by omega)]
  rw [show a + c - a = c by omega] at hf
  rw [← hf, if_pos h]
theorem bst_n {sz : Nat → Nat} {a m fd : Nat} (hm : a < m) (hf : fd = bst sz a (m - a)) (h : ¬ sz fd < sz m) : fd = bst sz a (m + 1 - a) := by
  obtain ⟨c, rfl⟩ : ∃ c, m = a + c := ⟨m - a, by omega⟩
  rw [show a + c + 1 - a = c + 1 by omega, bst, if_neg (by omega)]
  rw [show a + c - a = c by omega] at hf
  rw [← hf, if_neg h]
theorem bst_up {sz : Nat → Nat} {a m fd : Nat} {mo : Int32} (hb : ∀ k, sz k < 2 ^ 31) (hmo : (m = a ∧ mo = -1) ∨ (a < m ∧ mo = nI (sz fd))) (hfd : fd = bst sz a (m - a)) (h : ¬ nI (sz m) ≤ mo) : m = bst sz a (m + 1 - a) := by
  rcases hmo with ⟨e1, e2⟩ | ⟨e1, e2⟩
  · subst e1; rw [show m + 1 - m = 1 by omega]; rfl
  · exact bst_y e1 hfd (by rw [e2, nI_leI (hb _) (hb _)] at h; omega)
theorem bst_st {sz : Nat → Nat} {a m fd : Nat} {mo : Int32} (hb : ∀ k, sz k < 2 ^ 31) (hmo : (m = a ∧ mo = -1) ∨ (a < m ∧ mo = nI (sz fd))) (hfd : fd = bst sz a (m - a)) (h : nI (sz m) ≤ mo) : ((m + 1 = a ∧ mo = -1) ∨ (a < m + 1 ∧ mo = nI (sz fd))) ∧ fd = bst sz a (m + 1 - a) := by
  rcases hmo with ⟨e1, e2⟩ | ⟨e1, e2⟩
  · rw [e2, i_le, nI_toInt (hb _)] at h
    have : (-1 : Int32).toInt = -1 := (by decide)
    omega
  · exact ⟨Or.inr ⟨by omega, e2⟩, bst_n e1 hfd (by rw [e2, nI_leI (hb _) (hb _)] at h; omega)⟩
