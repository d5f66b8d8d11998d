/-! words: letters 0 to 19, ten more (or less) turned; a word under making is a stack, its last letter first -/
theorem ckT_lt {t : Nat} (h : t < 20) : ckT t < 20 := by unfold ckT; split <;> omega
theorem ckT_T {t : Nat} (h : t < 20) : ckT (ckT t) = t := by
  by_cases h1 : t < 10
  · have e1 : ckT t = t + 10 := if_pos h1
    rw [e1]; exact (if_neg (by omega)).trans (by omega)
  · have e1 : ckT t = t - 10 := if_neg h1
    rw [e1]; exact (if_pos (by omega)).trans (by omega)
def push (t : Nat) : List Nat → List Nat
  | [] => [t]
  | x :: xs => if x = ckT t then xs else t :: x :: xs
def mul (r w : List Nat) : List Nat := w.foldl (fun s t => push t s) r
def turnW (a : List Nat) : List Nat := (a.map ckT).reverse
def L20 (r : List Nat) : Prop := ∀ x, x ∈ r → x < 20
def Red : List Nat → Prop
  | [] => True
  | x :: xs => (∀ y, xs.head? = some y → y ≠ ckT x) ∧ Red xs
theorem Red_nil : Red [] := trivial
theorem L20_nil : L20 [] := fun _ h => absurd h List.not_mem_nil
theorem L20_cons {t : Nat} {r : List Nat} (ht : t < 20) (h : L20 r) : L20 (t :: r) := fun x hx => (List.mem_cons.mp hx).elim (fun e => e ▸ ht) (h x)
theorem L20_tail {t : Nat} {r : List Nat} (h : L20 (t :: r)) : L20 r := fun x hx => h x (List.mem_cons_of_mem _ hx)
theorem L20_rev {r : List Nat} (h : L20 r) : L20 r.reverse := fun x hx => h x (List.mem_reverse.mp hx)
theorem L20_app {a b : List Nat} (ha : L20 a) (hb : L20 b) : L20 (a ++ b) := fun x hx => (List.mem_append.mp hx).elim (ha x) (hb x)
theorem turnW_lt {a : List Nat} (h : L20 a) : L20 (turnW a) := by
  intro x hx
  obtain ⟨y, hy, rfl⟩ := List.mem_map.mp (List.mem_reverse.mp hx)
  exact ckT_lt (h y hy)
theorem turnW_len (a : List Nat) : (turnW a).length = a.length := by rw [turnW, List.length_reverse, List.length_map]
theorem turnW_cons (t : Nat) (w : List Nat) : turnW (t :: w) = turnW w ++ [ckT t] := by rw [turnW, List.map_cons, List.reverse_cons]; rfl
theorem map_TT : ∀ {a : List Nat}, L20 a → (a.map ckT).map ckT = a
  | [], _ => rfl
  | x :: xs, h => by rw [List.map_cons, List.map_cons, map_TT (L20_tail h), ckT_T (h x List.mem_cons_self)]
theorem turnW_W {a : List Nat} (h : L20 a) : turnW (turnW a) = a := by rw [turnW, turnW, List.map_reverse, List.reverse_reverse, map_TT h]
theorem push_lt {t : Nat} {r : List Nat} (ht : t < 20) (h : L20 r) : L20 (push t r) := by
  cases r with
  | nil => exact L20_cons ht L20_nil
  | cons x xs =>
    rw [push]
    split
    · exact L20_tail h
    · exact L20_cons ht h
theorem push_red {t : Nat} {r : List Nat} (h : Red r) : Red (push t r) := by
  cases r with
  | nil => exact ⟨fun y hy => (by cases hy), trivial⟩
  | cons x xs =>
    rw [push]
    split
    · exact h.2
    · exact ⟨fun y hy => (by cases hy; assumption), h⟩
theorem push_len (t : Nat) (r : List Nat) : (push t r).length ≤ r.length + 1 := by
  cases r with
  | nil => exact Nat.le_refl 1
  | cons x xs =>
    rw [push]
    split
    · simp only [List.length_cons]; omega
    · exact Nat.le_refl _
theorem push_inv {t : Nat} {r : List Nat} (ht : t < 20) (h : Red r) : push (ckT t) (push t r) = r := by
  have e : ckT (ckT t) = t := ckT_T ht
  cases r with
  | nil => show push (ckT t) [t] = []; rw [push, if_pos e.symm]
  | cons x xs =>
    by_cases hx : x = ckT t
    · rw [show push t (x :: xs) = xs from if_pos hx]
      cases xs with
      | nil => show [ckT t] = [x]; rw [hx]
      | cons y ys =>
        have hy : y ≠ ckT x := h.1 y rfl
        rw [push, if_neg (by rw [← hx]; exact hy), hx]
    · rw [show push t (x :: xs) = t :: x :: xs from if_neg hx, push, if_pos e.symm]
theorem mul_app (r a b : List Nat) : mul r (a ++ b) = mul (mul r a) b := List.foldl_append
theorem mul_cons (r : List Nat) (t : Nat) (w : List Nat) : mul r (t :: w) = mul (push t r) w := rfl
theorem mul_snoc (r : List Nat) (w : List Nat) (t : Nat) : mul r (w ++ [t]) = push t (mul r w) := by rw [mul_app]; rfl
theorem mul_lt : ∀ {w r : List Nat}, L20 r → L20 w → L20 (mul r w)
  | [], _, hr, _ => hr
  | t :: w, _, hr, hw => mul_lt (w := w) (push_lt (hw t List.mem_cons_self) hr) (L20_tail hw)
theorem mul_red : ∀ {w r : List Nat}, Red r → Red (mul r w)
  | [], _, hr => hr
  | _ :: w, _, hr => mul_red (w := w) (push_red hr)
theorem mul_len : ∀ (w r : List Nat), (mul r w).length ≤ r.length + w.length
  | [], r => Nat.le_refl _
  | t :: w, r => by
    have h1 := mul_len w (push t r)
    have h2 := push_len t r
    rw [mul_cons, List.length_cons]
    omega
/-- forth and then turned round: nothing -/
theorem mul_turn : ∀ {w r : List Nat}, Red r → L20 w → mul (mul r w) (turnW w) = r
  | [], _, _, _ => rfl
  | t :: w, r, hr, hw => by
    rw [turnW_cons, mul_cons, mul_snoc, mul_turn (w := w) (push_red hr) (L20_tail hw)]
    exact push_inv (hw t List.mem_cons_self) hr
theorem mul_turn2 {w r : List Nat} (hr : Red r) (hw : L20 w) : mul (mul r (turnW w)) w = r := by
  have h := mul_turn (w := turnW w) hr (turnW_lt hw)
  rw [turnW_W hw] at h
  exact h
theorem mul_push {r q : List Nat} {t : Nat} (ht : t < 20) (hr : Red r) (hq : Red q) (h20 : L20 q) : mul r (push t q).reverse = push t (mul r q.reverse) := by
  cases q with
  | nil => rfl
  | cons x xs =>
    by_cases hx : x = ckT t
    · rw [show push t (x :: xs) = xs from if_pos hx, List.reverse_cons, mul_snoc, hx]
      have h := push_inv (t := ckT t) (ckT_lt ht) (mul_red (w := xs.reverse) hr)
      rw [ckT_T ht] at h
      exact h.symm
    · rw [show push t (x :: xs) = t :: x :: xs from if_neg hx, List.reverse_cons, mul_snoc]
/-- a word may be reduced before it is put behind another -/
theorem mul_redw : ∀ {w q r : List Nat}, Red r → Red q → L20 q → L20 w → mul r (mul q w).reverse = mul (mul r q.reverse) w
  | [], _, _, _, _, _, _ => rfl
  | t :: w, q, r, hr, hq, h20, hw => by
    have ht := hw t List.mem_cons_self
    rw [mul_cons, mul_redw (w := w) hr (push_red hq) (push_lt ht h20) (L20_tail hw), mul_push ht hr hq h20]
    rfl
theorem Red_app : ∀ {l m : List Nat}, Red (l ++ m) → Red m
  | [], _, h => h
  | _ :: l, _, h => Red_app (l := l) h.2
theorem push_head {t : Nat} {s : List Nat} (h : Red (t :: s)) : push t s = t :: s := by
  cases s with
  | nil => rfl
  | cons y ys => exact if_neg (h.1 y rfl)
/-- a word that is reduced stays -/
theorem mul_rev : ∀ {b s : List Nat}, Red (b.reverse ++ s) → mul s b = b.reverse ++ s
  | [], _, _ => rfl
  | t :: b, s, h => by
    have h2 : Red (b.reverse ++ (t :: s)) := by
      rw [List.reverse_cons, List.append_assoc] at h
      exact h
    rw [mul_cons, push_head (Red_app h2), mul_rev (b := b) h2, List.reverse_cons, List.append_assoc]
    rfl
theorem mul_id {b : List Nat} (h : Red b.reverse) : mul [] b = b.reverse := by
  have := mul_rev (b := b) (s := []) (by rw [List.append_nil]; exact h)
  rwa [List.append_nil] at this
/-- the new word of a walk, as a stack -/
def ckNew (a b : List Nat) (fr : Bool) : List Nat := if fr then mul (mul (mul [] a) b) (turnW a) else mul (mul (mul [] (turnW b)) a) b
theorem ckNew_red (a b : List Nat) (fr : Bool) : Red (ckNew a b fr) := by cases fr <;> exact mul_red (mul_red (mul_red Red_nil))
theorem ckNew_lt {a b : List Nat} (ha : L20 a) (hb : L20 b) (fr : Bool) : L20 (ckNew a b fr) := by
  cases fr
  · exact mul_lt (mul_lt (mul_lt L20_nil (turnW_lt hb)) ha) hb
  · exact mul_lt (mul_lt (mul_lt L20_nil ha) hb) (turnW_lt ha)
theorem ckNew_len (a b : List Nat) (fr : Bool) {m : Nat} (ha : a.length ≤ m) (hb : b.length ≤ m) : (ckNew a b fr).length ≤ 3 * m := by
  cases fr
  · have h1 := mul_len b (mul (mul [] (turnW b)) a)
    have h2 := mul_len a (mul [] (turnW b))
    have h3 := mul_len (turnW b) []
    rw [turnW_len] at h3
    show (mul (mul (mul [] (turnW b)) a) b).length ≤ 3 * m
    simp only [List.length_nil] at h3
    omega
  · have h1 := mul_len (turnW a) (mul (mul [] a) b)
    have h2 := mul_len b (mul [] a)
    have h3 := mul_len a []
    rw [turnW_len] at h1
    show (mul (mul (mul [] a) b) (turnW a)).length ≤ 3 * m
    simp only [List.length_nil] at h3
    omega
/-- a walk in front, then back behind -/
theorem ckNew_back {a b : List Nat} (ha : L20 a) (hb : L20 b) (rb : Red b.reverse) : ckNew (ckNew a b true).reverse a false = b.reverse := by
  show mul (mul (mul [] (turnW a)) (mul (mul (mul [] a) b) (turnW a)).reverse) a = b.reverse
  have h0 : mul (mul (mul [] a) b) (turnW a) = mul [] (a ++ (b ++ turnW a)) := by rw [mul_app, mul_app]
  have hl : L20 (a ++ (b ++ turnW a)) := L20_app ha (L20_app hb (turnW_lt ha))
  rw [h0, mul_redw (mul_red Red_nil) Red_nil L20_nil hl]
  show mul (mul (mul [] (turnW a)) (a ++ (b ++ turnW a))) a = b.reverse
  rw [mul_app, mul_app, mul_turn2 (r := []) Red_nil ha, mul_turn2 (mul_red Red_nil) ha, mul_id rb]
theorem ckNew_forth {a b : List Nat} (ha : L20 a) (hb : L20 b) (ra : Red a.reverse) : ckNew b (ckNew a b false).reverse true = a.reverse := by
  show mul (mul (mul [] b) (mul (mul (mul [] (turnW b)) a) b).reverse) (turnW b) = a.reverse
  have h0 : mul (mul (mul [] (turnW b)) a) b = mul [] (turnW b ++ (a ++ b)) := by rw [mul_app, mul_app]
  have hl : L20 (turnW b ++ (a ++ b)) := L20_app (turnW_lt hb) (L20_app ha hb)
  rw [h0, mul_redw (mul_red Red_nil) Red_nil L20_nil hl]
  show mul (mul (mul [] b) (turnW b ++ (a ++ b))) (turnW b) = a.reverse
  rw [mul_app, mul_app, mul_turn (r := []) Red_nil hb, mul_turn (mul_red Red_nil) hb, mul_id ra]
/-- words of all places behind a walk -/
def kp (p : Nat) (fr : Bool) : Nat := if fr then p else p + 1
def kt (p : Nat) (fr : Bool) : Nat := if fr then p + 1 else p
def ckMv (w : Nat → List Nat) (p : Nat) (fr : Bool) (x : List Nat) : Nat → List Nat := fun q => if q = kp p fr then x else if q = kt p fr then w (kp p fr) else w q
def ckStep (w : Nat → List Nat) (p : Nat) (fr : Bool) : Nat → List Nat := ckMv w p fr (ckNew (w p) (w (p + 1)) fr).reverse
def ckOk (w : Nat → List Nat) (p : Nat) (fr : Bool) : Bool := decide ((ckNew (w p) (w (p + 1)) fr).length ≤ 60)
def ckGood (n : Nat) (w : Nat → List Nat) : Prop := ∀ p, p < n → Red (w p).reverse ∧ L20 (w p) ∧ (w p).length ≤ 60
theorem ckStep_good {n : Nat} {w : Nat → List Nat} {p : Nat} {fr : Bool} (h : ckGood n w) (hp : p + 1 < n) (ho : ckOk w p fr = true) : ckGood n (ckStep w p fr) := by
  intro q hq
  have ho := of_decide_eq_true ho
  have hk : kp p fr < n := by unfold kp; split <;> omega
  show Red (ckMv w p fr _ q).reverse ∧ L20 (ckMv w p fr _ q) ∧ (ckMv w p fr _ q).length ≤ 60
  rw [ckMv]
  split
  · rw [List.reverse_reverse, List.length_reverse]
    exact ⟨ckNew_red _ _ _, L20_rev (ckNew_lt (h p (by omega)).2.1 (h (p + 1) hp).2.1 fr), ho⟩
  · split
    · exact h _ hk
    · exact h q hq
theorem ckStep_kp (w : Nat → List Nat) (p : Nat) (fr : Bool) : ckStep w p fr (kp p fr) = (ckNew (w p) (w (p + 1)) fr).reverse := if_pos rfl
theorem ckStep_kt (w : Nat → List Nat) (p : Nat) (fr : Bool) : ckStep w p fr (kt p fr) = w (kp p fr) := by
  show (if kt p fr = kp p fr then _ else if kt p fr = kt p fr then _ else _) = _
  rw [if_neg (by cases fr <;> simp [kt, kp]), if_pos rfl]
theorem ckStep_ne (w : Nat → List Nat) (p : Nat) (fr : Bool) {q : Nat} (h1 : q ≠ p) (h2 : q ≠ p + 1) : ckStep w p fr q = w q := by
  show (if q = kp p fr then _ else if q = kt p fr then _ else _) = _
  rw [if_neg (by cases fr <;> simp [kp, h1, h2]), if_neg (by cases fr <;> simp [kt, h1, h2])]
/-- each walk has one that takes it back -/
theorem ckStep_new {n : Nat} {w : Nat → List Nat} {p : Nat} (fr : Bool) (h : ckGood n w) (hp : p + 1 < n) : ckNew (ckStep w p fr p) (ckStep w p fr (p + 1)) (!fr) = (w (kt p fr)).reverse := by
  have ha := h p (by omega)
  have hb := h (p + 1) hp
  cases fr
  · have e1 := ckStep_kt w p false
    have e2 := ckStep_kp w p false
    simp only [kt, kp] at e1 e2
    show ckNew (ckStep w p false p) (ckStep w p false (p + 1)) true = (w p).reverse
    rw [show ckStep w p false p = w (p + 1) from e1, show ckStep w p false (p + 1) = _ from e2]
    exact ckNew_forth ha.2.1 hb.2.1 ha.1
  · have e1 := ckStep_kt w p true
    have e2 := ckStep_kp w p true
    simp only [kt, kp] at e1 e2
    show ckNew (ckStep w p true p) (ckStep w p true (p + 1)) false = (w (p + 1)).reverse
    rw [show ckStep w p true p = _ from e2, show ckStep w p true (p + 1) = w p from e1]
    exact ckNew_back ha.2.1 hb.2.1 hb.1
theorem ckStep_back {n : Nat} {w : Nat → List Nat} {p : Nat} (fr : Bool) (h : ckGood n w) (hp : p + 1 < n) : ckStep (ckStep w p fr) p (!fr) = w := by
  funext q
  by_cases h1 : q = p
  · subst h1
    cases fr
    · rw [show ckStep (ckStep w q false) q (!false) q = _ from ckStep_kp _ q true]
      have := ckStep_new false h hp
      rw [show (!false) = true from rfl] at this
      rw [this, List.reverse_reverse]
      rfl
    · rw [show ckStep (ckStep w q true) q (!true) q = _ from ckStep_kt _ q false]
      exact ckStep_kt w q true
  · by_cases h2 : q = p + 1
    · subst h2
      cases fr
      · rw [show ckStep (ckStep w p false) p (!false) (p + 1) = _ from ckStep_kt _ p true]
        exact ckStep_kt w p false
      · rw [show ckStep (ckStep w p true) p (!true) (p + 1) = _ from ckStep_kp _ p false]
        have := ckStep_new true h hp
        rw [show (!true) = false from rfl] at this
        rw [this, List.reverse_reverse]
        rfl
    · rw [ckStep_ne _ p _ h1 h2, ckStep_ne _ p _ h1 h2]
theorem ckStep_ok {n : Nat} {w : Nat → List Nat} {p : Nat} (fr : Bool) (h : ckGood n w) (hp : p + 1 < n) : ckOk (ckStep w p fr) p (!fr) = true := by
  refine decide_eq_true ?_
  rw [ckStep_new fr h hp, List.length_reverse]
  exact (h _ (by unfold kt; split <;> omega)).2.2
def pmax (f : Nat → Nat) : Nat → Nat
  | 0 => 0
  | n + 1 => max (pmax f n) (f n)
theorem pmax_le {f : Nat → Nat} {m : Nat} : ∀ {n : Nat}, (∀ k, k < n → f k ≤ m) → pmax f n ≤ m
  | 0, _ => Nat.zero_le _
  | n + 1, h => Nat.max_le.mpr ⟨pmax_le (fun k hk => h k (by omega)), h n (by omega)⟩
theorem le_pmax {f : Nat → Nat} : ∀ {n k : Nat}, k < n → f k ≤ pmax f n
  | 0, _, h => absurd h (Nat.not_lt_zero _)
  | n + 1, k, h => by
    rw [pmax]
    by_cases hk : k = n
    · subst hk; exact Nat.le_max_right _ _
    · exact Nat.le_trans (le_pmax (by omega)) (Nat.le_max_left _ _)
/-- no word behind a walk is three times as short as the longest ahead of it -/
theorem ckStep_max {n : Nat} {w : Nat → List Nat} {p : Nat} (fr : Bool) (h : ckGood n w) (hp : p + 1 < n) {m : Nat} (hm : pmax (fun q => (ckStep w p fr q).length) n ≤ m) : pmax (fun q => (w q).length) n ≤ 3 * m := by
  have hl : ∀ q, q < n → (ckStep w p fr q).length ≤ m := fun q hq => Nat.le_trans (le_pmax (f := fun q => (ckStep w p fr q).length) hq) hm
  refine pmax_le (fun q hq => ?_)
  have hb : ckStep (ckStep w p fr) p (!fr) q = w q := by rw [ckStep_back fr h hp]
  show (w q).length ≤ 3 * m
  rw [← hb]
  show (ckMv (ckStep w p fr) p (!fr) _ q).length ≤ 3 * m
  rw [ckMv]
  split
  · rw [List.length_reverse]
    exact ckNew_len _ _ _ (hl p (by omega)) (hl (p + 1) hp)
  · split
    · exact Nat.le_trans (hl _ (by unfold kp; split <;> omega)) (by omega)
    · exact Nat.le_trans (hl q hq) (by omega)
/-- the search, and the search that gives up on words that are too long -/
def ckFirst (w : Nat → List Nat) (n : Nat) : Bool := decide (∀ p, p < n → w p = [p])
def tryW (f : (Nat → List Nat) → Option (List Nat)) (w : Nat → List Nat) : Nat → Nat → Option (List Nat)
  | _, 0 => none
  | t, c + 1 => if ckOk w (t / 2) (decide (t % 2 = 0)) then
      match f (ckStep w (t / 2) (decide (t % 2 = 0))) with
      | some l => some (t :: l)
      | none => tryW f w (t + 1) c
    else tryW f w (t + 1) c
def ckFull (n : Nat) : Nat → (Nat → List Nat) → Option (List Nat)
  | 0, w => if ckFirst w n then some [] else none
  | k + 1, w => tryW (ckFull n k) w 0 (2 * (n - 1))
def ckPrn (n : Nat) : Nat → (Nat → List Nat) → Option (List Nat)
  | 0, w => if 1 < pmax (fun q => (w q).length) n then none else if ckFirst w n then some [] else none
  | k + 1, w => if 3 ^ (k + 1) < pmax (fun q => (w q).length) n then none else tryW (ckPrn n k) w 0 (2 * (n - 1))
theorem tryW_some {f : (Nat → List Nat) → Option (List Nat)} {w : Nat → List Nat} : ∀ {c t : Nat} {l : List Nat}, tryW f w t c = some l → ∃ (t1 : Nat) (l1 : List Nat), t ≤ t1 ∧ t1 < t + c ∧ ckOk w (t1 / 2) (decide (t1 % 2 = 0)) = true ∧ f (ckStep w (t1 / 2) (decide (t1 % 2 = 0))) = some l1
  | 0, _, _, h => by cases h
  | c + 1, t, l, h => by
    rw [tryW] at h
    split at h
    · next ho =>
      split at h
      · next l1 hl1 => exact ⟨t, l1, Nat.le_refl t, by omega, ho, hl1⟩
      · obtain ⟨t1, l1, h1, h2, h3⟩ := tryW_some h
        exact ⟨t1, l1, by omega, by omega, h3⟩
    · obtain ⟨t1, l1, h1, h2, h3⟩ := tryW_some h
      exact ⟨t1, l1, by omega, by omega, h3⟩
theorem tryW_eq {f g : (Nat → List Nat) → Option (List Nat)} {w : Nat → List Nat} : ∀ {c t : Nat}, (∀ t1, t ≤ t1 → t1 < t + c → ckOk w (t1 / 2) (decide (t1 % 2 = 0)) = true → f (ckStep w (t1 / 2) (decide (t1 % 2 = 0))) = g (ckStep w (t1 / 2) (decide (t1 % 2 = 0)))) → tryW f w t c = tryW g w t c
  | 0, _, _ => rfl
  | c + 1, t, h => by
    have ih := tryW_eq (f := f) (g := g) (w := w) (c := c) (t := t + 1) (fun t1 h1 h2 h3 => h t1 (by omega) (by omega) h3)
    rw [tryW, tryW, ih]
    by_cases ho : ckOk w (t / 2) (decide (t % 2 = 0)) = true
    · rw [if_pos ho, if_pos ho, h t (Nat.le_refl t) (by omega) ho]
    · rw [if_neg ho, if_neg ho]
theorem ckFull_max {n : Nat} : ∀ {k : Nat} {w : Nat → List Nat} {l : List Nat}, ckGood n w → ckFull n k w = some l → pmax (fun q => (w q).length) n ≤ 3 ^ k
  | 0, w, l, _, h => by
    rw [ckFull] at h
    split at h
    · next hf =>
      refine pmax_le (fun q hq => ?_)
      show (w q).length ≤ 3 ^ 0
      rw [of_decide_eq_true hf q hq]
      exact Nat.le_refl 1
    · cases h
  | k + 1, w, l, hg, h => by
    obtain ⟨t1, l1, h1, h2, h3, h4⟩ := tryW_some h
    have hp : t1 / 2 + 1 < n := by omega
    have := ckFull_max (k := k) (ckStep_good hg hp h3) h4
    have := ckStep_max _ hg hp this
    rw [Nat.pow_succ]
    omega
theorem ckPrn_full {n : Nat} : ∀ {k : Nat} {w : Nat → List Nat}, ckGood n w → ckPrn n k w = ckFull n k w
  | 0, w, hg => by
    rw [ckPrn]
    split
    · next h =>
      cases hf : ckFull n 0 w with
      | none => rfl
      | some l => exact absurd (ckFull_max hg hf) (Nat.not_le.mpr h)
    · rfl
  | k + 1, w, hg => by
    rw [ckPrn]
    split
    · next h =>
      cases hf : ckFull n (k + 1) w with
      | none => rfl
      | some l => exact absurd (ckFull_max hg hf) (Nat.not_le.mpr h)
    · exact tryW_eq (fun t1 h1 h2 h3 => ckPrn_full (k := k) (ckStep_good hg (by omega) h3))
theorem tryW_len {f : (Nat → List Nat) → Option (List Nat)} {k : Nat} (hf : ∀ w l, f w = some l → l.length = k) {w : Nat → List Nat} : ∀ {c t : Nat} {l : List Nat}, tryW f w t c = some l → l.length = k + 1
  | 0, _, _, h => by cases h
  | c + 1, t, l, h => by
    rw [tryW] at h
    split at h
    · split at h
      · next l1 hl1 => cases h; rw [List.length_cons, hf _ _ hl1]
      · exact tryW_len hf h
    · exact tryW_len hf h
theorem ckFull_len {n : Nat} : ∀ {k : Nat} {w : Nat → List Nat} {l : List Nat}, ckFull n k w = some l → l.length = k
  | 0, w, l, h => by
    rw [ckFull] at h
    split at h
    · cases h; rfl
    · cases h
  | k + 1, w, l, h => tryW_len (fun _ _ h => ckFull_len h) h
theorem ckPrn_len {n : Nat} : ∀ {k : Nat} {w : Nat → List Nat} {l : List Nat}, ckPrn n k w = some l → l.length = k
  | 0, w, l, h => by
    rw [ckPrn] at h
    split at h
    · cases h
    · split at h
      · cases h; rfl
      · cases h
  | k + 1, w, l, h => by
    rw [ckPrn] at h
    split at h
    · cases h
    · exact tryW_len (fun _ _ h => ckPrn_len h) h
