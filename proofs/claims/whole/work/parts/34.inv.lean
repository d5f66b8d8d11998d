/-! what holds of the ghosts between two calls -/
theorem in_ix {x : Int32} {b : Nat} (hb : b < 2 ^ 31) (h : ckIn x (nI 0) (nI b) = true) : x = nI (ix x) ∧ ix x ≤ b := by
  obtain ⟨j, -, h2, h3⟩ := (ckIn_n (by decide) hb).mp h
  rw [h3, ix_nI (by omega)]
  exact ⟨rfl, h2⟩
theorem in_mono {x : Int32} {a b c : Nat} (ha : a < 2 ^ 31) (hb : b < 2 ^ 31) (hc : c < 2 ^ 31) (hbc : b ≤ c) (h : ckIn x (nI a) (nI b) = true) : ckIn x (nI 0) (nI c) = true := by
  obtain ⟨j, -, h2, h3⟩ := (ckIn_n ha hb).mp h
  rw [h3]
  exact ckIn_in (Nat.zero_le j) (by omega) hc
def iA (cf : Nat) (tr di fo : Nat → Int32) : Prop := cf ≤ 8 ∧ (∀ i, i < cf → ckIn (tr (i * 8 + 0)) (nI 0) (nI 3) = true ∧ ckIn (tr (i * 8 + 3)) (nI 0) (nI 3) = true) ∧ ckTr tr cf ∧ (∀ j, j < 80 → ckIn (di j) (nI 0) (nI 7) = true) ∧ ckFo fo
theorem iA_air {cf : Nat} {tr di fo : Nat → Int32} (h : iA cf tr di fo) : ckAir tr di cf (fun i => ix (tr (i * 8 + 0))) (fun i => ix (tr (i * 8 + 3))) (fun j => ix (di j)) := by
  refine ⟨h.1, fun i hi => ?_, fun j hj => ?_⟩
  · have h1 := in_ix (by decide) (h.2.1 i hi).1
    have h2 := in_ix (by decide) (h.2.1 i hi).2
    exact ⟨h1.1, by show ix (tr (i * 8 + 0)) < 4; omega, h2.1, by show ix (tr (i * 8 + 3)) < 4; omega⟩
  · have h1 := in_ix (by decide) (h.2.2.2.1 j hj)
    exact ⟨h1.1, by show ix (di j) < 8; omega⟩
theorem iA_0 : iA 0 (fun _ => 0) (fun _ => 0) (fun _ => 0) := ⟨Nat.zero_le 8, fun i hi => absurd hi (Nat.not_lt_zero i), fun i k hi => absurd hi (Nat.not_lt_zero i), fun _ _ => (show ckIn 0 (nI 0) (nI 7) = true by decide), fun _ _ => (show ckIn 0 (nI 0) (nI 12) = true by decide)⟩
theorem iA_up {cf i k : Nat} {tr di fo : Nat → Int32} {v : Int32} (h : iA cf tr di fo) (hk : k < 8) (h0 : k ≠ 0) (h3 : k ≠ 3) (hv : ckIn v (nI 0) (nI 99) = true) : iA cf (upd tr (i * 8 + k) v) di fo := by
  obtain ⟨a, b, c, d, e⟩ := h
  refine ⟨a, fun j hj => ?_, fun j q hj hq => ?_, d, e⟩
  · rw [pk_un (by omega), pk_un (by omega)]
    exact b j hj
  · by_cases hq2 : j * 8 + q = i * 8 + k
    · rw [hq2, pk_us]; exact hv
    · rw [pk_un hq2]; exact c j q hj hq
theorem ifF {c : Prop} [Decidable c] {a b : Int32} (ha : a ≠ 0) (h : (if c then b else a) = 0) : c ∧ b = 0 := by
  by_cases hc : c
  · rw [if_pos hc] at h; exact ⟨hc, h⟩
  · rw [if_neg hc] at h; exact absurd h ha
theorem iA_go {cf : Nat} {tr di fo : Nat → Int32} {x y : Int32} (h : iA cf tr di fo) (hF : goF cf x y = 0) : iA cf (upd (upd tr (ix x * 8 + 1) (nI (ix y / 100))) (ix x * 8 + 2) (nI (ix y % 100))) di fo := by
  have hq := (Bool.and_eq_true _ _).mp (ifF (by decide) hF).1
  have hy := in_ix (by decide) hq.2
  exact iA_up (iA_up h (by decide) (by decide) (by decide) (ckIn_in (Nat.zero_le _) (by omega) (by decide))) (by decide) (by decide) (by decide) (ckIn_in (Nat.zero_le _) (by omega) (by decide))
theorem iA_li {cf : Nat} {tr di fo : Nat → Int32} {x y : Int32} (h : iA cf tr di fo) (hF : liF cf x y = 0) : iA cf (upd tr (ix x * 8 + 4) y) di fo := by
  have hq := (Bool.and_eq_true _ _).mp (ifF (by decide) hF).1
  exact iA_up h (by decide) (by decide) (by decide) (in_mono (by decide) (by decide) (by decide) (by decide) hq.2)
theorem iA_wi {cf : Nat} {tr di fo : Nat → Int32} {x y z v : Int32} (h : iA cf tr di fo) (hF : wiF x y z v = 0) : iA cf tr (upd di (ix x * 20 + ix y) z) (upd fo (ix x * 20 + ix y) v) := by
  have hq := (Bool.and_eq_true _ _).mp (ifF (by decide) hF).1
  have hz := ((Bool.and_eq_true _ _).mp hq.1).2
  obtain ⟨a, b, c, d, e⟩ := h
  refine ⟨a, b, c, fun j hj => ?_, fun j hj => ?_⟩
  · by_cases hq2 : j = ix x * 20 + ix y
    · rw [hq2, pk_us]; exact hz
    · rw [pk_un hq2]; exact d j hj
  · by_cases hq2 : j = ix x * 20 + ix y
    · rw [hq2, pk_us]; exact hq.2
    · rw [pk_un hq2]; exact e j hj
theorem iA_gu {cf bt ct : Nat} {tr di fo nu : Nat → Int32} {x y : Int32} (h : iA cf tr di fo) (hF : guF bt ct nu x y = 0) : iA cf tr di (guT fo (ix x * 20 + ix y) nu ct) := by
  obtain ⟨a, b, c, d, e⟩ := h
  refine ⟨a, b, c, d, fun j hj => ?_⟩
  have h1 := (ifF (by decide) hF).2
  have hw : ckWithin nu ct 12 = true := by
    by_cases hb : bt = 0
    · rw [if_pos hb] at h1; exact absurd h1 (by decide)
    · rw [if_neg hb] at h1
      by_cases hs : 20 < ix y + ct
      · rw [if_pos hs] at h1; exact absurd h1 (by decide)
      · rw [if_neg hs] at h1; exact (ifF (by decide) h1).1
  rw [guT]
  split
  · next hj2 => exact of_decide_eq_true hw _ (by omega)
  · exact e j hj
theorem iA_fy {cf : Nat} {tr di fo : Nat → Int32} {x1 x2 x3 x4 x5 x6 : Int32} (h : iA cf tr di fo) (hF : fyF cf x1 x2 x3 x4 x5 x6 = 0) : iA (cf + 1) (fyT tr cf x1 x2 x3 x4 x5 x6) di fo := by
  obtain ⟨hq, h1⟩ := ifF (by decide) hF
  obtain ⟨-, h2⟩ := ifF (by decide) h1
  have hcf : ¬ 8 ≤ cf := fun hc => by rw [if_pos hc] at h2; exact absurd h2 (by decide)
  have q5 := (Bool.and_eq_true _ _).mp hq
  have q4 := (Bool.and_eq_true _ _).mp q5.1
  have q3 := (Bool.and_eq_true _ _).mp q4.1
  have q2 := (Bool.and_eq_true _ _).mp q3.1
  have q1 := (Bool.and_eq_true _ _).mp q2.1
  have q6 := (Bool.and_eq_true _ _).mp q5.2
  have q7 := (Bool.and_eq_true _ _).mp q6.1
  have hsp := in_ix (by decide) q1.2
  obtain ⟨a, b, c, d, e⟩ := h
  have old : ∀ i k, i < cf → k < 8 → fyT tr cf x1 x2 x3 x4 x5 x6 (i * 8 + k) = tr (i * 8 + k) := fun i k hi hk => (pk_un (by omega)).trans ((pk_un (by omega)).trans ((pk_un (by omega)).trans ((pk_un (by omega)).trans ((pk_un (by omega)).trans ((pk_un (by omega)).trans ((pk_un (by omega)).trans (pk_un (by omega))))))))
  have n0 : fyT tr cf x1 x2 x3 x4 x5 x6 (cf * 8 + 0) = x1 := (pk_un (by omega)).trans ((pk_un (by omega)).trans ((pk_un (by omega)).trans ((pk_un (by omega)).trans ((pk_un (by omega)).trans ((pk_un (by omega)).trans ((pk_un (by omega)).trans pk_us))))))
  have n1 : fyT tr cf x1 x2 x3 x4 x5 x6 (cf * 8 + 1) = nI (ix x2 / 100) := (pk_un (by omega)).trans ((pk_un (by omega)).trans ((pk_un (by omega)).trans ((pk_un (by omega)).trans ((pk_un (by omega)).trans ((pk_un (by omega)).trans pk_us)))))
  have n2 : fyT tr cf x1 x2 x3 x4 x5 x6 (cf * 8 + 2) = nI (ix x2 % 100) := (pk_un (by omega)).trans ((pk_un (by omega)).trans ((pk_un (by omega)).trans ((pk_un (by omega)).trans ((pk_un (by omega)).trans pk_us))))
  have n3 : fyT tr cf x1 x2 x3 x4 x5 x6 (cf * 8 + 3) = x3 := (pk_un (by omega)).trans ((pk_un (by omega)).trans ((pk_un (by omega)).trans ((pk_un (by omega)).trans pk_us)))
  have n4 : fyT tr cf x1 x2 x3 x4 x5 x6 (cf * 8 + 4) = x4 := (pk_un (by omega)).trans ((pk_un (by omega)).trans ((pk_un (by omega)).trans pk_us))
  have n5 : fyT tr cf x1 x2 x3 x4 x5 x6 (cf * 8 + 5) = x5 := (pk_un (by omega)).trans ((pk_un (by omega)).trans pk_us)
  have n6 : fyT tr cf x1 x2 x3 x4 x5 x6 (cf * 8 + 6) = nI (ix x6 / 16) := (pk_un (by omega)).trans pk_us
  have n7 : fyT tr cf x1 x2 x3 x4 x5 x6 (cf * 8 + 7) = nI (ix x6 % 16) := pk_us
  refine ⟨by omega, fun i hi => ?_, fun i k hi hk => ?_, d, e⟩
  · by_cases hic : i = cf
    · subst hic; rw [n0, n3]; exact ⟨q1.1, q2.2⟩
    · rw [old i 0 (by omega) (by omega), old i 3 (by omega) (by omega)]; exact b i (by omega)
  · by_cases hic : i = cf
    · subst hic
      rcases (show k = 0 ∨ k = 1 ∨ k = 2 ∨ k = 3 ∨ k = 4 ∨ k = 5 ∨ k = 6 ∨ k = 7 by omega) with rfl | rfl | rfl | rfl | rfl | rfl | rfl | rfl
      · rw [n0]; exact in_mono (by decide) (by decide) (by decide) (by decide) q1.1
      · rw [n1]; exact ckIn_in (Nat.zero_le _) (by omega) (by decide)
      · rw [n2]; exact ckIn_in (Nat.zero_le _) (by omega) (by decide)
      · rw [n3]; exact in_mono (by decide) (by decide) (by decide) (by decide) q2.2
      · rw [n4]; exact in_mono (by decide) (by decide) (by decide) (by decide) q3.2
      · rw [n5]; exact in_mono (by decide) (by decide) (by decide) (by decide) q4.2
      · rw [n6]; exact in_mono (by decide) (by decide) (by decide) (by decide) q7.2
      · rw [n7]; exact in_mono (by decide) (by decide) (by decide) (by decide) q6.2
    · rw [old i k (by omega) hk]; exact c i k (by omega) hk
/-- the row's part -/
def iR (n : Nat) (w : Nat → List Nat) (sdf : Nat → Int32) : Prop := 2 ≤ n ∧ n ≤ 5 ∧ ckGood n w ∧ ∀ k, k < 5 → sdf k = nI (ix (sdf k)) ∧ ix (sdf k) < 5
theorem iR_0 {n : Nat} {sdf : Nat → Int32} (h2 : 2 ≤ n) (h5 : n ≤ 5) (hs : ∀ j, j < 5 → sdf j = nI j) : iR n first0 sdf := ⟨h2, h5, first_good h5, fun k hk => by rw [hs k hk, ix_nI (by omega)]; exact ⟨rfl, hk⟩⟩
theorem iR_wl {n : Nat} {w : Nat → List Nat} {sdf wof : Nat → Int32} {x : Int32} {fr : Bool} (h : iR n w sdf) (hF : wlF n w (fun k => ix (sdf k)) wof x fr = 0) : iR n (ckStep w (ix x) fr) (upd (upd sdf (ix x) (nI (ix (sdf (ix x + 1))))) (ix x + 1) (nI (ix (sdf (ix x))))) := by
  obtain ⟨a, b, c, d⟩ := h
  obtain ⟨hq, h1⟩ := ifF (by decide) hF
  obtain ⟨i, hi, rfl⟩ := (ckLt_t (by omega)).mp hq
  rw [ix_nI (by omega)] at h1 ⊢
  have hok : ckOk w i fr = true := by
    by_cases hl : (decide (nI 20 ≤ wof (ix (sdf i))) || decide (nI 20 ≤ wof (ix (sdf (i + 1))))) = true
    · rw [if_pos hl] at h1; exact absurd h1 (by decide)
    · rw [if_neg hl] at h1; exact (ifF (by decide) h1).1
  refine ⟨a, b, ckStep_good c (by omega) hok, fun k hk => ?_⟩
  have e1 := d i (by omega)
  have e2 := d (i + 1) (by omega)
  by_cases h2 : k = i + 1
  · subst h2
    rw [pk_us, ix_nI (by omega)]
    exact ⟨rfl, e1.2⟩
  · by_cases h3 : k = i
    · subst h3
      rw [pk_un h2, pk_us, ix_nI (by omega)]
      exact ⟨rfl, e2.2⟩
    · rw [pk_un h2, pk_un h3]
      exact d k hk
