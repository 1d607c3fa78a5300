/-! where all lies -/
def wfP (D S C F : Nat) : Prop := 2 ≤ D ∧ D ≤ 6 ∧ 1 ≤ S ∧ S ≤ 12 ∧ 1 ≤ C ∧ C ≤ 4 ∧ F < 4
def dk (D t r : Nat) : Nat := (D + 1 - t % (D + 2) + (if r < D then r + 2 else r - D)) % (D + 2)
def rl (D t d : Nat) : Nat := if 2 ≤ (d + (D + 2) - (D + 1 - t % (D + 2))) % (D + 2) then (d + (D + 2) - (D + 1 - t % (D + 2))) % (D + 2) - 2 else D + (d + (D + 2) - (D + 1 - t % (D + 2))) % (D + 2)
theorem dk_ok : ∀ D, D < 7 → 2 ≤ D → ∀ t, t < 12 → ∀ r, r < D + 2 → dk D t r < D + 2 ∧ rl D t (dk D t r) = r := by decide +kernel
theorem rl_ok : ∀ D, D < 7 → 2 ≤ D → ∀ t, t < 12 → ∀ d, d < D + 2 → rl D t d < D + 2 ∧ dk D t (rl D t d) = d := by decide +kernel
/-- the class's rules -/
def XR (D S C F : Nat) (σ : gM) : Prop := σ.1 5 0 = nI D ∧ σ.1 5 1 = nI S ∧ σ.1 5 2 = nI C ∧ σ.1 5 3 = nI F ∧ σ.1 5 5 = nI (D + 2) ∧ σ.1 5 6 = nI D ∧ σ.1 5 7 = nI (D + 1) ∧ σ.1 5 8 = nI (2 ^ D - 1) ∧ σ.1 5 9 = nI (2 ^ (D + 2) - 1)
theorem fm_pos {a m : Nat} (ha : a < 1073741824) (h0 : 0 < m) (hm : m < 1073741824) (σ : gM) : fJ9_floorMod_7cf53 (nI a) (nI m) σ = some (nI (a % m), σ) := by
  unfold fJ9_floorMod_7cf53 fJ9_floorMod_7cf53_b18
  have hx : a ^^^ m < 2147483648 := Nat.xor_lt_two_pow (n := 31) (by omega) (by omega)
  simp (disch := first | omega | assumption) only [fa_lit, nLE, nLT, nEQ, nI_add, nSUB, pk_mul, nDIV, nREM, nCL, fa_and, nx_xor, fa_or, nSHL, nSHR, nUS, n31, n255, Nat.and_one_is_mod, b_I, b_V, b_L, not_or, Nat.not_lt_zero, Nat.not_le, Nat.not_lt, not_false_eq_true, true_and, and_true, false_or, or_false, Classical.not_not, if_pos, if_neg]
theorem X_diskOf {D S C F r t : Nat} {σ : gM} (hw : wfP D S C F) (h : XR D S C F σ) (hr : r < D + 2) (ht : t < 12) : fX6_diskOf (nI r) (nI t) σ = some (nI (dk D t r), σ) := by
  obtain ⟨w1, w2, w3, w4, w5, w6, w7⟩ := hw
  obtain ⟨h0, h1, h2, h3, h5, h6, h7, h8, h9⟩ := h
  have hm : t % (D + 2) < D + 2 := Nat.mod_lt _ (by omega)
  unfold fX6_diskOf fX6_diskOf_b30 dk
  by_cases hc : r < D
  · simp (disch := first | omega | assumption) only [h0, h5, fa_lit, nLE, nLT, nEQ, nI_add, nSUB, pk_mul, nDIV, nREM, nCL, fa_and, nx_xor, fa_or, nSHL, nSHR, nUS, n31, n255, Nat.and_one_is_mod, b_I, b_V, b_L, not_or, Nat.not_lt_zero, Nat.not_le, Nat.not_lt, not_false_eq_true, true_and, and_true, false_or, or_false, Classical.not_not, if_pos, if_neg, fm_pos]
    congr 3
  · simp (disch := first | omega | assumption) only [h0, h5, fa_lit, nLE, nLT, nEQ, nI_add, nSUB, pk_mul, nDIV, nREM, nCL, fa_and, nx_xor, fa_or, nSHL, nSHR, nUS, n31, n255, Nat.and_one_is_mod, b_I, b_V, b_L, not_or, Nat.not_lt_zero, Nat.not_le, Nat.not_lt, not_false_eq_true, true_and, and_true, false_or, or_false, Classical.not_not, if_pos, if_neg, fm_pos]
    congr 3
