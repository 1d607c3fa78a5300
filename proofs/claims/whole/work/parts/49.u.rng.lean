/-! any int: below, above, or a number in range -/
theorem i_rng (v : Int32) {N : Nat} (hN : N < 2147483648) : v < 0 ∨ (¬ v < 0 ∧ nI N ≤ v) ∨ ∃ k, k < N ∧ v = nI k := by
  by_cases h : v < 0
  · exact Or.inl h
  · right
    by_cases h2 : nI N ≤ v
    · exact Or.inl ⟨h, h2⟩
    · right
      have e0 : (0 : Int32).toInt = 0 := by decide
      have a : 0 ≤ v.toInt := by
        rw [Int32.lt_iff_toInt_lt, e0] at h; omega
      have b : v.toInt < N := by
        rw [Int32.le_iff_toInt_le, nI_toInt hN] at h2; omega
      refine ⟨v.toInt.toNat, by omega, ?_⟩
      apply Int32.toInt_inj.mp
      rw [nI_toInt (by omega)]
      omega
theorem DSC_lt {D S C F : Nat} (h : wfP D S C F) : D * S * C < 1000 ∧ 0 < D * S * C := by
  obtain ⟨w1, w2, w3, w4, w5, w6, w7⟩ := h
  have h1 : D * S ≤ 6 * 12 := Nat.mul_le_mul w2 w4
  have h2 : D * S * C ≤ 6 * 12 * 4 := Nat.mul_le_mul h1 w6
  have h3 : 0 < D * S * C := Nat.mul_pos (Nat.mul_pos (by omega) (by omega)) (by omega)
  omega
theorem X_isAddress_no {D S C F : Nat} {v : Int32} {σ : gM} (hE : XE D S C F σ) (h : v < 0 ∨ (¬ v < 0 ∧ nI (D * S * C) ≤ v)) : fX6_isAddress v σ = some (0, σ) := by
  obtain ⟨h0, h1, h2, h3, h5, h6, h7, h8, h9⟩ := hE.2.1
  unfold fX6_isAddress fX6_addresses
  rcases h with h | ⟨h, h'⟩
  · rw [if_pos h]
  · rw [if_neg h, b_I, h0, h1, h2, pk_mul, pk_mul, if_pos h']
theorem X_isAddress_yes {D S C F a : Nat} {σ : gM} (hE : XE D S C F σ) (h : a < D * S * C) : fX6_isAddress (nI a) σ = some (1, σ) := by
  obtain ⟨h0, h1, h2, h3, h5, h6, h7, h8, h9⟩ := hE.2.1
  have hd := DSC_lt hE.1
  unfold fX6_isAddress fX6_addresses
  rw [if_neg (by simp (disch := first | omega | assumption) only [fa_lit, nLE, nLT, nEQ, nI_add, nSA, nSUB, pk_mul, nDIV, nREM, nCL, fa_and, nx_xor, fa_or, nSHL, nSHR, nUS, n31, n255, Nat.and_one_is_mod, b_I, b_V, b_L, not_or, Nat.not_lt_zero, Nat.not_le, Nat.not_lt, not_false_eq_true, true_and, and_true, false_or, or_false, Classical.not_not, if_true, if_false, if_pos, if_neg] <;> omega), b_I, h0, h1, h2, pk_mul, pk_mul, if_neg (by rw [nLE _ _ (by omega) (by omega)]; omega)]
theorem M_isAddress_no {D S C F : Nat} {v : Int32} {σ : gM} (hE : ME D S C F σ) (h : v < 0 ∨ (¬ v < 0 ∧ nI (D * S * C) ≤ v)) : fX12_isAddress v σ = some (0, σ) := by
  obtain ⟨h0, h1, h2, h3, h5, h6⟩ := hE.2.1
  unfold fX12_isAddress
  rcases h with h | ⟨h, h'⟩
  · rw [if_pos h]
  · rw [if_neg h, h6, if_pos h']
theorem M_isAddress_yes {D S C F a : Nat} {σ : gM} (hE : ME D S C F σ) (h : a < D * S * C) : fX12_isAddress (nI a) σ = some (1, σ) := by
  obtain ⟨h0, h1, h2, h3, h5, h6⟩ := hE.2.1
  have hd := DSC_lt hE.1
  unfold fX12_isAddress
  rw [if_neg (by simp (disch := first | omega | assumption) only [fa_lit, nLE, nLT, nEQ, nI_add, nSA, nSUB, pk_mul, nDIV, nREM, nCL, fa_and, nx_xor, fa_or, nSHL, nSHR, nUS, n31, n255, Nat.and_one_is_mod, b_I, b_V, b_L, not_or, Nat.not_lt_zero, Nat.not_le, Nat.not_lt, not_false_eq_true, true_and, and_true, false_or, or_false, Classical.not_not, if_true, if_false, if_pos, if_neg] <;> omega), h6, if_neg (by rw [nLE _ _ (by omega) (by omega)]; omega)]
theorem X_isDisk_no {D S C F : Nat} {v : Int32} {σ : gM} (hE : XE D S C F σ) (h : v < 0 ∨ (¬ v < 0 ∧ nI (D + 2) ≤ v)) : fX6_isDisk v σ = some (0, σ) := by
  obtain ⟨h0, h1, h2, h3, h5, h6, h7, h8, h9⟩ := hE.2.1
  unfold fX6_isDisk
  rcases h with h | ⟨h, h'⟩
  · rw [if_pos h]
  · rw [if_neg h, h5, if_pos h']
theorem X_isDisk_yes {D S C F d : Nat} {σ : gM} (hE : XE D S C F σ) (h : d < D + 2) : fX6_isDisk (nI d) σ = some (1, σ) := by
  obtain ⟨w1, w2, w3, w4, w5, w6, w7⟩ := hE.1
  obtain ⟨h0, h1, h2, h3, h5, h6, h7, h8, h9⟩ := hE.2.1
  unfold fX6_isDisk
  rw [if_neg (by simp (disch := first | omega | assumption) only [fa_lit, nLE, nLT, nEQ, nI_add, nSA, nSUB, pk_mul, nDIV, nREM, nCL, fa_and, nx_xor, fa_or, nSHL, nSHR, nUS, n31, n255, Nat.and_one_is_mod, b_I, b_V, b_L, not_or, Nat.not_lt_zero, Nat.not_le, Nat.not_lt, not_false_eq_true, true_and, and_true, false_or, or_false, Classical.not_not, if_true, if_false, if_pos, if_neg] <;> omega), h5, if_neg (by simp (disch := first | omega | assumption) only [fa_lit, nLE, nLT, nEQ, nI_add, nSA, nSUB, pk_mul, nDIV, nREM, nCL, fa_and, nx_xor, fa_or, nSHL, nSHR, nUS, n31, n255, Nat.and_one_is_mod, b_I, b_V, b_L, not_or, Nat.not_lt_zero, Nat.not_le, Nat.not_lt, not_false_eq_true, true_and, and_true, false_or, or_false, Classical.not_not, if_true, if_false, if_pos, if_neg] <;> omega)]
theorem M_isDisk_no {D S C F : Nat} {v : Int32} {σ : gM} (hE : ME D S C F σ) (h : v < 0 ∨ (¬ v < 0 ∧ nI (D + 2) ≤ v)) : fX12_isDisk v σ = some (0, σ) := by
  obtain ⟨h0, h1, h2, h3, h5, h6⟩ := hE.2.1
  have hd := DSC_lt hE.1
  unfold fX12_isDisk
  rw [h6, if_neg (by rw [show (0 : Int32) = nI 0 from rfl, nLE _ _ (by omega) (by omega)]; omega)]
  rcases h with h | ⟨h, h'⟩
  · rw [if_pos h]
  · rw [if_neg h, h5, if_pos h']
theorem M_isDisk_yes {D S C F d : Nat} {σ : gM} (hE : ME D S C F σ) (h : d < D + 2) : fX12_isDisk (nI d) σ = some (1, σ) := by
  obtain ⟨w1, w2, w3, w4, w5, w6, w7⟩ := hE.1
  obtain ⟨h0, h1, h2, h3, h5, h6⟩ := hE.2.1
  have hd := DSC_lt hE.1
  unfold fX12_isDisk
  rw [h6, if_neg (by rw [show (0 : Int32) = nI 0 from rfl, nLE _ _ (by omega) (by omega)]; omega), if_neg (by simp (disch := first | omega | assumption) only [fa_lit, nLE, nLT, nEQ, nI_add, nSA, nSUB, pk_mul, nDIV, nREM, nCL, fa_and, nx_xor, fa_or, nSHL, nSHR, nUS, n31, n255, Nat.and_one_is_mod, b_I, b_V, b_L, not_or, Nat.not_lt_zero, Nat.not_le, Nat.not_lt, not_false_eq_true, true_and, and_true, false_or, or_false, Classical.not_not, if_true, if_false, if_pos, if_neg] <;> omega), h5, if_neg (by simp (disch := first | omega | assumption) only [fa_lit, nLE, nLT, nEQ, nI_add, nSA, nSUB, pk_mul, nDIV, nREM, nCL, fa_and, nx_xor, fa_or, nSHL, nSHR, nUS, n31, n255, Nat.and_one_is_mod, b_I, b_V, b_L, not_or, Nat.not_lt_zero, Nat.not_le, Nat.not_lt, not_false_eq_true, true_and, and_true, false_or, or_false, Classical.not_not, if_true, if_false, if_pos, if_neg] <;> omega)]
theorem isByte_same (v : Int32) (σ : gM) : fX11_isByte v σ = fX12_isByte v σ := rfl
