/-! the reference's isIn -/
theorem M_isIn (v a b : Int32) (σ : gM) : fX12_isIn v.toInt64 a.toInt64 b.toInt64 σ = some (if a.toInt ≤ v.toInt ∧ v.toInt ≤ b.toInt then 1 else 0, σ) := by
  unfold fX12_isIn
  by_cases c1 : v.toInt < a.toInt
  · rw [if_pos (by rw [lg_cmp_lt, Int64.lt_iff_toInt_lt, Int32.toInt_toInt64, Int32.toInt_toInt64]; exact c1), if_neg (by omega)]
  · rw [if_neg (by rw [lg_cmp_lt, Int64.lt_iff_toInt_lt, Int32.toInt_toInt64, Int32.toInt_toInt64]; exact c1)]
    by_cases c2 : b.toInt < v.toInt
    · rw [if_pos (by rw [lg_cmp_gt, Int64.lt_iff_toInt_lt, Int32.toInt_toInt64, Int32.toInt_toInt64]; exact c2), if_neg (by omega)]
    · rw [if_neg (by rw [lg_cmp_gt, Int64.lt_iff_toInt_lt, Int32.toInt_toInt64, Int32.toInt_toInt64]; exact c2), if_pos (by omega)]
theorem l_0 : (0 : Int64) = (nI 0).toInt64 := by decide
theorem l_1 : (1 : Int64) = (nI 1).toInt64 := by decide
theorem l_2 : (2 : Int64) = (nI 2).toInt64 := by decide
theorem l_3 : (3 : Int64) = (nI 3).toInt64 := by decide
theorem l_4 : (4 : Int64) = (nI 4).toInt64 := by decide
theorem l_12 : (12 : Int64) = (nI 12).toInt64 := by decide
theorem l_40 : (40 : Int64) = (nI 40).toInt64 := by decide
theorem l_255 : (255 : Int64) = (nI 255).toInt64 := by decide
theorem l_999 : (999 : Int64) = (nI 999).toInt64 := by decide
theorem M_isIn_yes {k a b : Nat} (h1 : a ≤ k) (h2 : k ≤ b) (hb : b < 2147483648) (σ : gM) : fX12_isIn (nI k).toInt64 (nI a).toInt64 (nI b).toInt64 σ = some (1, σ) := by
  rw [M_isIn, nI_toInt (by omega), nI_toInt (by omega), nI_toInt (by omega), if_pos (by omega)]
theorem M_isIn_lo {v : Int32} {a : Nat} {b : Int32} (h : v < 0) (ha : a < 2147483648) (σ : gM) : fX12_isIn v.toInt64 (nI a).toInt64 b.toInt64 σ = some (0, σ) := by
  have e0 : (0 : Int32).toInt = 0 := by decide
  rw [Int32.lt_iff_toInt_lt, e0] at h
  rw [M_isIn, nI_toInt ha, if_neg (by omega)]
theorem M_isIn_hi {v a : Int32} {b : Nat} (h : nI (b + 1) ≤ v) (hb : b + 1 < 2147483648) (σ : gM) : fX12_isIn v.toInt64 a.toInt64 (nI b).toInt64 σ = some (0, σ) := by
  rw [Int32.le_iff_toInt_le, nI_toInt hb] at h
  rw [M_isIn, nI_toInt (by omega), if_neg (by omega)]
theorem M_isPlace_yes {D S C F d t b : Nat} {σ : gM} (hE : ME D S C F σ) (hd : d < D + 2) (ht : t < S) (hb : b < C) : fX12_isPlace (nI d) (nI t) (nI b) σ = some (1, σ) := by
  obtain ⟨w1, w2, w3, w4, w5, w6, w7⟩ := hE.1
  obtain ⟨h0, h1, h2, h3, h5, h6⟩ := hE.2.1
  have e1 : nI S - 1 = nI (S - 1) := pk_sub (by omega)
  have e2 : nI C - 1 = nI (C - 1) := pk_sub (by omega)
  unfold fX12_isPlace
  rw [M_isDisk_yes hE hd, b_I, if_neg (by decide), h1, e1, l_0, M_isIn_yes (by omega) (by omega) (by omega), b_I, if_neg (by decide), h2, e2, M_isIn_yes (by omega) (by omega) (by omega), b_I, if_neg (by decide)]
