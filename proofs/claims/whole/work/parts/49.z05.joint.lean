/-! what both sides ask of a number, at once -/
theorem isByte_yes {x : Nat} (h : x < 256) (σ : gM) : fX11_isByte (nI x) σ = some (1, σ) := by
  unfold fX11_isByte
  rw [show (0 : Int32) = nI 0 from rfl, show (255 : Int32) = nI 255 from rfl, if_neg (by rw [nLT _ _ (by omega) (by omega)]; omega), if_neg (by rw [nLT _ _ (by omega) (by omega)]; omega)]
theorem hi_lt {v : Int32} {b : Nat} (h : nI (b + 1) ≤ v) (hb : b + 1 < 2147483648) : nI b < v := by
  rw [Int32.lt_iff_toInt_lt, nI_toInt (by omega)]
  have := Int32.le_iff_toInt_le.mp h
  rw [nI_toInt hb] at this
  omega
theorem isByte_no {v : Int32} (h : v < 0 ∨ (¬ v < 0 ∧ nI 256 ≤ v)) (σ : gM) : fX11_isByte v σ = some (0, σ) := by
  unfold fX11_isByte
  rcases h with h | h
  · rw [if_pos h]
  · rw [if_neg h.1, show (255 : Int32) = nI 255 from rfl, if_pos (hi_lt h.2 (by omega))]
theorem J_byte (v : Int32) : (∃ x, x < 256 ∧ v = nI x) ∨ (∀ σ, fX11_isByte v σ = some (0, σ)) := by
  rcases i_rng v (N := 256) (by omega) with c | c | ⟨k, hk, e⟩
  · exact Or.inr fun σ => isByte_no (Or.inl c) σ
  · exact Or.inr fun σ => isByte_no (Or.inr c) σ
  · exact Or.inl ⟨k, hk, e⟩
theorem J_addr {D S C F : Nat} {σX σM : gM} (hE : XE D S C F σX) (hM : ME D S C F σM) (v : Int32) : (∃ a, a < D * S * C ∧ v = nI a) ∨ (fX6_isAddress v σX = some (0, σX) ∧ fX12_isAddress v σM = some (0, σM)) := by
  have h := DSC_lt hE.1
  rcases i_rng v (N := D * S * C) (by omega) with c | c | ⟨k, hk, e⟩
  · exact Or.inr ⟨X_isAddress_no hE (Or.inl c), M_isAddress_no hM (Or.inl c)⟩
  · exact Or.inr ⟨X_isAddress_no hE (Or.inr c), M_isAddress_no hM (Or.inr c)⟩
  · exact Or.inl ⟨k, hk, e⟩
theorem J_disk {D S C F : Nat} {σX σM : gM} (hE : XE D S C F σX) (hM : ME D S C F σM) (v : Int32) : (∃ d, d < D + 2 ∧ v = nI d) ∨ (fX6_isDisk v σX = some (0, σX) ∧ fX12_isDisk v σM = some (0, σM)) := by
  have h := hE.1.2.1
  rcases i_rng v (N := D + 2) (by omega) with c | c | ⟨k, hk, e⟩
  · exact Or.inr ⟨X_isDisk_no hE (Or.inl c), M_isDisk_no hM (Or.inl c)⟩
  · exact Or.inr ⟨X_isDisk_no hE (Or.inr c), M_isDisk_no hM (Or.inr c)⟩
  · exact Or.inl ⟨k, hk, e⟩
theorem X_isStripe_yes {D S C F t : Nat} {σ : gM} (hE : XE D S C F σ) (h : t < S) : fX6_isStripe (nI t) σ = some (1, σ) := by
  obtain ⟨w1, w2, w3, w4, w5, w6, w7⟩ := hE.1
  obtain ⟨h0, h1, h2, h3, h5, h6, h7, h8, h9⟩ := hE.2.1
  unfold fX6_isStripe
  rw [h1, if_neg (by simp (disch := first | omega | assumption) only [fa_lit, nLE, nLT, nEQ, nI_add, nSA, nSUB, pk_mul, nDIV, nREM, nCL, fa_and, nx_xor, fa_or, nSHL, nSHR, nUS, n31, n255, Nat.and_one_is_mod, b_I, b_V, b_L, not_or, Nat.not_lt_zero, Nat.not_le, Nat.not_lt, not_false_eq_true, true_and, and_true, false_or, or_false, Classical.not_not, if_true, if_false, if_pos, if_neg] <;> omega), if_neg (by simp (disch := first | omega | assumption) only [fa_lit, nLE, nLT, nEQ, nI_add, nSA, nSUB, pk_mul, nDIV, nREM, nCL, fa_and, nx_xor, fa_or, nSHL, nSHR, nUS, n31, n255, Nat.and_one_is_mod, b_I, b_V, b_L, not_or, Nat.not_lt_zero, Nat.not_le, Nat.not_lt, not_false_eq_true, true_and, and_true, false_or, or_false, Classical.not_not, if_true, if_false, if_pos, if_neg] <;> omega)]
theorem X_isByteOf_yes {D S C F b : Nat} {σ : gM} (hE : XE D S C F σ) (h : b < C) : fX6_isByteOfChunk (nI b) σ = some (1, σ) := by
  obtain ⟨w1, w2, w3, w4, w5, w6, w7⟩ := hE.1
  obtain ⟨h0, h1, h2, h3, h5, h6, h7, h8, h9⟩ := hE.2.1
  unfold fX6_isByteOfChunk
  rw [h2, if_neg (by simp (disch := first | omega | assumption) only [fa_lit, nLE, nLT, nEQ, nI_add, nSA, nSUB, pk_mul, nDIV, nREM, nCL, fa_and, nx_xor, fa_or, nSHL, nSHR, nUS, n31, n255, Nat.and_one_is_mod, b_I, b_V, b_L, not_or, Nat.not_lt_zero, Nat.not_le, Nat.not_lt, not_false_eq_true, true_and, and_true, false_or, or_false, Classical.not_not, if_true, if_false, if_pos, if_neg] <;> omega), if_neg (by simp (disch := first | omega | assumption) only [fa_lit, nLE, nLT, nEQ, nI_add, nSA, nSUB, pk_mul, nDIV, nREM, nCL, fa_and, nx_xor, fa_or, nSHL, nSHR, nUS, n31, n255, Nat.and_one_is_mod, b_I, b_V, b_L, not_or, Nat.not_lt_zero, Nat.not_le, Nat.not_lt, not_false_eq_true, true_and, and_true, false_or, or_false, Classical.not_not, if_true, if_false, if_pos, if_neg] <;> omega)]
theorem X_isCell_yes {D S C F d t b : Nat} {σ : gM} (hE : XE D S C F σ) (hd : d < D + 2) (ht : t < S) (hb : b < C) : fX6_isCell (nI d) (nI t) (nI b) σ = some (1, σ) := by
  unfold fX6_isCell
  rw [X_isDisk_yes hE hd, b_I, if_neg (by decide), X_isStripe_yes hE ht, b_I, if_neg (by decide), X_isByteOf_yes hE hb, b_I, if_neg (by decide)]
/-- a number from 0 on below N: the class's way to ask, and the reference's -/
theorem J_below (v : Int32) {N : Nat} (h0 : 0 < N) (hN : N < 1000) : (∃ k, k < N ∧ v = nI k) ∨ ((v < 0 ∨ (¬ v < 0 ∧ nI N ≤ v)) ∧ ∀ σ, fX12_isIn v.toInt64 0 (nI N - 1).toInt64 σ = some (0, σ)) := by
  have e : nI N - 1 = nI (N - 1) := pk_sub (b := 1) (by omega)
  rcases i_rng v (N := N) (by omega) with c | c | ⟨k, hk, e⟩
  · refine Or.inr ⟨Or.inl c, fun σ => ?_⟩
    rw [l_0]; exact M_isIn_lo c (by omega) σ
  · refine Or.inr ⟨Or.inr c, fun σ => ?_⟩
    rw [e, l_0]; exact M_isIn_hi (by rw [show N - 1 + 1 = N by omega]; exact c.2) (by omega) σ
  · exact Or.inl ⟨k, hk, e⟩
theorem J_stripe {D S C F : Nat} {σX : gM} (hE : XE D S C F σX) (v : Int32) : (∃ t, t < S ∧ v = nI t) ∨ (fX6_isStripe v σX = some (0, σX) ∧ ∀ σ, fX12_isIn v.toInt64 0 (nI S - 1).toInt64 σ = some (0, σ)) := by
  obtain ⟨w1, w2, w3, w4, w5, w6, w7⟩ := hE.1
  obtain ⟨h0, h1, h2, h3, h5, h6, h7, h8, h9⟩ := hE.2.1
  rcases J_below v (N := S) (by omega) (by omega) with c | ⟨c, h⟩
  · exact Or.inl c
  · refine Or.inr ⟨?_, h⟩
    unfold fX6_isStripe
    rw [h1]
    rcases c with c | c
    · rw [if_pos c]
    · rw [if_neg c.1, if_pos c.2]
theorem J_chunk {D S C F : Nat} {σX : gM} (hE : XE D S C F σX) (v : Int32) : (∃ b, b < C ∧ v = nI b) ∨ (fX6_isByteOfChunk v σX = some (0, σX) ∧ ∀ σ, fX12_isIn v.toInt64 0 (nI C - 1).toInt64 σ = some (0, σ)) := by
  obtain ⟨w1, w2, w3, w4, w5, w6, w7⟩ := hE.1
  obtain ⟨h0, h1, h2, h3, h5, h6, h7, h8, h9⟩ := hE.2.1
  rcases J_below v (N := C) (by omega) (by omega) with c | ⟨c, h⟩
  · exact Or.inl c
  · refine Or.inr ⟨?_, h⟩
    unfold fX6_isByteOfChunk
    rw [h2]
    rcases c with c | c
    · rw [if_pos c]
    · rw [if_neg c.1, if_pos c.2]
theorem M_inS {D S C F t : Nat} {σ : gM} (hE : ME D S C F σ) (ht : t < S) : fX12_isIn (nI t).toInt64 0 (nI S - 1).toInt64 σ = some (1, σ) := by
  obtain ⟨w1, w2, w3, w4, w5, w6, w7⟩ := hE.1
  rw [l_0, show nI S - 1 = nI (S - 1) from pk_sub (b := 1) (by omega)]
  exact M_isIn_yes (by omega) (by omega) (by omega) σ
theorem M_inC {D S C F t : Nat} {σ : gM} (hE : ME D S C F σ) (ht : t < C) : fX12_isIn (nI t).toInt64 0 (nI C - 1).toInt64 σ = some (1, σ) := by
  obtain ⟨w1, w2, w3, w4, w5, w6, w7⟩ := hE.1
  rw [l_0, show nI C - 1 = nI (C - 1) from pk_sub (b := 1) (by omega)]
  exact M_isIn_yes (by omega) (by omega) (by omega) σ
theorem J_cell {D S C F : Nat} {σX σM : gM} (hE : XE D S C F σX) (hM : ME D S C F σM) (v1 v2 v3 : Int32) : (∃ d t b, d < D + 2 ∧ t < S ∧ b < C ∧ v1 = nI d ∧ v2 = nI t ∧ v3 = nI b) ∨ (fX6_isCell v1 v2 v3 σX = some (0, σX) ∧ fX12_isPlace v1 v2 v3 σM = some (0, σM)) := by
  obtain ⟨h0, h1, h2, h3, h5, h6⟩ := hM.2.1
  unfold fX6_isCell fX12_isPlace
  rcases J_disk hE hM v1 with ⟨d, hd, rfl⟩ | ⟨a, b⟩
  · rw [X_isDisk_yes hE hd, b_I, if_neg (by decide), M_isDisk_yes hM hd, b_I, if_neg (by decide), h1]
    rcases J_stripe hE v2 with ⟨t, ht, rfl⟩ | ⟨a, b⟩
    · rw [X_isStripe_yes hE ht, b_I, if_neg (by decide), M_inS hM ht, b_I, if_neg (by decide), h2]
      rcases J_chunk hE v3 with ⟨b, hb, rfl⟩ | ⟨a, b⟩
      · exact Or.inl ⟨d, t, b, hd, ht, hb, rfl, rfl, rfl⟩
      · exact Or.inr ⟨by rw [a, b_I, if_pos rfl], by rw [b, b_I, if_pos rfl]⟩
    · exact Or.inr ⟨by rw [a, b_I, if_pos rfl], by rw [b, b_I, if_pos rfl]⟩
  · exact Or.inr ⟨by rw [a, b_I, if_pos rfl], by rw [b, b_I, if_pos rfl]⟩
theorem J_12 (v : Int32) : (∃ m, 0 < m ∧ m < 13 ∧ v = nI m) ∨ ((v < 1 ∨ (¬ v < 1 ∧ ¬ v ≤ 12)) ∧ ∀ σ, fX12_isIn v.toInt64 1 12 σ = some (0, σ)) := by
  rcases i_rng v (N := 13) (by omega) with c | c | ⟨k, hk, e⟩
  · refine Or.inr ⟨Or.inl ?_, fun σ => ?_⟩
    · rw [Int32.lt_iff_toInt_lt] at c ⊢
      exact Int.lt_trans c (by decide)
    · rw [l_1, l_12]; exact M_isIn_lo c (by omega) σ
  · refine Or.inr ⟨Or.inr ⟨?_, ?_⟩, fun σ => ?_⟩
    · intro z
      rw [Int32.lt_iff_toInt_lt] at z
      have := Int32.le_iff_toInt_le.mp c.2
      rw [nI_toInt (by omega)] at this
      have e1 : (1 : Int32).toInt = 1 := by decide
      omega
    · intro z
      have z := Int32.le_iff_toInt_le.mp z
      have := Int32.le_iff_toInt_le.mp c.2
      rw [nI_toInt (by omega)] at this
      have e1 : (12 : Int32).toInt = 12 := by decide
      omega
    · rw [l_1, l_12]; exact M_isIn_hi c.2 (by omega) σ
  · by_cases h : k = 0
    · subst h
      subst e
      refine Or.inr ⟨Or.inl (by decide), fun σ => ?_⟩
      rw [l_1, l_12, M_isIn, if_neg (by decide)]
    · exact Or.inl ⟨k, by omega, hk, e⟩
theorem in12_yes {m : Nat} (h0 : 0 < m) (h : m < 13) (σ : gM) : fX12_isIn (nI m).toInt64 1 12 σ = some (1, σ) := by
  rw [l_1, l_12]; exact M_isIn_yes (by omega) (by omega) (by omega) σ
theorem x12_yes {m : Nat} (h0 : 0 < m) (h : m < 13) : ¬ nI m < 1 ∧ nI m ≤ 12 := by
  rw [show (1 : Int32) = nI 1 from rfl, show (12 : Int32) = nI 12 from rfl, nLT _ _ (by omega) (by omega), nLE _ _ (by omega) (by omega)]
  omega
theorem J_1_255 (v : Int32) : (∃ x, 0 < x ∧ x < 256 ∧ v = nI x) ∨ ((v = 0 ∨ (¬ v = 0 ∧ ∀ σ, fX11_isByte v σ = some (0, σ))) ∧ ∀ σ, fX12_isIn v.toInt64 1 255 σ = some (0, σ)) := by
  rcases i_rng v (N := 256) (by omega) with c | c | ⟨k, hk, e⟩
  · refine Or.inr ⟨Or.inr ⟨fun z => by rw [z] at c; exact absurd c (by decide), fun σ => isByte_no (Or.inl c) σ⟩, fun σ => ?_⟩
    rw [l_1, l_255]; exact M_isIn_lo c (by omega) σ
  · refine Or.inr ⟨Or.inr ⟨fun z => by rw [z] at c; exact absurd c.2 (by decide), fun σ => isByte_no (Or.inr c) σ⟩, fun σ => ?_⟩
    rw [l_1, l_255]; exact M_isIn_hi c.2 (by omega) σ
  · by_cases h : k = 0
    · subst h
      subst e
      refine Or.inr ⟨Or.inl rfl, fun σ => ?_⟩
      rw [l_1, l_255, M_isIn, if_neg (by decide)]
    · exact Or.inl ⟨k, by omega, hk, e⟩
theorem J_02 (v : Int32) : (∃ m, m < 3 ∧ v = nI m) ∨ ((v < 0 ∨ (¬ v < 0 ∧ ¬ v ≤ 2)) ∧ ∀ σ, fX12_isIn v.toInt64 0 2 σ = some (0, σ)) := by
  rcases i_rng v (N := 3) (by omega) with c | c | ⟨k, hk, e⟩
  · refine Or.inr ⟨Or.inl c, fun σ => ?_⟩
    rw [l_0, l_2]; exact M_isIn_lo c (by omega) σ
  · refine Or.inr ⟨Or.inr ⟨c.1, ?_⟩, fun σ => ?_⟩
    · intro z
      have z := Int32.le_iff_toInt_le.mp z
      have := Int32.le_iff_toInt_le.mp c.2
      rw [nI_toInt (by omega)] at this
      have e1 : (2 : Int32).toInt = 2 := by decide
      omega
    · rw [l_0, l_2]; exact M_isIn_hi c.2 (by omega) σ
  · exact Or.inl ⟨k, hk, e⟩
