/-! the fields: both sides' tables, products, quotients -/
def XF (F : Nat) (σ : gM) : Prop := σ.1 6 2 = nI (pol F) ∧ (∀ k, k < 255 → σ.1 7 k = nI (pw F k)) ∧ ∀ v, v < 256 → σ.1 8 v = nI (lg F v)
def MF (F : Nat) (σ : gM) : Prop := (∀ k, k < 255 → σ.1 8 k = nI (pw F k)) ∧ ∀ v, v < 256 → σ.1 9 v = nI (lg F v)
theorem X_power {F k : Nat} {σ : gM} (hF : F < 4) (h : XF F σ) (hk : k < 1000) : fX1_powerOfTwo (nI k) σ = some (nI (pw F (k % 255)), σ) := by
  obtain ⟨h1, h2, h3⟩ := h
  have hm : k % 255 < 255 := Nat.mod_lt _ (by decide)
  unfold fX1_powerOfTwo
  simp (disch := first | omega | assumption) only [fa_lit, nLE, nLT, nEQ, nI_add, nSA, nSUB, pk_mul, nDIV, nREM, nCL, fa_and, nx_xor, fa_or, nSHL, nSHR, nUS, n31, n255, Nat.and_one_is_mod, b_I, b_V, b_L, not_or, Nat.not_lt_zero, Nat.not_le, Nat.not_lt, not_false_eq_true, true_and, and_true, false_or, or_false, Classical.not_not, if_true, if_false, if_pos, if_neg, fm_pos, h2]
theorem X_log {F a : Nat} {σ : gM} (h : XF F σ) (ha : a < 256) : fX1_logarithm (nI a) σ = some (nI (lg F a), σ) := by
  obtain ⟨h1, h2, h3⟩ := h
  unfold fX1_logarithm
  simp (disch := first | omega | assumption) only [fa_lit, nLE, nLT, nEQ, nI_add, nSA, nSUB, pk_mul, nDIV, nREM, nCL, fa_and, nx_xor, fa_or, nSHL, nSHR, nUS, n31, n255, Nat.and_one_is_mod, b_I, b_V, b_L, not_or, Nat.not_lt_zero, Nat.not_le, Nat.not_lt, not_false_eq_true, true_and, and_true, false_or, or_false, Classical.not_not, if_true, if_false, if_pos, if_neg, h3]
theorem X_product {F a b : Nat} {σ : gM} (hF : F < 4) (h : XF F σ) (ha : a < 256) (hb : b < 256) : fX1_product (nI a) (nI b) σ = some (nI (gm F a b), σ) := by
  obtain ⟨h1, h2, h3⟩ := h
  have la := lg_lt hF ha
  have lb := lg_lt hF hb
  have hm : (lg F a + lg F b) % 255 < 255 := Nat.mod_lt _ (by decide)
  unfold fX1_product gm
  by_cases ca : a = 0
  · subst ca; simp (disch := first | omega | assumption) only [fa_lit, nLE, nLT, nEQ, nI_add, nSA, nSUB, pk_mul, nDIV, nREM, nCL, fa_and, nx_xor, fa_or, nSHL, nSHR, nUS, n31, n255, Nat.and_one_is_mod, b_I, b_V, b_L, not_or, Nat.not_lt_zero, Nat.not_le, Nat.not_lt, not_false_eq_true, true_and, and_true, false_or, or_false, Classical.not_not, if_true, if_false, if_pos, if_neg]; all_goals simp
  · by_cases cb : b = 0
    · subst cb; simp (disch := first | omega | assumption) only [fa_lit, nLE, nLT, nEQ, nI_add, nSA, nSUB, pk_mul, nDIV, nREM, nCL, fa_and, nx_xor, fa_or, nSHL, nSHR, nUS, n31, n255, Nat.and_one_is_mod, b_I, b_V, b_L, not_or, Nat.not_lt_zero, Nat.not_le, Nat.not_lt, not_false_eq_true, true_and, and_true, false_or, or_false, Classical.not_not, if_true, if_false, if_pos, if_neg]; all_goals simp
    · simp (disch := first | omega | assumption) only [fa_lit, nLE, nLT, nEQ, nI_add, nSA, nSUB, pk_mul, nDIV, nREM, nCL, fa_and, nx_xor, fa_or, nSHL, nSHR, nUS, n31, n255, Nat.and_one_is_mod, b_I, b_V, b_L, not_or, Nat.not_lt_zero, Nat.not_le, Nat.not_lt, not_false_eq_true, true_and, and_true, false_or, or_false, Classical.not_not, if_true, if_false, if_pos, if_neg, fm_pos, h2, h3]
theorem X_quotient {F a b : Nat} {σ : gM} (hF : F < 4) (h : XF F σ) (ha : a < 256) (hb : b < 256) (h0 : 0 < b) : fX1_quotient (nI a) (nI b) σ = some (nI (gq F a b), σ) := by
  obtain ⟨h1, h2, h3⟩ := h
  have la := lg_lt hF ha
  have lb := lg_lt hF hb
  have hm : (lg F a + 255 - lg F b) % 255 < 255 := Nat.mod_lt _ (by decide)
  have e : fJ9_floorMod_7cf53 (nI (lg F a) - nI (lg F b)) (nI 255) σ = some (nI ((lg F a + 255 - lg F b) % 255), σ) := fm_sub (by omega) (by omega) (by omega) (by omega) σ
  unfold fX1_quotient gq
  by_cases ca : a = 0
  · subst ca; simp (disch := first | omega | assumption) only [fa_lit, nLE, nLT, nEQ, nI_add, nSA, nSUB, pk_mul, nDIV, nREM, nCL, fa_and, nx_xor, fa_or, nSHL, nSHR, nUS, n31, n255, Nat.and_one_is_mod, b_I, b_V, b_L, not_or, Nat.not_lt_zero, Nat.not_le, Nat.not_lt, not_false_eq_true, true_and, and_true, false_or, or_false, Classical.not_not, if_true, if_false, if_pos, if_neg]; all_goals simp
  · have z1 : ¬ nI a = 0 := nI_ne0 (by omega) (by omega)
    have z2 : ¬ nI b = 0 := nI_ne0 (by omega) (by omega)
    have z3 : nI a &&& 255 = nI a := by simp (disch := first | omega | assumption) only [fa_lit, nLE, nLT, nEQ, nI_add, nSA, nSUB, pk_mul, nDIV, nREM, nCL, fa_and, nx_xor, fa_or, nSHL, nSHR, nUS, n31, n255, Nat.and_one_is_mod, b_I, b_V, b_L, not_or, Nat.not_lt_zero, Nat.not_le, Nat.not_lt, not_false_eq_true, true_and, and_true, false_or, or_false, Classical.not_not, if_true, if_false, if_pos, if_neg]
    have z4 : nI b &&& 255 = nI b := by simp (disch := first | omega | assumption) only [fa_lit, nLE, nLT, nEQ, nI_add, nSA, nSUB, pk_mul, nDIV, nREM, nCL, fa_and, nx_xor, fa_or, nSHL, nSHR, nUS, n31, n255, Nat.and_one_is_mod, b_I, b_V, b_L, not_or, Nat.not_lt_zero, Nat.not_le, Nat.not_lt, not_false_eq_true, true_and, and_true, false_or, or_false, Classical.not_not, if_true, if_false, if_pos, if_neg]
    rw [if_neg z1, if_neg z2, z3, z4, nCL (by omega), nCL (by omega), if_pos (by simp (disch := first | omega | assumption) only [fa_lit, nLE, nLT, nEQ, nI_add, nSA, nSUB, pk_mul, nDIV, nREM, nCL, fa_and, nx_xor, fa_or, nSHL, nSHR, nUS, n31, n255, Nat.and_one_is_mod, b_I, b_V, b_L, not_or, Nat.not_lt_zero, Nat.not_le, Nat.not_lt, not_false_eq_true, true_and, and_true, false_or, or_false, Classical.not_not, if_true, if_false, if_pos, if_neg]; omega), if_pos (by simp (disch := first | omega | assumption) only [fa_lit, nLE, nLT, nEQ, nI_add, nSA, nSUB, pk_mul, nDIV, nREM, nCL, fa_and, nx_xor, fa_or, nSHL, nSHR, nUS, n31, n255, Nat.and_one_is_mod, b_I, b_V, b_L, not_or, Nat.not_lt_zero, Nat.not_le, Nat.not_lt, not_false_eq_true, true_and, and_true, false_or, or_false, Classical.not_not, if_true, if_false, if_pos, if_neg]; omega), h3 a ha, h3 b hb, show (255 : Int32) = nI 255 from rfl, e, b_I, if_neg ca]
    simp (disch := first | omega | assumption) only [fa_lit, nLE, nLT, nEQ, nI_add, nSA, nSUB, pk_mul, nDIV, nREM, nCL, fa_and, nx_xor, fa_or, nSHL, nSHR, nUS, n31, n255, Nat.and_one_is_mod, b_I, b_V, b_L, not_or, Nat.not_lt_zero, Nat.not_le, Nat.not_lt, not_false_eq_true, true_and, and_true, false_or, or_false, Classical.not_not, if_true, if_false, if_pos, if_neg, h2]
theorem M_product {F a b : Nat} {σ : gM} (hF : F < 4) (h : MF F σ) (ha : a < 256) (hb : b < 256) : fX12_product (nI a) (nI b) σ = some (nI (gm F a b), σ) := by
  obtain ⟨h2, h3⟩ := h
  have la := lg_lt hF ha
  have lb := lg_lt hF hb
  have hm : (lg F a + lg F b) % 255 < 255 := Nat.mod_lt _ (by decide)
  unfold fX12_product fX12_product_b8 gm
  by_cases ca : a = 0
  · subst ca; simp (disch := first | omega | assumption) only [fa_lit, nLE, nLT, nEQ, nI_add, nSA, nSUB, pk_mul, nDIV, nREM, nCL, fa_and, nx_xor, fa_or, nSHL, nSHR, nUS, n31, n255, Nat.and_one_is_mod, b_I, b_V, b_L, not_or, Nat.not_lt_zero, Nat.not_le, Nat.not_lt, not_false_eq_true, true_and, and_true, false_or, or_false, Classical.not_not, if_true, if_false, if_pos, if_neg]; all_goals simp
  · by_cases cb : b = 0
    · subst cb; simp (disch := first | omega | assumption) only [fa_lit, nLE, nLT, nEQ, nI_add, nSA, nSUB, pk_mul, nDIV, nREM, nCL, fa_and, nx_xor, fa_or, nSHL, nSHR, nUS, n31, n255, Nat.and_one_is_mod, b_I, b_V, b_L, not_or, Nat.not_lt_zero, Nat.not_le, Nat.not_lt, not_false_eq_true, true_and, and_true, false_or, or_false, Classical.not_not, if_true, if_false, if_pos, if_neg]; all_goals simp
    · simp (disch := first | omega | assumption) only [fa_lit, nLE, nLT, nEQ, nI_add, nSA, nSUB, pk_mul, nDIV, nREM, nCL, fa_and, nx_xor, fa_or, nSHL, nSHR, nUS, n31, n255, Nat.and_one_is_mod, b_I, b_V, b_L, not_or, Nat.not_lt_zero, Nat.not_le, Nat.not_lt, not_false_eq_true, true_and, and_true, false_or, or_false, Classical.not_not, if_true, if_false, if_pos, if_neg, h2, h3]
      congr 4; omega
theorem M_quotient {F a b : Nat} {σ : gM} (hF : F < 4) (h : MF F σ) (ha : a < 256) (hb : b < 256) : fX12_quotient (nI a) (nI b) σ = some (nI (gq F a b), σ) := by
  obtain ⟨h2, h3⟩ := h
  have la := lg_lt hF ha
  have lb := lg_lt hF hb
  have hm : (lg F a + 255 - lg F b) % 255 < 255 := Nat.mod_lt _ (by decide)
  unfold fX12_quotient gq
  by_cases ca : a = 0
  · subst ca; simp (disch := first | omega | assumption) only [fa_lit, nLE, nLT, nEQ, nI_add, nSA, nSUB, pk_mul, nDIV, nREM, nCL, fa_and, nx_xor, fa_or, nSHL, nSHR, nUS, n31, n255, Nat.and_one_is_mod, b_I, b_V, b_L, not_or, Nat.not_lt_zero, Nat.not_le, Nat.not_lt, not_false_eq_true, true_and, and_true, false_or, or_false, Classical.not_not, if_true, if_false, if_pos, if_neg]; all_goals simp
  · simp (disch := first | omega | assumption) only [fa_lit, nLE, nLT, nEQ, nI_add, nSA, nSUB, pk_mul, nDIV, nREM, nCL, fa_and, nx_xor, fa_or, nSHL, nSHR, nUS, n31, n255, Nat.and_one_is_mod, b_I, b_V, b_L, not_or, Nat.not_lt_zero, Nat.not_le, Nat.not_lt, not_false_eq_true, true_and, and_true, false_or, or_false, Classical.not_not, if_true, if_false, if_pos, if_neg, h2, h3]
    congr 4; omega
