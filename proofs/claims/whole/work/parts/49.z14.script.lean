/-! the face: scripts -/
theorem J_script {c : Nat} {σX σM : gM} (h : Inv c σX σM) (v : Int32) : (∃ j, j < 4 ∧ v = nI j ∧ SP j σX σM ∧ fX11_isScript v σX = some (1, σX) ∧ fX12_isScript v σM = some (1, σM)) ∨ (fX11_isScript v σX = some (0, σX) ∧ fX12_isScript v σM = some (0, σM)) := by
  obtain ⟨m, m1, m2, m3, m4⟩ := h.2.1
  unfold fX11_isScript fX12_isScript
  rw [m2, m3]
  rcases i_rng v (N := m) (by omega) with q | q | ⟨k, hk, rfl⟩
  · right
    rw [if_pos q, l_0, M_isIn_lo q (by omega), b_I, if_pos (by decide)]
    exact ⟨rfl, rfl⟩
  · right
    rw [if_neg q.1, if_pos q.2]
    have e : fX12_isIn v.toInt64 0 (nI m - 1).toInt64 σM = some (0, σM) := by
      by_cases z : m = 0
      · subst z
        rw [l_0, M_isIn, if_neg]
        intro w
        have e1 : (nI 0 - 1).toInt = -1 := by decide
        have e2 : (nI 0).toInt = 0 := by decide
        omega
      · rw [l_0, show nI m - 1 = nI (m - 1) from pk_sub (b := 1) (by omega)]
        exact M_isIn_hi (by rw [show m - 1 + 1 = m by omega]; exact q.2) (by omega) σM
    rw [e, b_I, if_pos (by decide)]
    exact ⟨rfl, rfl⟩
  · left
    refine ⟨k, by omega, rfl, m4 k hk, ?_, ?_⟩
    · rw [if_neg (by simp (disch := first | omega | assumption) only [fa_lit, nLE, nLT, nEQ, nI_add, nSA, nSUB, pk_mul, nDIV, nREM, nCL, fa_and, nx_xor, fa_or, nSHL, nSHR, nUS, n31, n255, Nat.and_one_is_mod, b_I, b_V, b_L, not_or, Nat.not_lt_zero, Nat.not_le, Nat.not_lt, not_false_eq_true, true_and, and_true, false_or, or_false, Classical.not_not, if_true, if_false, if_pos, if_neg] <;> omega), if_neg (by simp (disch := first | omega | assumption) only [fa_lit, nLE, nLT, nEQ, nI_add, nSA, nSUB, pk_mul, nDIV, nREM, nCL, fa_and, nx_xor, fa_or, nSHL, nSHR, nUS, n31, n255, Nat.and_one_is_mod, b_I, b_V, b_L, not_or, Nat.not_lt_zero, Nat.not_le, Nat.not_lt, not_false_eq_true, true_and, and_true, false_or, or_false, Classical.not_not, if_true, if_false, if_pos, if_neg] <;> omega), if_neg (by simp (disch := first | omega | assumption) only [fa_lit, nLE, nLT, nEQ, nI_add, nSA, nSUB, pk_mul, nDIV, nREM, nCL, fa_and, nx_xor, fa_or, nSHL, nSHR, nUS, n31, n255, Nat.and_one_is_mod, b_I, b_V, b_L, not_or, Nat.not_lt_zero, Nat.not_le, Nat.not_lt, not_false_eq_true, true_and, and_true, false_or, or_false, Classical.not_not, if_true, if_false, if_pos, if_neg] <;> omega), nCL (by omega), if_pos (by simp (disch := first | omega | assumption) only [fa_lit, nLE, nLT, nEQ, nI_add, nSA, nSUB, pk_mul, nDIV, nREM, nCL, fa_and, nx_xor, fa_or, nSHL, nSHR, nUS, n31, n255, Nat.and_one_is_mod, b_I, b_V, b_L, not_or, Nat.not_lt_zero, Nat.not_le, Nat.not_lt, not_false_eq_true, true_and, and_true, false_or, or_false, Classical.not_not, if_true, if_false, if_pos, if_neg] <;> omega)]
    · rw [l_0, show nI m - 1 = nI (m - 1) from pk_sub (b := 1) (by omega), M_isIn_yes (by omega) (by omega) (by omega), b_I, if_pos (by decide)]
theorem nmb_list : ∀ k, k < 9 → ([2, 1, 1, 2, 1, 4, 3, 0, 4] : List Int32).getD k 0 = nI (nmb k) := by decide
theorem nmb_le : ∀ k, k < 9 → nmb k ≤ 4 := by decide
theorem X_isStep {j k z : Nat} {σ : gM} (h : σ.1 (35 + 3 * j) 2 = nI z) (hk : k < z) (hz : z ≤ 16) : fX7_isStep j (nI k) σ = some (1, σ) := by
  unfold fX7_isStep
  rw [h, if_neg (by simp (disch := first | omega | assumption) only [fa_lit, nLE, nLT, nEQ, nI_add, nSA, nSUB, pk_mul, nDIV, nREM, nCL, fa_and, nx_xor, fa_or, nSHL, nSHR, nUS, n31, n255, Nat.and_one_is_mod, b_I, b_V, b_L, not_or, Nat.not_lt_zero, Nat.not_le, Nat.not_lt, not_false_eq_true, true_and, and_true, false_or, or_false, Classical.not_not, if_true, if_false, if_pos, if_neg] <;> omega), if_neg (by simp (disch := first | omega | assumption) only [fa_lit, nLE, nLT, nEQ, nI_add, nSA, nSUB, pk_mul, nDIV, nREM, nCL, fa_and, nx_xor, fa_or, nSHL, nSHR, nUS, n31, n255, Nat.and_one_is_mod, b_I, b_V, b_L, not_or, Nat.not_lt_zero, Nat.not_le, Nat.not_lt, not_false_eq_true, true_and, and_true, false_or, or_false, Classical.not_not, if_true, if_false, if_pos, if_neg] <;> omega), if_neg (by simp (disch := first | omega | assumption) only [fa_lit, nLE, nLT, nEQ, nI_add, nSA, nSUB, pk_mul, nDIV, nREM, nCL, fa_and, nx_xor, fa_or, nSHL, nSHR, nUS, n31, n255, Nat.and_one_is_mod, b_I, b_V, b_L, not_or, Nat.not_lt_zero, Nat.not_le, Nat.not_lt, not_false_eq_true, true_and, and_true, false_or, or_false, Classical.not_not, if_true, if_false, if_pos, if_neg] <;> omega)]
theorem X_sort {j k z : Nat} {σ : gM} (h : σ.1 (35 + 3 * j) 2 = nI z) (hk : k < z) (hz : z ≤ 16) : fX7_sort j (nI k) σ = some (σ.1 (36 + 3 * j) k, σ) := by
  unfold fX7_sort
  rw [X_isStep h hk hz, b_I, if_neg n10, nCL (by omega), if_pos (by simp (disch := first | omega | assumption) only [fa_lit, nLE, nLT, nEQ, nI_add, nSA, nSUB, pk_mul, nDIV, nREM, nCL, fa_and, nx_xor, fa_or, nSHL, nSHR, nUS, n31, n255, Nat.and_one_is_mod, b_I, b_V, b_L, not_or, Nat.not_lt_zero, Nat.not_le, Nat.not_lt, not_false_eq_true, true_and, and_true, false_or, or_false, Classical.not_not, if_true, if_false, if_pos, if_neg] <;> omega)]
theorem X_number {j k z q : Nat} {σ : gM} (h : σ.1 (35 + 3 * j) 2 = nI z) (hk : k < z) (hz : z ≤ 16) (hq : q < 4) : fX7_number j (nI k) (nI q) σ = some (σ.1 (37 + 3 * j) (4 * k + q), σ) := by
  have e : (4 : Int32) * nI k + nI q = nI (4 * k + q) := by
    rw [show (4 : Int32) * nI k = nI (4 * k) from pk_mul 4 k, nI_add]
  unfold fX7_number
  rw [X_isStep h hk hz, b_I, if_neg n10, if_neg (by simp (disch := first | omega | assumption) only [fa_lit, nLE, nLT, nEQ, nI_add, nSA, nSUB, pk_mul, nDIV, nREM, nCL, fa_and, nx_xor, fa_or, nSHL, nSHR, nUS, n31, n255, Nat.and_one_is_mod, b_I, b_V, b_L, not_or, Nat.not_lt_zero, Nat.not_le, Nat.not_lt, not_false_eq_true, true_and, and_true, false_or, or_false, Classical.not_not, if_true, if_false, if_pos, if_neg] <;> omega), if_neg (by simp (disch := first | omega | assumption) only [fa_lit, nLE, nLT, nEQ, nI_add, nSA, nSUB, pk_mul, nDIV, nREM, nCL, fa_and, nx_xor, fa_or, nSHL, nSHR, nUS, n31, n255, Nat.and_one_is_mod, b_I, b_V, b_L, not_or, Nat.not_lt_zero, Nat.not_le, Nat.not_lt, not_false_eq_true, true_and, and_true, false_or, or_false, Classical.not_not, if_true, if_false, if_pos, if_neg] <;> omega), e, nCL (by omega), if_pos (by simp (disch := first | omega | assumption) only [fa_lit, nLE, nLT, nEQ, nI_add, nSA, nSUB, pk_mul, nDIV, nREM, nCL, fa_and, nx_xor, fa_or, nSHL, nSHR, nUS, n31, n255, Nat.and_one_is_mod, b_I, b_V, b_L, not_or, Nat.not_lt_zero, Nat.not_le, Nat.not_lt, not_false_eq_true, true_and, and_true, false_or, or_false, Classical.not_not, if_true, if_false, if_pos, if_neg] <;> omega)]
section OPS
variable {c : Nat} {σX σM : gM}
theorem o39 (a1 a2 a3 : Int32) (h : Inv c σX σM) : ∃ (r : Int32) (τX τM : gM), fX11_step a1 a2 a3 σX = some (r, τX) ∧ fX12_step a1 a2 a3 σM = some (r, τM) ∧ Inv (c + 1) τX τM := by
  have h0 := Inv_0 h 0
  unfold fX11_step fX12_step
  rw [b_L]
  generalize g_put σM 0 0 0 = σ0 at *
  rcases J_script h0 a1 with ⟨j, hj, rfl, hSP, e1, e2⟩ | ⟨e1, e2⟩
  · obtain ⟨z, z1, z2, z3, z4, z5⟩ := hSP
    rw [e1, b_I, if_neg n10, e2, b_I, if_neg n10, nCL (by omega), if_pos (by simp (disch := first | omega | assumption) only [fa_lit, nLE, nLT, nEQ, nI_add, nSA, nSUB, pk_mul, nDIV, nREM, nCL, fa_and, nx_xor, fa_or, nSHL, nSHR, nUS, n31, n255, Nat.and_one_is_mod, b_I, b_V, b_L, not_or, Nat.not_lt_zero, Nat.not_le, Nat.not_lt, not_false_eq_true, true_and, and_true, false_or, or_false, Classical.not_not, if_true, if_false, if_pos, if_neg] <;> omega), if_pos (by simp (disch := first | omega | assumption) only [fa_lit, nLE, nLT, nEQ, nI_add, nSA, nSUB, pk_mul, nDIV, nREM, nCL, fa_and, nx_xor, fa_or, nSHL, nSHR, nUS, n31, n255, Nat.and_one_is_mod, b_I, b_V, b_L, not_or, Nat.not_lt_zero, Nat.not_le, Nat.not_lt, not_false_eq_true, true_and, and_true, false_or, or_false, Classical.not_not, if_true, if_false, if_pos, if_neg] <;> omega), z4]
    unfold fX7_tell fX7_tell_b17 fX12_step_b43
    rcases J_below a2 (N := z) (by omega) (by omega) with ⟨k, hk, rfl⟩ | ⟨q, e⟩
    · rw [X_isStep z3 hk z2, b_I, if_neg n10, l_0, show nI z - 1 = nI (z - 1) from pk_sub (b := 1) (by omega), M_isIn_yes (by omega) (by omega) (by omega), b_I, if_neg n10]
      rcases i_rng a3 (N := 5) (by omega) with q | q | ⟨x, hx, rfl⟩
      · rw [if_pos q, b_I, l_4, M_isIn_lo q (by omega), b_I, if_pos rfl]
        exact ⟨_, _, _, rfl, rfl, h0⟩
      · rw [if_neg q.1, if_neg (by
          intro z
          have z := Int32.le_iff_toInt_le.mp z
          have := Int32.le_iff_toInt_le.mp q.2
          rw [nI_toInt (by omega)] at this
          have e1 : (4 : Int32).toInt = 4 := by decide
          omega), b_I, l_4, M_isIn_hi q.2 (by omega), b_I, if_pos rfl]
        exact ⟨_, _, _, rfl, rfl, h0⟩
      · have y1 : ¬ nI x < 0 := by rw [show (0 : Int32) = nI 0 from rfl, nLT _ _ (by omega) (by omega)]; omega
        have y2 : nI x ≤ 4 := by rw [show (4 : Int32) = nI 4 from rfl, nLE _ _ (by omega) (by omega)]; omega
        obtain ⟨kk, k1, k2, k3, k4⟩ := z5 k hk
        have hn4 := nmb_le kk k1
        have ei : (5 : Int32) * (16 * nI j + nI k) + nI x = nI (5 * (16 * j + k) + x) := by
          rw [show (16 : Int32) * nI j = nI (16 * j) from pk_mul 16 j, nI_add, show (5 : Int32) * nI (16 * j + k) = nI (5 * (16 * j + k)) from pk_mul 5 _, nI_add]
        have eM : (g_bI (fX12_isIn (nI x).toInt64 (nI 0).toInt64 4 σ0) fun r30 σ29 => if r30 = 0 then some (-1000000, σ29) else if ¬((5 : Int32) * (16 * nI j + nI k) + nI x < 0 ∨ 400 ≤ ((5 : Int32) * (16 * nI j + nI k) + nI x).toNatClampNeg) then some (σ29.1 6 ((5 : Int32) * (16 * nI j + nI k) + nI x).toNatClampNeg, σ29) else none) = some (σ0.1 6 (5 * (16 * j + k) + x), σ0) := by
          rw [l_4, M_isIn_yes (by omega) (by omega) (by omega), b_I, if_neg n10, ei, nCL (by omega), if_pos (by simp (disch := first | omega | assumption) only [fa_lit, nLE, nLT, nEQ, nI_add, nSA, nSUB, pk_mul, nDIV, nREM, nCL, fa_and, nx_xor, fa_or, nSHL, nSHR, nUS, n31, n255, Nat.and_one_is_mod, b_I, b_V, b_L, not_or, Nat.not_lt_zero, Nat.not_le, Nat.not_lt, not_false_eq_true, true_and, and_true, false_or, or_false, Classical.not_not, if_true, if_false, if_pos, if_neg] <;> omega)]
        rw [eM, if_neg y1, if_pos y2, nCL (by omega)]
        by_cases x0 : x = 0
        · subst x0
          rw [if_pos (show nI 0 = 0 from rfl), if_pos (by simp (disch := first | omega | assumption) only [fa_lit, nLE, nLT, nEQ, nI_add, nSA, nSUB, pk_mul, nDIV, nREM, nCL, fa_and, nx_xor, fa_or, nSHL, nSHR, nUS, n31, n255, Nat.and_one_is_mod, b_I, b_V, b_L, not_or, Nat.not_lt_zero, Nat.not_le, Nat.not_lt, not_false_eq_true, true_and, and_true, false_or, or_false, Classical.not_not, if_true, if_false, if_pos, if_neg] <;> omega), b_I, k2, Nat.add_zero, k3]
          exact ⟨_, _, _, rfl, rfl, h0⟩
        · have y3 : ¬ nI x = 0 := nI_ne0 (by omega) (by omega)
          have en : fX7_numbersOf (nI kk) σX = some (nI (nmb kk), σX) := by
            unfold fX7_numbersOf
            rw [nCL (by omega), if_neg (by simp (disch := first | omega | assumption) only [fa_lit, nLE, nLT, nEQ, nI_add, nSA, nSUB, pk_mul, nDIV, nREM, nCL, fa_and, nx_xor, fa_or, nSHL, nSHR, nUS, n31, n255, Nat.and_one_is_mod, b_I, b_V, b_L, not_or, Nat.not_lt_zero, Nat.not_le, Nat.not_lt, not_false_eq_true, true_and, and_true, false_or, or_false, Classical.not_not, if_true, if_false, if_pos, if_neg] <;> omega), if_neg (by simp (disch := first | omega | assumption) only [fa_lit, nLE, nLT, nEQ, nI_add, nSA, nSUB, pk_mul, nDIV, nREM, nCL, fa_and, nx_xor, fa_or, nSHL, nSHR, nUS, n31, n255, Nat.and_one_is_mod, b_I, b_V, b_L, not_or, Nat.not_lt_zero, Nat.not_le, Nat.not_lt, not_false_eq_true, true_and, and_true, false_or, or_false, Classical.not_not, if_true, if_false, if_pos, if_neg] <;> omega), if_pos (by simp (disch := first | omega | assumption) only [fa_lit, nLE, nLT, nEQ, nI_add, nSA, nSUB, pk_mul, nDIV, nREM, nCL, fa_and, nx_xor, fa_or, nSHL, nSHR, nUS, n31, n255, Nat.and_one_is_mod, b_I, b_V, b_L, not_or, Nat.not_lt_zero, Nat.not_le, Nat.not_lt, not_false_eq_true, true_and, and_true, false_or, or_false, Classical.not_not, if_true, if_false, if_pos, if_neg] <;> omega), nmb_list kk k1]
          have e4 : (4 : Int32) * nI k + nI x - 1 = nI (4 * k + (x - 1)) := by
            rw [show (4 : Int32) * nI k = nI (4 * k) from pk_mul 4 k, nI_add, show nI (4 * k + x) - 1 = nI (4 * k + x - 1) from pk_sub (b := 1) (by omega), show 4 * k + x - 1 = 4 * k + (x - 1) by omega]
          have k5 := k4 (x - 1) (by omega)
          rw [show 5 * (16 * j + k) + 1 + (x - 1) = 5 * (16 * j + k) + x by omega] at k5
          rw [if_neg y3, if_pos (by simp (disch := first | omega | assumption) only [fa_lit, nLE, nLT, nEQ, nI_add, nSA, nSUB, pk_mul, nDIV, nREM, nCL, fa_and, nx_xor, fa_or, nSHL, nSHR, nUS, n31, n255, Nat.and_one_is_mod, b_I, b_V, b_L, not_or, Nat.not_lt_zero, Nat.not_le, Nat.not_lt, not_false_eq_true, true_and, and_true, false_or, or_false, Classical.not_not, if_true, if_false, if_pos, if_neg] <;> omega), k2, en, b_I, k5]
          by_cases y : x - 1 < nmb kk
          · rw [if_pos y, if_neg (by simp (disch := first | omega | assumption) only [fa_lit, nLE, nLT, nEQ, nI_add, nSA, nSUB, pk_mul, nDIV, nREM, nCL, fa_and, nx_xor, fa_or, nSHL, nSHR, nUS, n31, n255, Nat.and_one_is_mod, b_I, b_V, b_L, not_or, Nat.not_lt_zero, Nat.not_le, Nat.not_lt, not_false_eq_true, true_and, and_true, false_or, or_false, Classical.not_not, if_true, if_false, if_pos, if_neg] <;> omega), e4, nCL (by omega), if_pos (by simp (disch := first | omega | assumption) only [fa_lit, nLE, nLT, nEQ, nI_add, nSA, nSUB, pk_mul, nDIV, nREM, nCL, fa_and, nx_xor, fa_or, nSHL, nSHR, nUS, n31, n255, Nat.and_one_is_mod, b_I, b_V, b_L, not_or, Nat.not_lt_zero, Nat.not_le, Nat.not_lt, not_false_eq_true, true_and, and_true, false_or, or_false, Classical.not_not, if_true, if_false, if_pos, if_neg] <;> omega), b_I]
            exact ⟨_, _, _, rfl, rfl, h0⟩
          · rw [if_neg y, if_pos (by simp (disch := first | omega | assumption) only [fa_lit, nLE, nLT, nEQ, nI_add, nSA, nSUB, pk_mul, nDIV, nREM, nCL, fa_and, nx_xor, fa_or, nSHL, nSHR, nUS, n31, n255, Nat.and_one_is_mod, b_I, b_V, b_L, not_or, Nat.not_lt_zero, Nat.not_le, Nat.not_lt, not_false_eq_true, true_and, and_true, false_or, or_false, Classical.not_not, if_true, if_false, if_pos, if_neg] <;> omega), b_I]
            exact ⟨_, _, _, rfl, rfl, h0⟩
    · have e3 : fX7_isStep j a2 σX = some (0, σX) := by
        unfold fX7_isStep
        rw [z3]
        rcases q with q | q
        · rw [if_pos q]
        · rw [if_neg q.1, if_pos q.2]
      rw [e3, b_I, if_pos rfl, b_I, e, b_I, if_pos rfl]
      exact ⟨_, _, _, rfl, rfl, h0⟩
  · unfold fX12_step_b43
    rw [e1, b_I, if_pos rfl, e2, b_I, if_pos rfl]
    exact ⟨_, _, _, rfl, rfl, h0⟩
/-- a step's numbers, on both sides -/
theorem st_nums {σX σM : gM} {j k kk : Nat} (hk : kk < 9) (h : ∀ q, q < 4 → σM.1 6 (5 * (16 * j + k) + 1 + q) = if q < nmb kk then σX.1 (37 + 3 * j) (4 * k + q) else -1) : ∀ q, q < nmb kk → σX.1 (37 + 3 * j) (4 * k + q) = σM.1 6 (5 * (16 * j + k) + (1 + q)) := by
  intro q hq
  have := nmb_le kk hk
  rw [← Nat.add_assoc, h q (by omega), if_pos hq]
theorem ix5 {j k x : Nat} : (5 : Int32) * (16 * nI j + nI k) + nI x = nI (5 * (16 * j + k) + x) := by
  rw [show (16 : Int32) * nI j = nI (16 * j) from pk_mul 16 j, nI_add, show (5 : Int32) * nI (16 * j + k) = nI (5 * (16 * j + k)) from pk_mul 5 _, nI_add]
theorem ix50 {j k : Nat} : (5 : Int32) * (16 * nI j + nI k) = nI (5 * (16 * j + k)) := by
  rw [show (16 : Int32) * nI j = nI (16 * j) from pk_mul 16 j, nI_add, show (5 : Int32) * nI (16 * j + k) = nI (5 * (16 * j + k)) from pk_mul 5 _]
theorem J_perform {D S C F j z : Nat} (hj : j < 4) (hz : z ≤ 16) : ∀ (q mX mM k B : Nat) (σX σM : gM), k + q = z → q + 1 < mX → q + 1 < mM → B + q < 999999 → BIx D S C F B σX σM → σX.1 (35 + 3 * j) 2 = nI z → σM.1 7 j = nI z → (∀ i, i < z → ∃ k, k < 9 ∧ σX.1 (36 + 3 * j) i = nI k ∧ σM.1 6 (5 * (16 * j + i)) = nI k ∧ ∀ q, q < 4 → σM.1 6 (5 * (16 * j + i) + 1 + q) = if q < nmb k then σX.1 (37 + 3 * j) (4 * i + q) else -1) →
    ∃ (r : Int32) (τX τM : gM), fX11_perform_L29 1000 mX j (nI k) σX = some (r, τX) ∧ fX12_perform_L26 1000 mM (nI j) (nI k) 1 σM = some (r, τM) ∧ BIx D S C F (B + q) τX τM ∧ gj [11, 13, 25, 26, 29, 30] [14] σX τX ∧ gj [10, 11, 13, 14, 15] [21, 22, 26, 27, 28, 29, 30] σM τM := by
  intro q
  induction q with
  | zero =>
    intro mX mM k B σX σM hk hX hM hB hI s1 s2 s3
    obtain ⟨mX, rfl⟩ : ∃ m', mX = m' + 1 := ⟨mX - 1, by omega⟩
    obtain ⟨mM, rfl⟩ : ∃ m', mM = m' + 1 := ⟨mM - 1, by omega⟩
    show ∃ (r : Int32) (τX τM : gM), fX11_perform_b29 1000 (fX11_perform_L29 1000 mX) j (nI k) σX = some (r, τX) ∧ fX12_perform_b26 1000 (fX12_perform_L26 1000 mM) (nI j) (nI k) 1 σM = some (r, τM) ∧ _
    unfold fX11_perform_b29 fX12_perform_b26 fX7_size fX12_perform_b117
    have y1 : nI z ≤ nI k := by rw [nLE _ _ (by omega) (by omega)]; omega
    rw [s1, b_I, b_I, s1, if_pos y1, if_neg n10, nCL (by omega), if_pos (by simp (disch := first | omega | assumption) only [fa_lit, nLE, nLT, nEQ, nI_add, nSA, nSUB, pk_mul, nDIV, nREM, nCL, fa_and, nx_xor, fa_or, nSHL, nSHR, nUS, n31, n255, Nat.and_one_is_mod, b_I, b_V, b_L, not_or, Nat.not_lt_zero, Nat.not_le, Nat.not_lt, not_false_eq_true, true_and, and_true, false_or, or_false, Classical.not_not, if_true, if_false, if_pos, if_neg] <;> omega), s2, if_pos y1, show k = z by omega]
    exact ⟨_, σX, σM, rfl, rfl, hI, gj_refl _ _ _, gj_refl _ _ _⟩
  | succ q ih =>
    intro mX mM k B σX σM hk hX hM hB hI s1 s2 s3
    obtain ⟨mX, rfl⟩ : ∃ m', mX = m' + 1 := ⟨mX - 1, by omega⟩
    obtain ⟨mM, rfl⟩ : ∃ m', mM = m' + 1 := ⟨mM - 1, by omega⟩
    obtain ⟨kk, k1, k2, k3, k4⟩ := s3 k (by omega)
    have kn := st_nums k1 k4
    obtain ⟨r, y, τX, τM, e1, e2, e3, e4, e5, e6, e7, e8, e9⟩ := J_try (n := 1000) (by omega) hI (by omega) k1 (a := σX.1 (37 + 3 * j) (4 * k + 0)) (b := σX.1 (37 + 3 * j) (4 * k + 1)) (c := σX.1 (37 + 3 * j) (4 * k + 2)) (d := σX.1 (37 + 3 * j) (4 * k + 3)) (kn 0) (kn 1) (kn 2) (kn 3)
    show ∃ (r : Int32) (τX τM : gM), fX11_perform_b29 1000 (fX11_perform_L29 1000 mX) j (nI k) σX = some (r, τX) ∧ fX12_perform_b26 1000 (fX12_perform_L26 1000 mM) (nI j) (nI k) 1 σM = some (r, τM) ∧ _
    have y1 : ¬ nI z ≤ nI k := by rw [nLE _ _ (by omega) (by omega)]; omega
    have eX : fX11_perform_b29 1000 (fX11_perform_L29 1000 mX) j (nI k) σX = if τX.1 0 14 = -1 then fX11_perform_L29 1000 mX j (nI (k + 1)) τX else some (nI k, τX) := by
      unfold fX11_perform_b29 fX7_size
      rw [s1, b_I, if_neg y1, X_sort s1 (by omega) hz, b_I, show (0 : Int32) = nI 0 from rfl, show (1 : Int32) = nI 1 from rfl, show (2 : Int32) = nI 2 from rfl, show (3 : Int32) = nI 3 from rfl, X_number s1 (by omega) hz (by omega), b_I, X_number s1 (by omega) hz (by omega), b_I, X_number s1 (by omega) hz (by omega), b_I, X_number s1 (by omega) hz (by omega), b_I, k2, e1, b_I, nI_add]
    have eM : fX12_perform_b26 1000 (fX12_perform_L26 1000 mM) (nI j) (nI k) 1 σM = if y = -1 then fX12_perform_L26 1000 mM (nI j) (nI (k + 1)) 1 τM else fX12_perform_L26 1000 mM (nI j) (nI k) 0 τM := by
      unfold fX12_perform_b26 fX12_perform_b106
      have z0 : ¬ (nI j < 0 ∨ 5 ≤ j) := by rw [show (0 : Int32) = nI 0 from rfl, nLT _ _ (by omega) (by omega)]; omega
      have zz : ∀ x, x < 5 → ¬ (nI (5 * (16 * j + k) + x) < 0 ∨ 400 ≤ 5 * (16 * j + k) + x) := by
        intro x hx
        rw [show (0 : Int32) = nI 0 from rfl, nLT _ _ (by omega) (by omega)]; omega
      have zz0 := zz 0 (by omega)
      rw [Nat.add_zero] at zz0
      rw [if_neg n10, nCL (by omega), if_pos z0, s2, if_neg y1, show (1 : Int32) = nI 1 from rfl, show (2 : Int32) = nI 2 from rfl, show (3 : Int32) = nI 3 from rfl, show (4 : Int32) = nI 4 from rfl, ix5, ix5, ix5, ix5, ix50, nCL (by omega), nCL (by omega), nCL (by omega), nCL (by omega), nCL (by omega), if_pos zz0, if_pos (zz 1 (by omega)), if_pos (zz 2 (by omega)), if_pos (zz 3 (by omega)), if_pos (zz 4 (by omega)), k3, e2, b_I, if_neg (show ¬ nI 1 = 0 from n10), if_pos (show (0 : Int32) = 0 from rfl), nI_add]
    rw [eX, eM, e3]
    rcases e4 with e4 | ⟨w, hw, e4⟩
    · rw [if_pos e4, if_pos e4]
      obtain ⟨r', υX, υM, f1, f2, f3, f4, f5⟩ := ih mX mM (k + 1) (B + 1) τX τM (by omega) (by omega) (by omega) (by omega) e7 (by rw [e8.1 _ (by simp; omega) (by omega)]; exact s1) (by rw [e9.1 7 (by simp) (by decide)]; exact s2) (by
        rw [e8.1 _ (by simp; omega) (by omega), e8.1 (37 + 3 * j) (by simp; omega) (by omega), e9.1 6 (by simp) (by decide)]
        exact s3)
      refine ⟨r', υX, υM, f1, f2, ?_, gj_trans e8 f4, gj_trans e9 f5⟩
      rw [show B + (q + 1) = B + 1 + q by omega]
      exact f3
    · have e5' : ¬ y = -1 := by rw [e4]; exact nM1 (by omega)
      rw [if_neg e5', if_neg e5']
      obtain ⟨mM, rfl⟩ : ∃ m', mM = m' + 1 := ⟨mM - 1, by omega⟩
      refine ⟨nI k, τX, τM, rfl, ?_, ?_, e8, e9⟩
      · show fX12_perform_b26 1000 (fX12_perform_L26 1000 mM) (nI j) (nI k) 0 τM = _
        unfold fX12_perform_b26 fX12_perform_b117
        rw [if_pos rfl]
      · exact BIx_gj (by omega) e7 (gj_refl [] [] _) (gj_refl [] [] _) (by decide) (by decide) (by decide)
theorem o41 (hc : c < 512) (a1 : Int32) (h : Inv c σX σM) : ∃ (r : Int32) (τX τM : gM), fX11_perform 1000 a1 σX = some (r, τX) ∧ fX12_perform 1000 a1 σM = some (r, τM) ∧ Inv (c + 1) τX τM := by
  have g0 : gj [] [0] σM (g_put σM 0 0 0) := gj_put0 _ _ (by simp)
  have h0 : Inv c σX (g_put σM 0 0 0) := Inv_gk h (gj_refl [] [] _) g0 (by decide) (by decide) (by decide) (by decide)
  have h1 := Inv_0 h 0
  unfold fX11_perform fX12_perform
  rw [b_L]
  generalize g_put σM 0 0 0 = σ0 at *
  rcases J_script h0 a1 with ⟨j, hj, rfl, hSP, e1, e2⟩ | ⟨e1, e2⟩
  · rw [e1, b_I, if_neg n10, e2, b_I, if_neg n10, nCL (by omega)]
    obtain ⟨hT, hS, hU, hB⟩ := id h0
    rcases hB with hN | ⟨D, S, C, F, hB, hM⟩
    · rw [no_pres hN, b_I, if_pos rfl, if_pos hN.m14]
      exact ⟨_, _, _, rfl, rfl, h1⟩
    · obtain ⟨z, z1, z2, z3, z4, z5⟩ := hSP
      obtain ⟨r, τX, τM, f1, f2, f3, f4, f5⟩ := J_perform (D := D) (S := S) (C := C) (F := F) hj z2 z 1000 1000 0 (80 * c) σX σ0 (by omega) (by omega) (by omega) (by omega) hB z3 z4 z5
      obtain ⟨s, E, a, hh, e, g, Hs, haB, hI⟩ := hB
      have xz : ¬ (nI j < 0 ∨ 4 ≤ j) := by rw [show (0 : Int32) = nI 0 from rfl, nLT _ _ (by omega) (by omega)]; omega
      rw [hP55 hI.xe, b_I, if_neg n10, if_pos xz, if_neg (hA14 hI.me)]
      exact ⟨r, τX, τM, f1, f2, TP_gj hT f4 f5 (by decide) (by decide) (by decide), SC_gj hS f4 f5 (by decide) (by decide) (by decide) (by decide), ST_gj hU f4 f5 (by decide) (by decide), Or.inr ⟨D, S, C, F, BIx_gj (by omega) f3 (gj_refl [] [] _) (gj_refl [] [] _) (by decide) (by decide) (by decide), IM_gj (by omega) hM f4 f5 (by decide) (by decide) (by decide) (by decide)⟩⟩
  · rw [e1, b_I, if_pos rfl, e2, b_I, if_pos rfl]
    exact ⟨_, _, _, rfl, rfl, h1⟩
end OPS
