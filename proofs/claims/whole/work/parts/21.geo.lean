/-! where all lies -/
def wfP (D S C F : Nat) : Prop := 2 ≤ D ∧ D ≤ 6 ∧ 1 ≤ S ∧ S ≤ 12 ∧ 1 ≤ C ∧ C ≤ 4 ∧ F < 4
def dk (D t r : Nat) : Nat := (D + 1 - t % (D + 2) + (if r < D then r + 2 else r - D)) % (D + 2)
def rl (D t d : Nat) : Nat := if 2 ≤ (d + (D + 2) - (D + 1 - t % (D + 2))) % (D + 2) then (d + (D + 2) - (D + 1 - t % (D + 2))) % (D + 2) - 2 else D + (d + (D + 2) - (D + 1 - t % (D + 2))) % (D + 2)
theorem dk_ok : ∀ D, D < 7 → 2 ≤ D → ∀ t, t < 12 → ∀ r, r < D + 2 → dk D t r < D + 2 ∧ rl D t (dk D t r) = r := by decide +kernel
theorem rl_ok : ∀ D, D < 7 → 2 ≤ D → ∀ t, t < 12 → ∀ d, d < D + 2 → rl D t d < D + 2 ∧ dk D t (rl D t d) = d := by decide +kernel
/-- the class's rules -/
def XR (D S C F : Nat) (σ : gM) : Prop := σ.1 5 0 = nI D ∧ σ.1 5 1 = nI S ∧ σ.1 5 2 = nI C ∧ σ.1 5 3 = nI F ∧ σ.1 5 5 = nI (D + 2) ∧ σ.1 5 6 = nI D ∧ σ.1 5 7 = nI (D + 1) ∧ σ.1 5 8 = nI (2 ^ D - 1) ∧ σ.1 5 9 = nI (2 ^ (D + 2) - 1)
/-- the reference's -/
def MR (D S C F : Nat) (σ : gM) : Prop := σ.1 3 0 = nI D ∧ σ.1 3 1 = nI S ∧ σ.1 3 2 = nI C ∧ σ.1 3 3 = nI F ∧ σ.1 0 13 = nI (D + 2) ∧ σ.1 0 14 = nI (D * S * C)
theorem fm_pos {a m : Nat} (ha : a < 1073741824) (h0 : 0 < m) (hm : m < 1073741824) (σ : gM) : fJ9_floorMod_7cf53 (nI a) (nI m) σ = some (nI (a % m), σ) := by
  unfold fJ9_floorMod_7cf53 fJ9_floorMod_7cf53_b18
  have hx : a ^^^ m < 2147483648 := Nat.xor_lt_two_pow (n := 31) (by omega) (by omega)
  simp (disch := first | omega | assumption) only [fa_lit, nLE, nLT, nEQ, nI_add, nSA, nSUB, pk_mul, nDIV, nREM, nCL, fa_and, nx_xor, fa_or, nSHL, nSHR, nUS, n31, n255, Nat.and_one_is_mod, b_I, b_V, b_L, not_or, Nat.not_lt_zero, Nat.not_le, Nat.not_lt, not_false_eq_true, true_and, and_true, false_or, or_false, Classical.not_not, if_true, if_false, if_pos, if_neg]
theorem nTI {a : Nat} (h : a < 2147483648) : (nI a).toInt = a := nI_toInt h
theorem fm_neg {k m : Nat} (h1 : 0 < k) (h2 : k < m) (hm : m < 1073741824) (σ : gM) : fJ9_floorMod_7cf53 (nI 0 - nI k) (nI m) σ = some (nI (m - k), σ) := by
  have hz : (nI 0 - nI k).toInt = -(k : Int) := by rw [pk_sub_toInt (by omega) (by omega)]; omega
  have hy : (nI m).toInt = m := nI_toInt (by omega)
  have hdiv : (nI 0 - nI k) / nI m = 0 := by
    apply Int32.toInt_inj.mp
    rw [Int32.toInt_div, hz, hy]
    have : (-(k : Int)).tdiv m = 0 := by rw [Int.neg_tdiv, Int.tdiv_eq_zero_of_lt (by omega) (by omega)]; rfl
    rw [this]
    decide
  have hneg : ¬ 0 ≤ (nI 0 - nI k) ^^^ nI m := by
    intro h
    have h3 := Int32.le_iff_toInt_le.mp h
    have e0 : (0 : Int32).toInt = 0 := by decide
    rw [e0] at h3
    have hb1 : (nI 0 - nI k).toBitVec.msb = true := by
      rw [BitVec.msb_eq_toInt]
      simp only [Int32.toInt_toBitVec] at *
      simp [hz]; omega
    have hb2 : (nI m).toBitVec.msb = false := by
      rw [BitVec.msb_eq_toInt]
      simp [hy]
    have hb3 : ((nI 0 - nI k) ^^^ nI m).toBitVec.msb = true := by
      rw [Int32.toBitVec_xor, BitVec.msb_xor, hb1, hb2]; rfl
    rw [BitVec.msb_eq_toInt] at hb3
    have hb4 : ((nI 0 - nI k) ^^^ nI m).toInt < 0 := of_decide_eq_true hb3
    omega
  have hne : ¬ nI m = 0 := nI_ne0 (by omega) (by omega)
  unfold fJ9_floorMod_7cf53
  rw [if_neg hne, if_neg hneg, hdiv]
  have e1 : nI 0 - nI k - 0 * nI m = nI 0 - nI k := by simp
  rw [e1, if_neg ?_]
  · rw [nSA (by omega), Nat.zero_add]
  · intro h
    have := congrArg Int32.toInt h
    rw [hz] at this
    have e0 : (0 : Int32).toInt = 0 := by decide
    omega
theorem fm_sub {a b m : Nat} (ha : a < 1000) (hb : b < a + m) (hm : 0 < m) (hm2 : m < 1000) (σ : gM) : fJ9_floorMod_7cf53 (nI a - nI b) (nI m) σ = some (nI ((a + m - b) % m), σ) := by
  by_cases h : b ≤ a
  · rw [pk_sub h, fm_pos (by omega) hm (by omega), show a + m - b = a - b + m by omega, Nat.add_mod_right]
  · have e : nI a - nI b = nI 0 - nI (b - a) := by
      rw [← pk_sub (by omega : a ≤ b)]
      apply Int32.toInt_inj.mp
      rw [show nI 0 = (0 : Int32) from rfl]
      congr 1
      rw [Int32.zero_sub, Int32.neg_sub]
    rw [e, fm_neg (by omega) (by omega) (by omega), Nat.mod_eq_of_lt (by omega), show m - (b - a) = a + m - b by omega]
theorem X_diskOf {D S C F r t : Nat} {σ : gM} (hw : wfP D S C F) (h : XR D S C F σ) (hr : r < D + 2) (ht : t < 12) : fX6_diskOf (nI r) (nI t) σ = some (nI (dk D t r), σ) := by
  obtain ⟨w1, w2, w3, w4, w5, w6, w7⟩ := hw
  obtain ⟨h0, h1, h2, h3, h5, h6, h7, h8, h9⟩ := h
  have hm : t % (D + 2) < D + 2 := Nat.mod_lt _ (by omega)
  unfold fX6_diskOf fX6_diskOf_b30 dk
  by_cases hc : r < D
  · simp (disch := first | omega | assumption) only [h0, h5, fa_lit, nLE, nLT, nEQ, nI_add, nSA, nSUB, pk_mul, nDIV, nREM, nCL, fa_and, nx_xor, fa_or, nSHL, nSHR, nUS, n31, n255, Nat.and_one_is_mod, b_I, b_V, b_L, not_or, Nat.not_lt_zero, Nat.not_le, Nat.not_lt, not_false_eq_true, true_and, and_true, false_or, or_false, Classical.not_not, if_true, if_false, if_pos, if_neg, fm_pos]
    congr 3
  · simp (disch := first | omega | assumption) only [h0, h5, fa_lit, nLE, nLT, nEQ, nI_add, nSA, nSUB, pk_mul, nDIV, nREM, nCL, fa_and, nx_xor, fa_or, nSHL, nSHR, nUS, n31, n255, Nat.and_one_is_mod, b_I, b_V, b_L, not_or, Nat.not_lt_zero, Nat.not_le, Nat.not_lt, not_false_eq_true, true_and, and_true, false_or, or_false, Classical.not_not, if_true, if_false, if_pos, if_neg, fm_pos]
    congr 3
theorem X_partOn {D S C F d t : Nat} {σ : gM} (hw : wfP D S C F) (h : XR D S C F σ) (hd : d < D + 2) (ht : t < 12) : fX6_partOn (nI d) (nI t) σ = some (nI (rl D t d), σ) := by
  obtain ⟨w1, w2, w3, w4, w5, w6, w7⟩ := hw
  obtain ⟨h0, h1, h2, h3, h5, h6, h7, h8, h9⟩ := h
  have hm : t % (D + 2) < D + 2 := Nat.mod_lt _ (by omega)
  have hq : (d + (D + 2) - (D + 1 - t % (D + 2))) % (D + 2) < D + 2 := Nat.mod_lt _ (by omega)
  have e1 : nI (D + 2) - 1 - (nI t - nI t / nI (D + 2) * nI (D + 2)) = nI (D + 1 - t % (D + 2)) := by
    simp (disch := first | omega | assumption) only [fa_lit, nLE, nLT, nEQ, nI_add, nSA, nSUB, pk_mul, nDIV, nREM, nCL, fa_and, nx_xor, fa_or, nSHL, nSHR, nUS, n31, n255, Nat.and_one_is_mod, b_I, b_V, b_L, not_or, Nat.not_lt_zero, Nat.not_le, Nat.not_lt, not_false_eq_true, true_and, and_true, false_or, or_false, Classical.not_not, if_true, if_false, if_pos, if_neg]
    congr 1
  unfold fX6_partOn
  rw [h5, e1, fm_sub (by omega) (by omega) (by omega) (by omega)]
  simp only [b_I, h0]
  unfold rl
  generalize (d + (D + 2) - (D + 1 - t % (D + 2))) % (D + 2) = q at hq ⊢
  by_cases hc : 2 ≤ q
  · simp (disch := first | omega | assumption) only [fa_lit, nLE, nLT, nEQ, nI_add, nSA, nSUB, pk_mul, nDIV, nREM, nCL, fa_and, nx_xor, fa_or, nSHL, nSHR, nUS, n31, n255, Nat.and_one_is_mod, b_I, b_V, b_L, not_or, Nat.not_lt_zero, Nat.not_le, Nat.not_lt, not_false_eq_true, true_and, and_true, false_or, or_false, Classical.not_not, if_true, if_false, if_pos, if_neg]
  · simp (disch := first | omega | assumption) only [fa_lit, nLE, nLT, nEQ, nI_add, nSA, nSUB, pk_mul, nDIV, nREM, nCL, fa_and, nx_xor, fa_or, nSHL, nSHR, nUS, n31, n255, Nat.and_one_is_mod, b_I, b_V, b_L, not_or, Nat.not_lt_zero, Nat.not_le, Nat.not_lt, not_false_eq_true, true_and, and_true, false_or, or_false, Classical.not_not, if_true, if_false, if_pos, if_neg]
theorem M_diskOf {D S C F r t : Nat} {σ : gM} (hw : wfP D S C F) (h : MR D S C F σ) (hr : r < D + 2) (ht : t < 12) : fX12_diskOf (nI t) (nI r) σ = some (nI (dk D t r), σ) := by
  obtain ⟨w1, w2, w3, w4, w5, w6, w7⟩ := hw
  obtain ⟨h0, h1, h2, h3, h5, h6⟩ := h
  have hm : t % (D + 2) < D + 2 := Nat.mod_lt _ (by omega)
  by_cases hc : r < D
  · unfold fX12_diskOf fX12_diskOf_b33 fX12_pDisk dk
    simp (disch := first | omega | assumption) only [h0, h5, fa_lit, nLE, nLT, nEQ, nI_add, nSA, nSUB, pk_mul, nDIV, nREM, nCL, fa_and, nx_xor, fa_or, nSHL, nSHR, nUS, n31, n255, Nat.and_one_is_mod, b_I, b_V, b_L, not_or, Nat.not_lt_zero, Nat.not_le, Nat.not_lt, not_false_eq_true, true_and, and_true, false_or, or_false, Classical.not_not, if_true, if_false, if_pos, if_neg]
    congr 3
  · by_cases hc2 : r = D
    · subst hc2
      have e : dk r t r = r + 1 - t % (r + 2) := by
        unfold dk; rw [if_neg (by omega), Nat.sub_self, Nat.add_zero, Nat.mod_eq_of_lt (by omega)]
      rw [e]
      unfold fX12_diskOf fX12_diskOf_b33 fX12_pDisk
      simp (disch := first | omega | assumption) only [h0, h5, fa_lit, nLE, nLT, nEQ, nI_add, nSA, nSUB, pk_mul, nDIV, nREM, nCL, fa_and, nx_xor, fa_or, nSHL, nSHR, nUS, n31, n255, Nat.and_one_is_mod, b_I, b_V, b_L, not_or, Nat.not_lt_zero, Nat.not_le, Nat.not_lt, not_false_eq_true, true_and, and_true, false_or, or_false, Classical.not_not, if_true, if_false, if_pos, if_neg]
      rw [Nat.add_zero, Nat.mod_eq_of_lt (by omega)]
      congr 3
    · have : r = D + 1 := by omega
      subst this
      have e : dk D t (D + 1) = (D + 1 - t % (D + 2) + 1) % (D + 2) := by
        unfold dk; rw [if_neg (by omega), Nat.add_sub_cancel_left]
      rw [e]
      unfold fX12_diskOf fX12_diskOf_b33 fX12_pDisk
      simp (disch := first | omega | assumption) only [h0, h5, fa_lit, nLE, nLT, nEQ, nI_add, nSA, nSUB, pk_mul, nDIV, nREM, nCL, fa_and, nx_xor, fa_or, nSHL, nSHR, nUS, n31, n255, Nat.and_one_is_mod, b_I, b_V, b_L, not_or, Nat.not_lt_zero, Nat.not_le, Nat.not_lt, not_false_eq_true, true_and, and_true, false_or, or_false, Classical.not_not, if_true, if_false, if_pos, if_neg]
      congr 3
theorem M_roleOf {D S C F d t : Nat} {σ : gM} (hw : wfP D S C F) (h : MR D S C F σ) (hd : d < D + 2) (ht : t < 12) : fX12_roleOf (nI t) (nI d) σ = some (nI (rl D t d), σ) := by
  obtain ⟨w1, w2, w3, w4, w5, w6, w7⟩ := hw
  obtain ⟨h0, h1, h2, h3, h5, h6⟩ := h
  have hm : t % (D + 2) < D + 2 := Nat.mod_lt _ (by omega)
  have e1 : nI (D + 2) - 1 - (nI t - nI t / nI (D + 2) * nI (D + 2)) = nI (D + 1 - t % (D + 2)) := by
    simp (disch := first | omega | assumption) only [fa_lit, nLE, nLT, nEQ, nI_add, nSA, nSUB, pk_mul, nDIV, nREM, nCL, fa_and, nx_xor, fa_or, nSHL, nSHR, nUS, n31, n255, Nat.and_one_is_mod, b_I, b_V, b_L, not_or, Nat.not_lt_zero, Nat.not_le, Nat.not_lt, not_false_eq_true, true_and, and_true, false_or, or_false, Classical.not_not, if_true, if_false, if_pos, if_neg]
    congr 1
  have hq : (d + (D + 2) - (D + 1 - t % (D + 2))) % (D + 2) < D + 2 := Nat.mod_lt _ (by omega)
  have e2 : nI d - nI (D + 1 - t % (D + 2)) + nI (D + 2) - (nI d - nI (D + 1 - t % (D + 2)) + nI (D + 2)) / nI (D + 2) * nI (D + 2) = nI ((d + (D + 2) - (D + 1 - t % (D + 2))) % (D + 2)) := by
    simp (disch := first | omega | assumption) only [fa_lit, nLE, nLT, nEQ, nI_add, nSA, nSUB, pk_mul, nDIV, nREM, nCL, fa_and, nx_xor, fa_or, nSHL, nSHR, nUS, n31, n255, Nat.and_one_is_mod, b_I, b_V, b_L, not_or, Nat.not_lt_zero, Nat.not_le, Nat.not_lt, not_false_eq_true, true_and, and_true, false_or, or_false, Classical.not_not, if_true, if_false, if_pos, if_neg]
  unfold fX12_roleOf fX12_pDisk
  have hne : ¬ nI (D + 2) = 0 := nI_ne0 (by omega) (by omega)
  rw [h5, if_neg hne, b_I, e1]
  simp only [h5, h0, if_neg hne]
  rw [e2]
  unfold rl
  generalize (d + (D + 2) - (D + 1 - t % (D + 2))) % (D + 2) = q at hq ⊢
  rcases (show q = 0 ∨ q = 1 ∨ 2 ≤ q by omega) with rfl | rfl | hc
  · simp (disch := first | omega | assumption) only [fa_lit, nLE, nLT, nEQ, nI_add, nSA, nSUB, pk_mul, nDIV, nREM, nCL, fa_and, nx_xor, fa_or, nSHL, nSHR, nUS, n31, n255, Nat.and_one_is_mod, b_I, b_V, b_L, not_or, Nat.not_lt_zero, Nat.not_le, Nat.not_lt, not_false_eq_true, true_and, and_true, false_or, or_false, Classical.not_not, if_true, if_false, if_pos, if_neg]
    all_goals simp
  · simp (disch := first | omega | assumption) only [fa_lit, nLE, nLT, nEQ, nI_add, nSA, nSUB, pk_mul, nDIV, nREM, nCL, fa_and, nx_xor, fa_or, nSHL, nSHR, nUS, n31, n255, Nat.and_one_is_mod, b_I, b_V, b_L, not_or, Nat.not_lt_zero, Nat.not_le, Nat.not_lt, not_false_eq_true, true_and, and_true, false_or, or_false, Classical.not_not, if_true, if_false, if_pos, if_neg]
    all_goals simp
  · simp (disch := first | omega | assumption) only [fa_lit, nLE, nLT, nEQ, nI_add, nSA, nSUB, pk_mul, nDIV, nREM, nCL, fa_and, nx_xor, fa_or, nSHL, nSHR, nUS, n31, n255, Nat.and_one_is_mod, b_I, b_V, b_L, not_or, Nat.not_lt_zero, Nat.not_le, Nat.not_lt, not_false_eq_true, true_and, and_true, false_or, or_false, Classical.not_not, if_true, if_false, if_pos, if_neg]
theorem X_byteOf {D S C F a : Nat} {σ : gM} (hw : wfP D S C F) (h : XR D S C F σ) (ha : a < 1000) : fX6_byteOf (nI a) σ = some (nI (a % C), σ) := by
  obtain ⟨w1, w2, w3, w4, w5, w6, w7⟩ := hw
  obtain ⟨h0, h1, h2, h3, h5, h6, h7, h8, h9⟩ := h
  unfold fX6_byteOf
  simp (disch := first | omega | assumption) only [h2, fa_lit, nLE, nLT, nEQ, nI_add, nSA, nSUB, pk_mul, nDIV, nREM, nCL, fa_and, nx_xor, fa_or, nSHL, nSHR, nUS, n31, n255, Nat.and_one_is_mod, b_I, b_V, b_L, not_or, Nat.not_lt_zero, Nat.not_le, Nat.not_lt, not_false_eq_true, true_and, and_true, false_or, or_false, Classical.not_not, if_true, if_false, if_pos, if_neg]
theorem X_partOf {D S C F a : Nat} {σ : gM} (hw : wfP D S C F) (h : XR D S C F σ) (ha : a < 1000) : fX6_partOf (nI a) σ = some (nI (a / C % D), σ) := by
  obtain ⟨w1, w2, w3, w4, w5, w6, w7⟩ := hw
  obtain ⟨h0, h1, h2, h3, h5, h6, h7, h8, h9⟩ := h
  have h : a / C ≤ a := Nat.div_le_self _ _
  unfold fX6_partOf
  simp (disch := first | omega | assumption) only [h0, h2, fa_lit, nLE, nLT, nEQ, nI_add, nSA, nSUB, pk_mul, nDIV, nREM, nCL, fa_and, nx_xor, fa_or, nSHL, nSHR, nUS, n31, n255, Nat.and_one_is_mod, b_I, b_V, b_L, not_or, Nat.not_lt_zero, Nat.not_le, Nat.not_lt, not_false_eq_true, true_and, and_true, false_or, or_false, Classical.not_not, if_true, if_false, if_pos, if_neg]
theorem X_stripeOf {D S C F a : Nat} {σ : gM} (hw : wfP D S C F) (h : XR D S C F σ) (ha : a < 1000) : fX6_stripeOf (nI a) σ = some (nI (a / C / D), σ) := by
  obtain ⟨w1, w2, w3, w4, w5, w6, w7⟩ := hw
  obtain ⟨h0, h1, h2, h3, h5, h6, h7, h8, h9⟩ := h
  have h : a / C ≤ a := Nat.div_le_self _ _
  unfold fX6_stripeOf
  simp (disch := first | omega | assumption) only [h0, h2, fa_lit, nLE, nLT, nEQ, nI_add, nSA, nSUB, pk_mul, nDIV, nREM, nCL, fa_and, nx_xor, fa_or, nSHL, nSHR, nUS, n31, n255, Nat.and_one_is_mod, b_I, b_V, b_L, not_or, Nat.not_lt_zero, Nat.not_le, Nat.not_lt, not_false_eq_true, true_and, and_true, false_or, or_false, Classical.not_not, if_true, if_false, if_pos, if_neg]
theorem M_byteOf {D S C F a : Nat} {σ : gM} (hw : wfP D S C F) (h : MR D S C F σ) (ha : a < 1000) : fX12_byteOf (nI a) σ = some (nI (a % C), σ) := by
  obtain ⟨w1, w2, w3, w4, w5, w6, w7⟩ := hw
  obtain ⟨h0, h1, h2, h3, h5, h6⟩ := h
  unfold fX12_byteOf
  simp (disch := first | omega | assumption) only [h2, fa_lit, nLE, nLT, nEQ, nI_add, nSA, nSUB, pk_mul, nDIV, nREM, nCL, fa_and, nx_xor, fa_or, nSHL, nSHR, nUS, n31, n255, Nat.and_one_is_mod, b_I, b_V, b_L, not_or, Nat.not_lt_zero, Nat.not_le, Nat.not_lt, not_false_eq_true, true_and, and_true, false_or, or_false, Classical.not_not, if_true, if_false, if_pos, if_neg]
theorem M_partOf {D S C F a : Nat} {σ : gM} (hw : wfP D S C F) (h : MR D S C F σ) (ha : a < 1000) : fX12_partOf (nI a) σ = some (nI (a / C % D), σ) := by
  obtain ⟨w1, w2, w3, w4, w5, w6, w7⟩ := hw
  obtain ⟨h0, h1, h2, h3, h5, h6⟩ := h
  have h : a / C ≤ a := Nat.div_le_self _ _
  unfold fX12_partOf
  simp (disch := first | omega | assumption) only [h0, h2, fa_lit, nLE, nLT, nEQ, nI_add, nSA, nSUB, pk_mul, nDIV, nREM, nCL, fa_and, nx_xor, fa_or, nSHL, nSHR, nUS, n31, n255, Nat.and_one_is_mod, b_I, b_V, b_L, not_or, Nat.not_lt_zero, Nat.not_le, Nat.not_lt, not_false_eq_true, true_and, and_true, false_or, or_false, Classical.not_not, if_true, if_false, if_pos, if_neg]
theorem M_stripeOf {D S C F a : Nat} {σ : gM} (hw : wfP D S C F) (h : MR D S C F σ) (ha : a < 1000) : fX12_stripeOf (nI a) σ = some (nI (a / C / D), σ) := by
  obtain ⟨w1, w2, w3, w4, w5, w6, w7⟩ := hw
  obtain ⟨h0, h1, h2, h3, h5, h6⟩ := h
  have h : a / C ≤ a := Nat.div_le_self _ _
  unfold fX12_stripeOf
  simp (disch := first | omega | assumption) only [h0, h2, fa_lit, nLE, nLT, nEQ, nI_add, nSA, nSUB, pk_mul, nDIV, nREM, nCL, fa_and, nx_xor, fa_or, nSHL, nSHR, nUS, n31, n255, Nat.and_one_is_mod, b_I, b_V, b_L, not_or, Nat.not_lt_zero, Nat.not_le, Nat.not_lt, not_false_eq_true, true_and, and_true, false_or, or_false, Classical.not_not, if_true, if_false, if_pos, if_neg]
