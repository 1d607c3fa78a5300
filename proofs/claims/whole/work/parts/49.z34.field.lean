/-! the tables of the field are laid -/
def vv (F k : Nat) : Nat := if k < 255 then pw F k else pw F 0
theorem vv_xt {F k : Nat} (hF : F < 4) (hk : k < 255) : xt F (pw F k) = vv F (k + 1) := by
  unfold vv
  by_cases c : k = 254
  · rw [c, pw_wrap F hF]; rfl
  · rw [if_pos (by omega)]; exact pw_xt F hF k (by omega)
theorem pol_I : ∀ F, F < 4 → ([285, 299, 301, 333] : List Int32).getD F 0 = nI (pol F) ∧ pol F < 512 := by decide
theorem pw_inj {F j k : Nat} (hF : F < 4) (hj : j < 255) (hk : k < 255) (h : pw F j = pw F k) : j = k := by
  rw [← lg_pw F hF j hj, ← lg_pw F hF k hk, h]
theorem X_fill {F : Nat} (hF : F < 4) {σ : gM} (h8 : σ.1 8 0 = 0) : ∃ σ', fX1_fill 1000 (nI F) σ = some σ' ∧ XF F σ' ∧ fr [6, 7, 8] σ σ' := by
  obtain ⟨p1, p2⟩ := pol_I F hF
  unfold fX1_fill
  rw [nCL (by omega), if_neg (by simp (disch := first | omega | assumption) only [fa_lit, nLE, nLT, nEQ, nI_add, nSA, nSUB, pk_mul, nDIV, nREM, nCL, fa_and, nx_xor, fa_or, nSHL, nSHR, nUS, n31, n255, Nat.and_one_is_mod, b_I, b_V, b_L, not_or, Nat.not_lt_zero, Nat.not_le, Nat.not_lt, not_false_eq_true, true_and, and_true, false_or, or_false, Classical.not_not, if_true, if_false, if_pos, if_neg] <;> omega), if_pos (by simp (disch := first | omega | assumption) only [fa_lit, nLE, nLT, nEQ, nI_add, nSA, nSUB, pk_mul, nDIV, nREM, nCL, fa_and, nx_xor, fa_or, nSHL, nSHR, nUS, n31, n255, Nat.and_one_is_mod, b_I, b_V, b_L, not_or, Nat.not_lt_zero, Nat.not_le, Nat.not_lt, not_false_eq_true, true_and, and_true, false_or, or_false, Classical.not_not, if_true, if_false, if_pos, if_neg] <;> omega), if_pos (by simp (disch := first | omega | assumption) only [fa_lit, nLE, nLT, nEQ, nI_add, nSA, nSUB, pk_mul, nDIV, nREM, nCL, fa_and, nx_xor, fa_or, nSHL, nSHR, nUS, n31, n255, Nat.and_one_is_mod, b_I, b_V, b_L, not_or, Nat.not_lt_zero, Nat.not_le, Nat.not_lt, not_false_eq_true, true_and, and_true, false_or, or_false, Classical.not_not, if_true, if_false, if_pos, if_neg] <;> omega), b_L, p1]
  have e1 : (1 : Int32) = nI (vv F 0) := by
    have := pw_small F hF 0 (by omega)
    unfold vv
    rw [if_pos (by omega), this]; rfl
  have key : ∃ σ', fX1_fill_L26 1000 1000 (nI (vv F 0)) (nI 0) (g_put σ 6 2 (nI (pol F))) = some σ' ∧ fr [7, 8] (g_put σ 6 2 (nI (pol F))) σ' ∧ (∀ j, j < 255 → σ'.1 7 j = nI (pw F j)) ∧ σ'.1 8 0 = 0 ∧ ∀ j, j < 255 → σ'.1 8 (pw F j) = nI j := by
    refine lp (L := fun m k (a : gM) => fX1_fill_L26 1000 m (nI (vv F k)) (nI k) a) (I := fun k a => fr [7, 8] (g_put σ 6 2 (nI (pol F))) a ∧ (∀ j, j < k → a.1 7 j = nI (pw F j)) ∧ a.1 8 0 = 0 ∧ ∀ j, j < k → a.1 8 (pw F j) = nI j) (Q := fun o => ∃ σ', o = some σ' ∧ fr [7, 8] (g_put σ 6 2 (nI (pol F))) σ' ∧ (∀ j, j < 255 → σ'.1 7 j = nI (pw F j)) ∧ σ'.1 8 0 = 0 ∧ ∀ j, j < 255 → σ'.1 8 (pw F j) = nI j) (N := 255) ?_ ?_ 255 1000 0 _ rfl (by omega) ⟨fr_refl _ _, fun j hj => by omega, by rw [gp_o (by decide)]; exact h8, fun j hj => by omega⟩
    · intro m k a hk hq
      obtain ⟨q1, q2, q3, q4⟩ := hq
      have hp := pw_lt F hF k hk
      have ev : vv F k = pw F k := by unfold vv; rw [if_pos hk]
      have e62 : a.1 6 2 = nI (pol F) := by rw [q1.1 6 (by simp), gp_s]
      have en : (nI (pw F k) <<< ((1 : Int32) &&& 31)) ^^^ (g_us (nI (pw F k)) 7 * nI (pol F)) = nI (vv F (k + 1)) := by
        rw [← vv_xt hF hk]
        unfold xt
        have : pw F k / 128 ≤ 1 := by omega
        rw [show ((1 : Int32) &&& 31) = nI 1 from by decide, nSHL (by omega) (by omega), show (7 : Int32) = nI 7 from rfl, nUS (by omega) (by omega), pk_mul, nx_xor]
      refine Or.inl ⟨g_put (g_put a 7 k (nI (pw F k))) 8 (pw F k) (nI k), ?_, fr_trans q1 (fr_trans (fr_put _ _ _ (by simp)) (fr_put _ _ _ (by simp))), fun j hj => ?_, ?_, fun j hj => ?_⟩
      · show fX1_fill_b26 1000 (fX1_fill_L26 1000 m) (nI (vv F k)) (nI k) a = _
        unfold fX1_fill_b26
        have e255 : nI (pw F k) &&& 255 = nI (pw F k) := by rw [show (255 : Int32) = nI 255 from rfl, fa_and, n255 (by omega)]
        rw [ev, if_neg (by simp (disch := first | omega | assumption) only [fa_lit, nLE, nLT, nEQ, nI_add, nSA, nSUB, pk_mul, nDIV, nREM, nCL, fa_and, nx_xor, fa_or, nSHL, nSHR, nUS, n31, n255, Nat.and_one_is_mod, b_I, b_V, b_L, not_or, Nat.not_lt_zero, Nat.not_le, Nat.not_lt, not_false_eq_true, true_and, and_true, false_or, or_false, Classical.not_not, if_true, if_false, if_pos, if_neg] <;> omega), nCL (by omega), if_pos (by simp (disch := first | omega | assumption) only [fa_lit, nLE, nLT, nEQ, nI_add, nSA, nSUB, pk_mul, nDIV, nREM, nCL, fa_and, nx_xor, fa_or, nSHL, nSHR, nUS, n31, n255, Nat.and_one_is_mod, b_I, b_V, b_L, not_or, Nat.not_lt_zero, Nat.not_le, Nat.not_lt, not_false_eq_true, true_and, and_true, false_or, or_false, Classical.not_not, if_true, if_false, if_pos, if_neg] <;> omega), b_L, e255, nCL (by omega), if_pos (by simp (disch := first | omega | assumption) only [fa_lit, nLE, nLT, nEQ, nI_add, nSA, nSUB, pk_mul, nDIV, nREM, nCL, fa_and, nx_xor, fa_or, nSHL, nSHR, nUS, n31, n255, Nat.and_one_is_mod, b_I, b_V, b_L, not_or, Nat.not_lt_zero, Nat.not_le, Nat.not_lt, not_false_eq_true, true_and, and_true, false_or, or_false, Classical.not_not, if_true, if_false, if_pos, if_neg] <;> omega), b_L, gp_o (by decide), gp_o (by decide), e62, en, show nI k + 1 = nI (k + 1) from nI_add k 1]
      · rw [gp_o (by decide), gp_k]
        by_cases e : j = k
        · rw [if_pos e, e]
        · rw [if_neg e]; exact q2 j (by omega)
      · rw [gp_k, if_neg (by omega), gp_o (by decide)]; exact q3
      · rw [gp_k]
        by_cases e : j = k
        · rw [if_pos (by rw [e]), e]
        · rw [if_neg (fun z => e (pw_inj hF (by omega) hk z)), gp_o (by decide)]; exact q4 j (by omega)
    · intro m a hq
      refine ⟨a, ?_, hq⟩
      show fX1_fill_b26 1000 (fX1_fill_L26 1000 m) (nI (vv F 255)) (nI 255) a = _
      unfold fX1_fill_b26
      rw [if_pos (by decide)]
  obtain ⟨σ', k1, k2, k3, k4, k5⟩ := key
  rw [e1]
  refine ⟨σ', k1, ⟨by rw [k2.1 6 (by simp), gp_s], k3, fun v hv => ?_⟩, fr_trans (fr_put _ _ _ (by simp)) (fr_mono k2 (by simp))⟩
  by_cases c : v = 0
  · rw [c, lg_0 F hF, k4]; rfl
  · obtain ⟨l1, l2⟩ := pw_lg F hF v hv (by omega)
    have := k5 _ l1
    rw [l2] at this
    exact this
theorem M_mod : ∀ F, F < 4 → ∀ σ : gM, fX12_modulusOf (nI F) σ = some (nI (pol F), σ) := by
  intro F hF σ
  rcases (show F = 0 ∨ F = 1 ∨ F = 2 ∨ F = 3 by omega) with rfl | rfl | rfl | rfl <;> rfl
theorem M_laysField {F : Nat} (hF : F < 4) {σ : gM} (h3 : σ.1 3 3 = nI F) (h9 : σ.1 9 0 = 0) : ∃ σ', fX12_laysField 1000 σ = some σ' ∧ MF F σ' ∧ fr [8, 9] σ σ' := by
  obtain ⟨p1, p2⟩ := pol_I F hF
  unfold fX12_laysField
  have e1 : (1 : Int32) = nI (vv F 0) := by
    have := pw_small F hF 0 (by omega)
    unfold vv
    rw [if_pos (by omega), this]; rfl
  have key : ∃ σ', fX12_laysField_L4 1000 1000 (nI (vv F 0)) (nI 0) σ = some σ' ∧ fr [8, 9] σ σ' ∧ (∀ j, j < 255 → σ'.1 8 j = nI (pw F j)) ∧ σ'.1 9 0 = 0 ∧ ∀ j, j < 255 → σ'.1 9 (pw F j) = nI j := by
    refine lp (L := fun m k (a : gM) => fX12_laysField_L4 1000 m (nI (vv F k)) (nI k) a) (I := fun k a => fr [8, 9] σ a ∧ (∀ j, j < k → a.1 8 j = nI (pw F j)) ∧ a.1 9 0 = 0 ∧ ∀ j, j < k → a.1 9 (pw F j) = nI j) (Q := fun o => ∃ σ', o = some σ' ∧ fr [8, 9] σ σ' ∧ (∀ j, j < 255 → σ'.1 8 j = nI (pw F j)) ∧ σ'.1 9 0 = 0 ∧ ∀ j, j < 255 → σ'.1 9 (pw F j) = nI j) (N := 255) ?_ ?_ 255 1000 0 _ rfl (by omega) ⟨fr_refl _ _, fun j hj => by omega, h9, fun j hj => by omega⟩
    · intro m k a hk hq
      obtain ⟨q1, q2, q3, q4⟩ := hq
      have hp := pw_lt F hF k hk
      have ev : vv F k = pw F k := by unfold vv; rw [if_pos hk]
      have e33 : a.1 3 3 = nI F := by rw [q1.1 3 (by simp)]; exact h3
      have e2 : (2 : Int32) * nI (pw F k) = nI (2 * pw F k) := pk_mul 2 _
      refine Or.inl ⟨g_put (g_put a 8 k (nI (pw F k))) 9 (pw F k) (nI k), ?_, fr_trans q1 (fr_trans (fr_put _ _ _ (by simp)) (fr_put _ _ _ (by simp))), fun j hj => ?_, ?_, fun j hj => ?_⟩
      · show fX12_laysField_b4 1000 (fX12_laysField_L4 1000 m) (nI (vv F k)) (nI k) a = _
        unfold fX12_laysField_b4 fX12_laysField_b48
        rw [ev, if_neg (by simp (disch := first | omega | assumption) only [fa_lit, nLE, nLT, nEQ, nI_add, nSA, nSUB, pk_mul, nDIV, nREM, nCL, fa_and, nx_xor, fa_or, nSHL, nSHR, nUS, n31, n255, Nat.and_one_is_mod, b_I, b_V, b_L, not_or, Nat.not_lt_zero, Nat.not_le, Nat.not_lt, not_false_eq_true, true_and, and_true, false_or, or_false, Classical.not_not, if_true, if_false, if_pos, if_neg] <;> omega), nCL (by omega), nCL (by omega), if_pos (by simp (disch := first | omega | assumption) only [fa_lit, nLE, nLT, nEQ, nI_add, nSA, nSUB, pk_mul, nDIV, nREM, nCL, fa_and, nx_xor, fa_or, nSHL, nSHR, nUS, n31, n255, Nat.and_one_is_mod, b_I, b_V, b_L, not_or, Nat.not_lt_zero, Nat.not_le, Nat.not_lt, not_false_eq_true, true_and, and_true, false_or, or_false, Classical.not_not, if_true, if_false, if_pos, if_neg] <;> omega), b_L, if_pos (by simp (disch := first | omega | assumption) only [fa_lit, nLE, nLT, nEQ, nI_add, nSA, nSUB, pk_mul, nDIV, nREM, nCL, fa_and, nx_xor, fa_or, nSHL, nSHR, nUS, n31, n255, Nat.and_one_is_mod, b_I, b_V, b_L, not_or, Nat.not_lt_zero, Nat.not_le, Nat.not_lt, not_false_eq_true, true_and, and_true, false_or, or_false, Classical.not_not, if_true, if_false, if_pos, if_neg] <;> omega), b_L, gp_o (by decide), gp_o (by decide), e33, M_mod F hF, b_I, e2, show nI k + 1 = nI (k + 1) from nI_add k 1]
        have hx := vv_xt hF hk
        unfold xt at hx
        by_cases c : 2 * pw F k ≤ 255
        · rw [if_pos (show nI (2 * pw F k) ≤ 255 by rw [show (255 : Int32) = nI 255 from rfl, nLE _ _ (by omega) (by omega)]; exact c)]
          rw [show pw F k / 128 = 0 by omega, Nat.zero_mul, Nat.xor_zero, Nat.mul_comm] at hx
          rw [hx]
        · rw [if_neg (show ¬ nI (2 * pw F k) ≤ 255 by rw [show (255 : Int32) = nI 255 from rfl, nLE _ _ (by omega) (by omega)]; exact c)]
          rw [show pw F k / 128 = 1 by omega, Nat.one_mul, Nat.mul_comm] at hx
          rw [nx_xor, hx]
      · rw [gp_o (by decide), gp_k]
        by_cases e : j = k
        · rw [if_pos e, e]
        · rw [if_neg e]; exact q2 j (by omega)
      · rw [gp_k, if_neg (by omega), gp_o (by decide)]; exact q3
      · rw [gp_k]
        by_cases e : j = k
        · rw [if_pos (by rw [e]), e]
        · rw [if_neg (fun z => e (pw_inj hF (by omega) hk z)), gp_o (by decide)]; exact q4 j (by omega)
    · intro m a hq
      refine ⟨a, ?_, hq⟩
      show fX12_laysField_b4 1000 (fX12_laysField_L4 1000 m) (nI (vv F 255)) (nI 255) a = _
      unfold fX12_laysField_b4
      rw [if_pos (by decide)]
  obtain ⟨σ', k1, k2, k3, k4, k5⟩ := key
  rw [e1]
  refine ⟨σ', k1, ⟨k3, fun v hv => ?_⟩, k2⟩
  by_cases c : v = 0
  · rw [c, lg_0 F hF, k4]; rfl
  · obtain ⟨l1, l2⟩ := pw_lg F hF v hv (by omega)
    have := k5 _ l1
    rw [l2] at this
    exact this
