/-! what is missing, solved by the reference -/
theorem nM1' {r : Nat} (h : r < 2147483648) : ¬ (nI r = -1 ∨ nI r = -1) := fun e => e.elim (nM1 h) (nM1 h)
theorem M_solves {D S C F n : Nat} {v : Nat → Nat} {is : Nat → Bool} {σ : gM} (hn : 20 ≤ n) (hE : ME D S C F σ) (hV : MV D v σ) (hI : MI D is σ) (hv : ∀ r, r < D + 2 → v r < 256) (h0' : ∀ r, r < D + 2 → is r = false → v r = 0) (h2 : ct (fun r => !is r) (D + 2) ≤ 2) :
    ∃ σ', fX12_solves n σ = some σ' ∧ MV D (so F D is v) σ' ∧ fr [14] σ σ' := by
  have hw := hE.1
  obtain ⟨w1, w2, w3, w4, w5, w6, w7⟩ := hw
  have hv1 := so1_lt (is := is) w7 hv
  have hv2 := so2_lt (is := is) w7 hv
  have q3 : ∀ σ2, ME D S C F σ2 → MI D is σ2 → MV D (so2 F D is v) σ2 → ∃ σ', fX12_solves_b217 n (nI (D + 1)) σ2 = some σ' ∧ MV D (so F D is v) σ' ∧ fr [14] σ2 σ' := by
    intro σ2 hE2 I2 V2
    unfold fX12_solves_b217 so
    rw [nCL (by omega), if_pos (by simp (disch := first | omega | assumption) only [fa_lit, nLE, nLT, nEQ, nI_add, nSA, nSUB, pk_mul, nDIV, nREM, nCL, fa_and, nx_xor, fa_or, nSHL, nSHR, nUS, n31, n255, Nat.and_one_is_mod, b_I, b_V, b_L, not_or, Nat.not_lt_zero, Nat.not_le, Nat.not_lt, not_false_eq_true, true_and, and_true, false_or, or_false, Classical.not_not, if_true, if_false, if_pos, if_neg] <;> omega), I2 (D + 1) (by omega)]
    by_cases c : is (D + 1) = true
    · rw [if_pos c, if_neg (by decide), if_pos c]
      exact ⟨σ2, rfl, V2, fr_refl _ _⟩
    · rw [if_neg c, if_pos (show nI 0 = 0 from rfl), if_neg c, M_sum1 hn hE2 V2 hv2 (fun r hr e => absurd e (nM1' (by omega))), b_I, if_pos (by simp (disch := first | omega | assumption) only [fa_lit, nLE, nLT, nEQ, nI_add, nSA, nSUB, pk_mul, nDIV, nREM, nCL, fa_and, nx_xor, fa_or, nSHL, nSHR, nUS, n31, n255, Nat.and_one_is_mod, b_I, b_V, b_L, not_or, Nat.not_lt_zero, Nat.not_le, Nat.not_lt, not_false_eq_true, true_and, and_true, false_or, or_false, Classical.not_not, if_true, if_false, if_pos, if_neg] <;> omega), b_L]
      exact ⟨_, rfl, MV_put V2, fr_put _ _ _ (by simp)⟩
  have q2 : ∀ σ2, ME D S C F σ2 → MI D is σ2 → MV D (so1 F D is v) σ2 → ∃ σ', fX12_solves_b195 n (nI D) (nI (D + 1)) σ2 = some σ' ∧ MV D (so F D is v) σ' ∧ fr [14] σ2 σ' := by
    intro σ2 hE2 I2 V2
    unfold fX12_solves_b195
    rw [nCL (by omega), if_pos (by simp (disch := first | omega | assumption) only [fa_lit, nLE, nLT, nEQ, nI_add, nSA, nSUB, pk_mul, nDIV, nREM, nCL, fa_and, nx_xor, fa_or, nSHL, nSHR, nUS, n31, n255, Nat.and_one_is_mod, b_I, b_V, b_L, not_or, Nat.not_lt_zero, Nat.not_le, Nat.not_lt, not_false_eq_true, true_and, and_true, false_or, or_false, Classical.not_not, if_true, if_false, if_pos, if_neg] <;> omega), I2 D (by omega)]
    by_cases c : is D = true
    · rw [if_pos c, if_neg (by decide)]
      refine q3 σ2 hE2 I2 ?_
      rw [so2, if_pos c]; exact V2
    · rw [if_neg c, if_pos (show nI 0 = 0 from rfl), M_sum0 hn hE2 V2 (fun r hr e => absurd e (nM1' (by omega))), b_I, if_pos (by simp (disch := first | omega | assumption) only [fa_lit, nLE, nLT, nEQ, nI_add, nSA, nSUB, pk_mul, nDIV, nREM, nCL, fa_and, nx_xor, fa_or, nSHL, nSHR, nUS, n31, n255, Nat.and_one_is_mod, b_I, b_V, b_L, not_or, Nat.not_lt_zero, Nat.not_le, Nat.not_lt, not_false_eq_true, true_and, and_true, false_or, or_false, Classical.not_not, if_true, if_false, if_pos, if_neg] <;> omega), b_L]
      have f2 : fr [14] σ2 (g_put σ2 14 D (nI (sp (so1 F D is v) D))) := fr_put _ _ _ (by simp)
      obtain ⟨σ3, e3, B3, f3⟩ := q3 _ (ME_fr hE2 f2 (by simp) (by simp) (by simp) (by simp)) (MI_fr I2 f2 (by simp)) (by
        rw [so2, if_neg c]
        exact MV_put V2)
      exact ⟨σ3, e3, B3, fr_trans f2 f3⟩
  obtain ⟨h0, h1, h2', h3, h5, h6⟩ := hE.2.1
  have eQ : nI D + 1 = nI (D + 1) := nI_add D 1
  unfold fX12_solves
  rw [show (0 : Int32) = nI 0 from rfl, M_missing hn hE hI (by omega), b_I, h0, eQ]
  have em : mi is 0 (D - 0) = mi1 is D := rfl
  rw [em]
  rcases mi_cls h2 with ⟨a1, a2⟩ | ⟨a1, a2, a3, a4⟩ | ⟨a1, a2, a3, a4, a5, a6, a7⟩
  · rw [if_pos a1, if_pos rfl]
    unfold fX12_solves_b33
    rw [if_pos rfl, if_pos rfl]
    refine q2 σ hE hI ?_
    rw [so1, if_pos a1]; exact hV
  · have hm2 : mi is (mi1 is D + 1) (D - (mi1 is D + 1)) = D := a2
    have x1 : ¬ mi1 is D = D := by omega
    rw [if_neg x1, if_neg (nM1 (by omega)), show nI (mi1 is D) + 1 = nI (mi1 is D + 1) from nI_add _ 1, M_missing hn hE hI (by omega), b_I, hm2, if_pos rfl]
    have hz1 : ∀ r, r < D → (nI r = nI (mi1 is D) ∨ nI r = -1) → v r = 0 := by
      intro r hr e
      rcases e with e | e
      · have := (nI_eq (by omega) (by omega)).mp e
        rw [this]; exact h0' _ (by omega) a3
      · exact absurd e (nM1 (by omega))
    have fin : ∃ σ', fX12_solves_b194 n (nI D) (nI (D + 1)) (nI (soB F D is v (mi1 is D))) (nI (mi1 is D)) σ = some σ' ∧ MV D (so F D is v) σ' ∧ fr [14] σ σ' := by
      unfold fX12_solves_b194
      rw [nCL (by omega), if_pos (by simp (disch := first | omega | assumption) only [fa_lit, nLE, nLT, nEQ, nI_add, nSA, nSUB, pk_mul, nDIV, nREM, nCL, fa_and, nx_xor, fa_or, nSHL, nSHR, nUS, n31, n255, Nat.and_one_is_mod, b_I, b_V, b_L, not_or, Nat.not_lt_zero, Nat.not_le, Nat.not_lt, not_false_eq_true, true_and, and_true, false_or, or_false, Classical.not_not, if_true, if_false, if_pos, if_neg] <;> omega), b_L]
      have f2 : fr [14] σ (g_put σ 14 (mi1 is D) (nI (soB F D is v (mi1 is D)))) := fr_put _ _ _ (by simp)
      obtain ⟨σ3, e3, B3, f3⟩ := q2 _ (ME_fr hE f2 (by simp) (by simp) (by simp) (by simp)) (MI_fr hI f2 (by simp)) (by
        rw [so1, if_neg (by omega), if_pos a2]
        exact MV_put hV)
      exact ⟨σ3, e3, B3, fr_trans f2 f3⟩
    unfold fX12_solves_b33
    rw [if_pos rfl, if_neg (nM1 (by omega)), nCL (by omega), if_pos (by simp (disch := first | omega | assumption) only [fa_lit, nLE, nLT, nEQ, nI_add, nSA, nSUB, pk_mul, nDIV, nREM, nCL, fa_and, nx_xor, fa_or, nSHL, nSHR, nUS, n31, n255, Nat.and_one_is_mod, b_I, b_V, b_L, not_or, Nat.not_lt_zero, Nat.not_le, Nat.not_lt, not_false_eq_true, true_and, and_true, false_or, or_false, Classical.not_not, if_true, if_false, if_pos, if_neg] <;> omega), hI D (by omega)]
    have hsq : sq F v D < 256 := sq_lt w7 D
    have vQ := hv (D + 1) (by omega)
    have hp := pw_lt F w7 (mi1 is D) (by omega)
    by_cases c : is D = true
    · rw [if_pos c, if_neg (by decide), if_pos (by simp (disch := first | omega | assumption) only [fa_lit, nLE, nLT, nEQ, nI_add, nSA, nSUB, pk_mul, nDIV, nREM, nCL, fa_and, nx_xor, fa_or, nSHL, nSHR, nUS, n31, n255, Nat.and_one_is_mod, b_I, b_V, b_L, not_or, Nat.not_lt_zero, Nat.not_le, Nat.not_lt, not_false_eq_true, true_and, and_true, false_or, or_false, Classical.not_not, if_true, if_false, if_pos, if_neg] <;> omega), M_sum0 hn hE hV hz1, b_I, hV D (by omega), nx_xor]
      rw [soB, if_pos c] at fin
      exact fin
    · rw [if_neg c, if_pos (show nI 0 = 0 from rfl), nCL (by omega), if_pos (by simp (disch := first | omega | assumption) only [fa_lit, nLE, nLT, nEQ, nI_add, nSA, nSUB, pk_mul, nDIV, nREM, nCL, fa_and, nx_xor, fa_or, nSHL, nSHR, nUS, n31, n255, Nat.and_one_is_mod, b_I, b_V, b_L, not_or, Nat.not_lt_zero, Nat.not_le, Nat.not_lt, not_false_eq_true, true_and, and_true, false_or, or_false, Classical.not_not, if_true, if_false, if_pos, if_neg] <;> omega), M_sum1 hn hE hV hv hz1, b_I, nCL (by omega), if_pos (by simp (disch := first | omega | assumption) only [fa_lit, nLE, nLT, nEQ, nI_add, nSA, nSUB, pk_mul, nDIV, nREM, nCL, fa_and, nx_xor, fa_or, nSHL, nSHR, nUS, n31, n255, Nat.and_one_is_mod, b_I, b_V, b_L, not_or, Nat.not_lt_zero, Nat.not_le, Nat.not_lt, not_false_eq_true, true_and, and_true, false_or, or_false, Classical.not_not, if_true, if_false, if_pos, if_neg] <;> omega), hV (D + 1) (by omega), nx_xor, hE.2.2.1 _ (by omega), M_quotient w7 hE.2.2 (x8 vQ hsq) hp.2, b_I]
      rw [soB, if_neg c] at fin
      exact fin
  · have hm2 : mi is (mi1 is D + 1) (D - (mi1 is D + 1)) = mi2 is D := rfl
    have x1 : ¬ mi1 is D = D := by omega
    rw [if_neg x1, if_neg (nM1 (by omega)), show nI (mi1 is D) + 1 = nI (mi1 is D + 1) from nI_add _ 1, M_missing hn hE hI (by omega), b_I, hm2, if_neg (show ¬ mi2 is D = D by omega)]
    have hz1 : ∀ r, r < D → (nI r = nI (mi1 is D) ∨ nI r = nI (mi2 is D)) → v r = 0 := by
      intro r hr e
      rcases e with e | e
      · have := (nI_eq (by omega) (by omega)).mp e
        rw [this]; exact h0' _ (by omega) a3
      · have := (nI_eq (by omega) (by omega)).mp e
        rw [this]; exact h0' _ (by omega) a4
    have hsp : sp v D < 256 := sp_lt fun r hr => hv r (by omega)
    have hsq : sq F v D < 256 := sq_lt w7 D
    have vD := hv D (by omega)
    have vQ := hv (D + 1) (by omega)
    have hp := pw_two F w7 (mi1 is D) (by omega) (mi2 is D) (by omega) a1
    have hpj := (pw_lt F w7 (mi2 is D) (by omega)).2
    have hg : gm F (v D ^^^ sp v D) (pw F (mi2 is D)) < 256 := gm_lt w7
    unfold fX12_solves_b33
    rw [if_neg (nM1 (by omega)), nCL (by omega), if_pos (by simp (disch := first | omega | assumption) only [fa_lit, nLE, nLT, nEQ, nI_add, nSA, nSUB, pk_mul, nDIV, nREM, nCL, fa_and, nx_xor, fa_or, nSHL, nSHR, nUS, n31, n255, Nat.and_one_is_mod, b_I, b_V, b_L, not_or, Nat.not_lt_zero, Nat.not_le, Nat.not_lt, not_false_eq_true, true_and, and_true, false_or, or_false, Classical.not_not, if_true, if_false, if_pos, if_neg] <;> omega), M_sum0 hn hE hV hz1, b_I, nCL (by omega), if_pos (by simp (disch := first | omega | assumption) only [fa_lit, nLE, nLT, nEQ, nI_add, nSA, nSUB, pk_mul, nDIV, nREM, nCL, fa_and, nx_xor, fa_or, nSHL, nSHR, nUS, n31, n255, Nat.and_one_is_mod, b_I, b_V, b_L, not_or, Nat.not_lt_zero, Nat.not_le, Nat.not_lt, not_false_eq_true, true_and, and_true, false_or, or_false, Classical.not_not, if_true, if_false, if_pos, if_neg] <;> omega), M_sum1 hn hE hV hv hz1, b_I, nCL (by omega), if_pos (by simp (disch := first | omega | assumption) only [fa_lit, nLE, nLT, nEQ, nI_add, nSA, nSUB, pk_mul, nDIV, nREM, nCL, fa_and, nx_xor, fa_or, nSHL, nSHR, nUS, n31, n255, Nat.and_one_is_mod, b_I, b_V, b_L, not_or, Nat.not_lt_zero, Nat.not_le, Nat.not_lt, not_false_eq_true, true_and, and_true, false_or, or_false, Classical.not_not, if_true, if_false, if_pos, if_neg] <;> omega), hV D (by omega), nx_xor, hE.2.2.1 (mi2 is D) (by omega), M_product w7 hE.2.2 (x8 vD hsp) hpj, b_I, nCL (by omega), if_pos (by simp (disch := first | omega | assumption) only [fa_lit, nLE, nLT, nEQ, nI_add, nSA, nSUB, pk_mul, nDIV, nREM, nCL, fa_and, nx_xor, fa_or, nSHL, nSHR, nUS, n31, n255, Nat.and_one_is_mod, b_I, b_V, b_L, not_or, Nat.not_lt_zero, Nat.not_le, Nat.not_lt, not_false_eq_true, true_and, and_true, false_or, or_false, Classical.not_not, if_true, if_false, if_pos, if_neg] <;> omega), if_pos (by simp (disch := first | omega | assumption) only [fa_lit, nLE, nLT, nEQ, nI_add, nSA, nSUB, pk_mul, nDIV, nREM, nCL, fa_and, nx_xor, fa_or, nSHL, nSHR, nUS, n31, n255, Nat.and_one_is_mod, b_I, b_V, b_L, not_or, Nat.not_lt_zero, Nat.not_le, Nat.not_lt, not_false_eq_true, true_and, and_true, false_or, or_false, Classical.not_not, if_true, if_false, if_pos, if_neg] <;> omega), hV (D + 1) (by omega), nx_xor, nx_xor, hE.2.2.1 (mi1 is D) (by omega), hE.2.2.1 (mi2 is D) (by omega), nx_xor, M_quotient w7 hE.2.2 (x8 (x8 vQ hsq) hg) hp.2, b_I, if_pos (by simp (disch := first | omega | assumption) only [fa_lit, nLE, nLT, nEQ, nI_add, nSA, nSUB, pk_mul, nDIV, nREM, nCL, fa_and, nx_xor, fa_or, nSHL, nSHR, nUS, n31, n255, Nat.and_one_is_mod, b_I, b_V, b_L, not_or, Nat.not_lt_zero, Nat.not_le, Nat.not_lt, not_false_eq_true, true_and, and_true, false_or, or_false, Classical.not_not, if_true, if_false, if_pos, if_neg] <;> omega), b_L, if_pos (by simp (disch := first | omega | assumption) only [fa_lit, nLE, nLT, nEQ, nI_add, nSA, nSUB, pk_mul, nDIV, nREM, nCL, fa_and, nx_xor, fa_or, nSHL, nSHR, nUS, n31, n255, Nat.and_one_is_mod, b_I, b_V, b_L, not_or, Nat.not_lt_zero, Nat.not_le, Nat.not_lt, not_false_eq_true, true_and, and_true, false_or, or_false, Classical.not_not, if_true, if_false, if_pos, if_neg] <;> omega), if_pos (by simp (disch := first | omega | assumption) only [fa_lit, nLE, nLT, nEQ, nI_add, nSA, nSUB, pk_mul, nDIV, nREM, nCL, fa_and, nx_xor, fa_or, nSHL, nSHR, nUS, n31, n255, Nat.and_one_is_mod, b_I, b_V, b_L, not_or, Nat.not_lt_zero, Nat.not_le, Nat.not_lt, not_false_eq_true, true_and, and_true, false_or, or_false, Classical.not_not, if_true, if_false, if_pos, if_neg] <;> omega), gp_s, nx_xor, b_L]
    have f2 : fr [14] σ (g_put (g_put σ 14 (mi1 is D) (nI (soC F D v (mi1 is D) (mi2 is D)))) 14 (mi2 is D) (nI ((v D ^^^ sp v D) ^^^ soC F D v (mi1 is D) (mi2 is D)))) := fr_trans (fr_put _ _ _ (by simp)) (fr_put _ _ _ (by simp))
    obtain ⟨σ3, e3, B3, f3⟩ := q2 _ (ME_fr hE f2 (by simp) (by simp) (by simp) (by simp)) (MI_fr hI f2 (by simp)) (by
      rw [so1, if_neg (by omega), if_neg (by omega)]
      exact MV_put (MV_put hV))
    exact ⟨σ3, e3, B3, fr_trans f2 f3⟩
