/-! what is missing, solved by the class -/
theorem pw_two : ∀ F, F < 4 → ∀ i, i < 8 → ∀ j, j < 8 → i < j → 0 < pw F i ^^^ pw F j ∧ pw F i ^^^ pw F j < 256 := by decide +kernel
theorem bm_cut {p : Nat → Bool} {d n : Nat} (h : d ≤ n) : bm p n &&& (2 ^ d - 1) = bm p d := by
  apply Nat.eq_of_testBit_eq
  intro k
  rw [Nat.testBit_and, bm_tb, Nat.testBit_two_pow_sub_one, bm_tb]
  by_cases c : k < d
  · have : k < n := by omega
    simp [c, this]
  · simp [c]
theorem X_solve1 {D S C F n i k : Nat} {v : Nat → Nat} {is : Nat → Bool} {σ : gM} (hn : 20 ≤ n) (hE : XE D S C F σ) (hB : XB D i v σ) (hv : ∀ r, r < D + 2 → v r < 256) (hk : k < D) :
    fX5_solveParts n i (nI (2 ^ k)) (nI (if is D then 1 else 0)) σ = some (g_put σ (13 + 5 * i) k (nI (soB F D is v k) &&& nI 255)) := by
  have hw := hE.1
  obtain ⟨w1, w2, w3, w4, w5, w6, w7⟩ := hw
  have hR := hE.2.1
  obtain ⟨h0, h1, h2, h3, h5, h6, h7, h8, h9⟩ := hR
  have hsp : sp v D < 256 := sp_lt fun r hr => hv r (by omega)
  have hsq : sq F v D < 256 := sq_lt w7 D
  have vD := hv D (by omega)
  have vQ := hv (D + 1) (by omega)
  have hk2 : k % 255 = k := by omega
  have hp := pw_lt F w7 k (by omega)
  have e31 : (31 : Int32) - nI (31 - k) = nI k := by
    rw [show (31 : Int32) = nI 31 from rfl, pk_sub (by omega)]
    congr 1; omega
  unfold fX5_solveParts fX5_solveParts_b113
  rw [(tz_1 k (by omega) σ).1, b_I, (tz_1 k (by omega) σ).2, b_I, X_power w7 hE.2.2 (by omega), b_I, e31, X_power w7 hE.2.2 (by omega), b_I, X_sumForP hn hE hB, b_I, h6, X_rget (by omega), b_I, h0, X_sumByPowers hn hE hB hv, b_I, h7, X_rget (by omega), b_I, if_pos rfl, hB D (by omega), hB (D + 1) (by omega), nx_xor, nx_xor, hk2, soB]
  by_cases c : is D = true
  · rw [if_pos c, if_neg (by decide), X_rset (by omega), b_V, if_pos c, Nat.xor_comm (sp v D)]
  · rw [if_neg c, if_pos (show nI 0 = 0 from rfl), X_quotient w7 hE.2.2 (x8 hsq vQ) hp.2 hp.1, b_I, X_rset (by omega), b_V, if_neg c, Nat.xor_comm (sq F v D)]
theorem X_solve2 {D S C F n i k j : Nat} {v : Nat → Nat} {x : Int32} {σ : gM} (hn : 20 ≤ n) (hE : XE D S C F σ) (hB : XB D i v σ) (hv : ∀ r, r < D + 2 → v r < 256) (hk : k < j) (hj : j < D) :
    ∃ σ', fX5_solveParts n i (nI (2 ^ k + 2 ^ j)) x σ = some σ' ∧ XB D i (ud (ud v k (soC F D v k j)) j ((v D ^^^ sp v D) ^^^ soC F D v k j)) σ' ∧ fr [13 + 5 * i] σ σ' := by
  have hw := hE.1
  obtain ⟨w1, w2, w3, w4, w5, w6, w7⟩ := hw
  have hR := hE.2.1
  obtain ⟨h0, h1, h2, h3, h5, h6, h7, h8, h9⟩ := hR
  have hsp : sp v D < 256 := sp_lt fun r hr => hv r (by omega)
  have hsq : sq F v D < 256 := sq_lt w7 D
  have vD := hv D (by omega)
  have vQ := hv (D + 1) (by omega)
  have hk2 : k % 255 = k := by omega
  have hj2 : j % 255 = j := by omega
  have hp := pw_two F w7 k (by omega) j (by omega) hk
  have hpj := (pw_lt F w7 j (by omega)).2
  have e31 : (31 : Int32) - nI (31 - j) = nI j := by
    rw [show (31 : Int32) = nI 31 from rfl, pk_sub (by omega)]
    congr 1; omega
  have hc : soC F D v k j < 256 := gq_lt w7
  have hg : gm F (v D ^^^ sp v D) (pw F j) < 256 := gm_lt w7
  unfold fX5_solveParts
  rw [(tz_2 k j hk (by omega) σ).1, b_I, (tz_2 k j hk (by omega) σ).2, b_I, X_power w7 hE.2.2 (by omega), b_I, e31, X_power w7 hE.2.2 (by omega), b_I, X_sumForP hn hE hB, b_I, h6, X_rget (by omega), b_I, h0, X_sumByPowers hn hE hB hv, b_I, h7, X_rget (by omega), b_I, if_neg (fun e => absurd (nI_eq (by omega) (by omega) |>.mp e) (by omega)), hB D (by omega), hB (D + 1) (by omega), nx_xor, nx_xor, hk2, hj2, Nat.xor_comm (sp v D), Nat.xor_comm (sq F v D), X_product w7 hE.2.2 (x8 vD hsp) hpj, b_I, nx_xor, nx_xor, X_quotient w7 hE.2.2 (x8 (x8 vQ hsq) hg) hp.2 hp.1, b_I, X_rset (by omega), b_V, X_rget (by omega), b_I, gp_s, fa_and, n255 (gq_lt w7), nx_xor, X_rset (by omega), b_V]
  refine ⟨_, rfl, ?_, ?_⟩
  · have h1 := XB_put (k := k) hB hc
    rw [fa_and, n255 hc] at h1
    exact XB_put (k := j) h1 (x8 (x8 vD hsp) hc)
  · exact fr_trans (fr_put _ _ _ (by simp)) (fr_put _ _ _ (by simp))
theorem X_gather {D S C F n i t b : Nat} {s : Sh} {σ : gM} {is : Nat → Bool} (hn : 20 ≤ n) (hE : XE D S C F σ) (hX : XS C s (σ.1 (11 + 5 * i))) (hy : ∀ d t b, s.byt d t b < 256) (ht : t < 12) (hb : b < C) (hi : ∀ r, r < D + 2 → is r = true → th D s t r = true) (h2 : ct (fun r => !is r) (D + 2) ≤ 2) :
    ∃ σ', fX5_gather n i i (nI t) (nI b) (nI (bm (fun r => !is r) (D + 2))) σ = some σ' ∧ XB D i (so F D is (vl D s t b is)) σ' ∧ fr [13 + 5 * i] σ σ' := by
  obtain ⟨σ1, e1, B1, f1⟩ := X_load hn hE hX ht hb hi
  have hE1 := XE_fr hE f1 (by simp <;> omega) (by simp <;> omega) (by simp <;> omega) (by simp <;> omega)
  have hw := hE1.1
  obtain ⟨w1, w2, w3, w4, w5, w6, w7⟩ := hw
  have hl := bm_lt8 (p := fun r => !is r) (show D + 2 ≤ 8 by omega)
  have hlD := bm_lt8 (p := fun r => !is r) (show D ≤ 8 by omega)
  have bP := bm_bit (p := fun r => !is r) (show D < D + 2 by omega)
  have bQ := bm_bit (p := fun r => !is r) (show D + 1 < D + 2 by omega)
  have hv : ∀ r, r < D + 2 → vl D s t b is r < 256 := fun r _ => th_lt hy r
  have hv1 := so1_lt (is := is) w7 hv
  have hv2 := so2_lt (is := is) w7 hv
  -- the end: Q
  have q3 : ∀ σ2, XE D S C F σ2 → XB D i (so2 F D is (vl D s t b is)) σ2 → ∃ σ', fX5_gather_b76 n i i (nI (bm (fun r => !is r) (D + 2))) σ2 = some σ' ∧ XB D i (so F D is (vl D s t b is)) σ' ∧ fr [13 + 5 * i] σ2 σ' := by
    intro σ2 hE2 B2
    obtain ⟨h0, h1, h2, h3, h5, h6, h7, h8, h9⟩ := hE2.2.1
    unfold fX5_gather_b76 so
    by_cases c : is (D + 1) = true
    · simp only [c, Bool.not_true, Bool.false_eq_true, if_false] at bQ
      rw [h7, if_pos (by simp (disch := first | omega | assumption) only [fa_lit, nLE, nLT, nEQ, nI_add, nSA, nSUB, pk_mul, nDIV, nREM, nCL, fa_and, nx_xor, fa_or, nSHL, nSHR, nUS, n31, n255, Nat.and_one_is_mod, b_I, b_V, b_L, not_or, Nat.not_lt_zero, Nat.not_le, Nat.not_lt, not_false_eq_true, true_and, and_true, false_or, or_false, Classical.not_not, if_true, if_false, if_pos, if_neg, bQ]), if_pos c]
      exact ⟨σ2, rfl, B2, fr_refl _ _⟩
    · simp only [c, Bool.not_false, if_true] at bQ
      rw [h7, if_neg (by simp (disch := first | omega | assumption) only [fa_lit, nLE, nLT, nEQ, nI_add, nSA, nSUB, pk_mul, nDIV, nREM, nCL, fa_and, nx_xor, fa_or, nSHL, nSHR, nUS, n31, n255, Nat.and_one_is_mod, b_I, b_V, b_L, not_or, Nat.not_lt_zero, Nat.not_le, Nat.not_lt, not_false_eq_true, true_and, and_true, false_or, or_false, Classical.not_not, if_true, if_false, if_pos, if_neg, bQ] <;> omega), if_neg c, h0, X_sumByPowers hn hE2 B2 hv2, b_I, X_rset (by omega), b_V]
      exact ⟨_, rfl, XB_put B2 (sq_lt w7 D), fr_put _ _ _ (by simp)⟩
  have q2 : ∀ σ2, XE D S C F σ2 → XB D i (so1 F D is (vl D s t b is)) σ2 → ∃ σ', fX5_gather_b56 n i i (nI (bm (fun r => !is r) (D + 2))) (nI (if is D then 1 else 0)) σ2 = some σ' ∧ XB D i (so F D is (vl D s t b is)) σ' ∧ fr [13 + 5 * i] σ2 σ' := by
    intro σ2 hE2 B2
    obtain ⟨h0, h1, h2, h3, h5, h6, h7, h8, h9⟩ := hE2.2.1
    unfold fX5_gather_b56
    by_cases c : is D = true
    · rw [if_pos c, if_neg (by decide)]
      refine q3 σ2 hE2 ?_
      rw [so2, if_pos c]; exact B2
    · rw [if_neg c, if_pos (show nI 0 = 0 from rfl), X_sumForP hn hE2 B2, b_I, h6, X_rset (by omega), b_V]
      have f2 : fr [13 + 5 * i] σ2 (g_put σ2 (13 + 5 * i) D (nI (sp (so1 F D is (vl D s t b is)) D) &&& nI 255)) := fr_put _ _ _ (by simp)
      obtain ⟨σ3, e3, B3, f3⟩ := q3 _ (XE_fr hE2 f2 (by simp <;> omega) (by simp <;> omega) (by simp <;> omega) (by simp <;> omega)) (by
        rw [so2, if_neg c]
        exact XB_put B2 (sp_lt fun r hr => hv1 r (by omega)))
      exact ⟨σ3, e3, B3, fr_trans f2 f3⟩
  have q1 : ∃ σ', fX5_gather_b41 n i i (nI (bm (fun r => !is r) (D + 2))) (nI (bm (fun r => !is r) D)) (nI (if is D then 1 else 0)) σ1 = some σ' ∧ XB D i (so F D is (vl D s t b is)) σ' ∧ fr [13 + 5 * i] σ1 σ' := by
    unfold fX5_gather_b41
    rcases mi_cls h2 with ⟨a1, a2⟩ | ⟨a1, a2, a3, a4⟩ | ⟨a1, a2, a3, a4, a5, a6, a7⟩
    · rw [a2, if_pos (show nI 0 = 0 from rfl)]
      refine q2 σ1 hE1 ?_
      rw [so1, if_pos a1]; exact B1
    · have hp := p2 (show mi1 is D < 8 by omega)
      have hp0 : 0 < 2 ^ mi1 is D := Nat.two_pow_pos _
      rw [a4, if_neg (nI_ne0 (by omega) (by omega)), X_solve1 (is := is) hn hE1 B1 hv a1, b_V]
      have f2 : fr [13 + 5 * i] σ1 (g_put σ1 (13 + 5 * i) (mi1 is D) (nI (soB F D is (vl D s t b is) (mi1 is D)) &&& nI 255)) := fr_put _ _ _ (by simp)
      obtain ⟨σ3, e3, B3, f3⟩ := q2 _ (XE_fr hE1 f2 (by simp <;> omega) (by simp <;> omega) (by simp <;> omega) (by simp <;> omega)) (by
        rw [so1, if_neg (by omega), if_pos a2]
        exact XB_put B1 (soB_lt w7 hv))
      exact ⟨σ3, e3, B3, fr_trans f2 f3⟩
    · have hp := p2 (show mi1 is D < 8 by omega)
      have hp' := p2 (show mi2 is D < 8 by omega)
      have hp0 : 0 < 2 ^ mi1 is D := Nat.two_pow_pos _
      have hp0' : 0 < 2 ^ mi2 is D := Nat.two_pow_pos _
      obtain ⟨σ2, e2, B2, f2⟩ := X_solve2 (x := nI (if is D then 1 else 0)) hn hE1 B1 hv a1 a2
      rw [a7, if_neg (nI_ne0 (by omega) (by omega)), e2, b_V]
      obtain ⟨σ3, e3, B3, f3⟩ := q2 _ (XE_fr hE1 f2 (by simp <;> omega) (by simp <;> omega) (by simp <;> omega) (by simp <;> omega)) (by
        rw [so1, if_neg (by omega), if_neg (by omega)]
        exact B2)
      exact ⟨σ3, e3, B3, fr_trans f2 f3⟩
  obtain ⟨h0, h1, h2', h3, h5, h6, h7, h8, h9⟩ := hE1.2.1
  obtain ⟨σ2, e2, B2, f2⟩ := q1
  refine ⟨σ2, ?_, B2, fr_trans f1 f2⟩
  unfold fX5_gather
  rw [e1, b_V, h6, h8, fa_and, bm_cut (by omega)]
  by_cases c : is D = true
  · rw [if_pos c] at e2
    simp only [c, Bool.not_true, Bool.false_eq_true, if_false] at bP
    rw [if_pos (by simp (disch := first | omega | assumption) only [fa_lit, nLE, nLT, nEQ, nI_add, nSA, nSUB, pk_mul, nDIV, nREM, nCL, fa_and, nx_xor, fa_or, nSHL, nSHR, nUS, n31, n255, Nat.and_one_is_mod, b_I, b_V, b_L, not_or, Nat.not_lt_zero, Nat.not_le, Nat.not_lt, not_false_eq_true, true_and, and_true, false_or, or_false, Classical.not_not, if_true, if_false, if_pos, if_neg, bP])]
    exact e2
  · rw [if_neg c] at e2
    simp only [c, Bool.not_false, if_true] at bP
    rw [if_neg (by simp (disch := first | omega | assumption) only [fa_lit, nLE, nLT, nEQ, nI_add, nSA, nSUB, pk_mul, nDIV, nREM, nCL, fa_and, nx_xor, fa_or, nSHL, nSHR, nUS, n31, n255, Nat.and_one_is_mod, b_I, b_V, b_L, not_or, Nat.not_lt_zero, Nat.not_le, Nat.not_lt, not_false_eq_true, true_and, and_true, false_or, or_false, Classical.not_not, if_true, if_false, if_pos, if_neg, bP] <;> omega)]
    exact e2
