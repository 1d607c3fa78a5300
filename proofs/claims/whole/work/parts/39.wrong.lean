/-! which part is wrong, and mended -/
def wu (D : Nat) (v : Nat → Nat) : Nat := v D ^^^ sp v D
def wv (F D : Nat) (v : Nat → Nat) : Nat := v (D + 1) ^^^ sq F v D
/-- a part; D + 2: none; D + 3: open -/
def wrg (F D : Nat) (v : Nat → Nat) : Nat := if wu D v = 0 ∧ wv F D v = 0 then D + 2 else if wv F D v = 0 then D else if wu D v = 0 then D + 1 else if lg F (gq F (wv F D v) (wu D v)) < D then lg F (gq F (wv F D v) (wu D v)) else D + 3
def wI (D : Nat) (k : Nat) : Int32 := if k = D + 2 then -1 else if k = D + 3 then -2 else nI k
theorem wrg_lt (F D : Nat) (v : Nat → Nat) : wrg F D v < D + 4 := by
  unfold wrg
  repeat' split
  all_goals omega
theorem X_wrongPart {D S C F n i : Nat} {v : Nat → Nat} {σ : gM} (hn : 20 ≤ n) (hE : XE D S C F σ) (hB : XB D i v σ) (hv : ∀ r, r < D + 2 → v r < 256) : fX5_wrongPart n i σ = some (wI D (wrg F D v), σ) := by
  obtain ⟨w1, w2, w3, w4, w5, w6, w7⟩ := hE.1
  obtain ⟨h0, h1, h2, h3, h5, h6, h7, h8, h9⟩ := hE.2.1
  have hsp : sp v D < 256 := sp_lt fun r hr => hv r (by omega)
  have hu : wu D v < 256 := x8 (hv D (by omega)) hsp
  have hw : wv F D v < 256 := x8 (hv (D + 1) (by omega)) (sq_lt w7 D)
  have eu : nI (sp v D) ^^^ nI (v D) = nI (wu D v) := by rw [nx_xor, Nat.xor_comm]; rfl
  have ev : nI (sq F v D) ^^^ nI (v (D + 1)) = nI (wv F D v) := by rw [nx_xor, Nat.xor_comm]; rfl
  unfold fX5_wrongPart fX5_wrongPart_b58
  rw [X_sumForP hn hE hB, b_I, h6, X_rget (by omega), b_I, h0, X_sumByPowers hn hE hB hv, b_I, h7, X_rget (by omega), b_I, hB D (by omega), hB (D + 1) (by omega), eu, ev]
  by_cases c1 : wu D v = 0
  · by_cases c2 : wv F D v = 0
    · rw [if_pos (by rw [c1]; rfl), if_pos (by rw [c2]; rfl)]
      have : wrg F D v = D + 2 := by rw [wrg, if_pos ⟨c1, c2⟩]
      rw [this, wI, if_pos rfl]
    · have n2 : ¬ nI (wv F D v) = 0 := nI_ne0 (by omega) (by omega)
      rw [if_pos (by rw [c1]; rfl), if_neg n2, if_neg n2, if_pos (by rw [c1]; rfl)]
      have : wrg F D v = D + 1 := by rw [wrg, if_neg (fun q => c2 q.2), if_neg c2, if_pos c1]
      rw [this, wI, if_neg (by omega), if_neg (by omega), h7]
  · have n1 : ¬ nI (wu D v) = 0 := nI_ne0 (by omega) (by omega)
    rw [if_neg n1]
    by_cases c2 : wv F D v = 0
    · rw [if_pos (by rw [c2]; rfl)]
      have : wrg F D v = D := by rw [wrg, if_neg (fun q => c1 q.1), if_pos c2]
      rw [this, wI, if_neg (by omega), if_neg (by omega), h6]
    · have n2 : ¬ nI (wv F D v) = 0 := nI_ne0 (by omega) (by omega)
      have hg : gq F (wv F D v) (wu D v) < 256 := gq_lt w7
      have hl := lg_lt w7 hg
      rw [if_neg n2, if_neg n1, X_quotient w7 hE.2.2 hw hu (by omega), b_I, X_log hE.2.2 hg, b_I, h0]
      by_cases c3 : lg F (gq F (wv F D v) (wu D v)) < D
      · rw [if_neg (by simp (disch := first | omega | assumption) only [fa_lit, nLE, nLT, nEQ, nI_add, nSA, nSUB, pk_mul, nDIV, nREM, nCL, fa_and, nx_xor, fa_or, nSHL, nSHR, nUS, n31, n255, Nat.and_one_is_mod, b_I, b_V, b_L, not_or, Nat.not_lt_zero, Nat.not_le, Nat.not_lt, not_false_eq_true, true_and, and_true, false_or, or_false, Classical.not_not, if_true, if_false, if_pos, if_neg] <;> omega)]
        have : wrg F D v = lg F (gq F (wv F D v) (wu D v)) := by rw [wrg, if_neg (fun q => c1 q.1), if_neg c2, if_neg c1, if_pos c3]
        rw [this, wI, if_neg (by omega), if_neg (by omega)]
      · rw [if_pos (by simp (disch := first | omega | assumption) only [fa_lit, nLE, nLT, nEQ, nI_add, nSA, nSUB, pk_mul, nDIV, nREM, nCL, fa_and, nx_xor, fa_or, nSHL, nSHR, nUS, n31, n255, Nat.and_one_is_mod, b_I, b_V, b_L, not_or, Nat.not_lt_zero, Nat.not_le, Nat.not_lt, not_false_eq_true, true_and, and_true, false_or, or_false, Classical.not_not, if_true, if_false, if_pos, if_neg] <;> omega)]
        have : wrg F D v = D + 3 := by rw [wrg, if_neg (fun q => c1 q.1), if_neg c2, if_neg c1, if_neg c3]
        rw [this, wI, if_neg (by omega), if_pos rfl]
theorem M_wrong {D S C F n : Nat} {v : Nat → Nat} {σ : gM} (hn : 20 ≤ n) (hE : ME D S C F σ) (hV : MV D v σ) (hv : ∀ r, r < D + 2 → v r < 256) : fX12_wrong n σ = some (wI D (wrg F D v), σ) := by
  obtain ⟨w1, w2, w3, w4, w5, w6, w7⟩ := hE.1
  obtain ⟨h0, h1, h2, h3, h5, h6⟩ := hE.2.1
  have hsp : sp v D < 256 := sp_lt fun r hr => hv r (by omega)
  have hu : wu D v < 256 := x8 (hv D (by omega)) hsp
  have hw : wv F D v < 256 := x8 (hv (D + 1) (by omega)) (sq_lt w7 D)
  have eu : nI (v D) ^^^ nI (sp v D) = nI (wu D v) := nx_xor _ _
  have ev : nI (v (D + 1)) ^^^ nI (sq F v D) = nI (wv F D v) := nx_xor _ _
  have eQ : nI D + 1 = nI (D + 1) := nI_add D 1
  unfold fX12_wrong fX12_wrong_b49
  rw [h0, eQ, nCL (by omega), nCL (by omega), if_pos (by simp (disch := first | omega | assumption) only [fa_lit, nLE, nLT, nEQ, nI_add, nSA, nSUB, pk_mul, nDIV, nREM, nCL, fa_and, nx_xor, fa_or, nSHL, nSHR, nUS, n31, n255, Nat.and_one_is_mod, b_I, b_V, b_L, not_or, Nat.not_lt_zero, Nat.not_le, Nat.not_lt, not_false_eq_true, true_and, and_true, false_or, or_false, Classical.not_not, if_true, if_false, if_pos, if_neg] <;> omega), M_sum0 hn hE hV (fun r hr e => absurd e (nM1' (by omega))), b_I, if_pos (by simp (disch := first | omega | assumption) only [fa_lit, nLE, nLT, nEQ, nI_add, nSA, nSUB, pk_mul, nDIV, nREM, nCL, fa_and, nx_xor, fa_or, nSHL, nSHR, nUS, n31, n255, Nat.and_one_is_mod, b_I, b_V, b_L, not_or, Nat.not_lt_zero, Nat.not_le, Nat.not_lt, not_false_eq_true, true_and, and_true, false_or, or_false, Classical.not_not, if_true, if_false, if_pos, if_neg] <;> omega), M_sum1 hn hE hV hv (fun r hr e => absurd e (nM1' (by omega))), b_I, hV D (by omega), hV (D + 1) (by omega), eu, ev]
  by_cases c1 : wu D v = 0
  · by_cases c2 : wv F D v = 0
    · rw [if_pos (by rw [c1]; rfl), if_pos (by rw [c2]; rfl)]
      have : wrg F D v = D + 2 := by rw [wrg, if_pos ⟨c1, c2⟩]
      rw [this, wI, if_pos rfl]
    · have n2 : ¬ nI (wv F D v) = 0 := nI_ne0 (by omega) (by omega)
      rw [if_pos (by rw [c1]; rfl), if_neg n2, if_neg n2, if_pos (by rw [c1]; rfl)]
      have : wrg F D v = D + 1 := by rw [wrg, if_neg (fun q => c2 q.2), if_neg c2, if_pos c1]
      rw [this, wI, if_neg (by omega), if_neg (by omega)]
  · have n1 : ¬ nI (wu D v) = 0 := nI_ne0 (by omega) (by omega)
    rw [if_neg n1]
    by_cases c2 : wv F D v = 0
    · rw [if_pos (by rw [c2]; rfl)]
      have : wrg F D v = D := by rw [wrg, if_neg (fun q => c1 q.1), if_pos c2]
      rw [this, wI, if_neg (by omega), if_neg (by omega)]
    · have n2 : ¬ nI (wv F D v) = 0 := nI_ne0 (by omega) (by omega)
      have hg : gq F (wv F D v) (wu D v) < 256 := gq_lt w7
      have hl := lg_lt w7 hg
      rw [if_neg n2, if_neg n1, M_quotient w7 hE.2.2 hw hu, b_I, nCL (by omega), if_pos (by simp (disch := first | omega | assumption) only [fa_lit, nLE, nLT, nEQ, nI_add, nSA, nSUB, pk_mul, nDIV, nREM, nCL, fa_and, nx_xor, fa_or, nSHL, nSHR, nUS, n31, n255, Nat.and_one_is_mod, b_I, b_V, b_L, not_or, Nat.not_lt_zero, Nat.not_le, Nat.not_lt, not_false_eq_true, true_and, and_true, false_or, or_false, Classical.not_not, if_true, if_false, if_pos, if_neg] <;> omega), hE.2.2.2 _ hg]
      by_cases c3 : lg F (gq F (wv F D v) (wu D v)) < D
      · rw [if_neg (by simp (disch := first | omega | assumption) only [fa_lit, nLE, nLT, nEQ, nI_add, nSA, nSUB, pk_mul, nDIV, nREM, nCL, fa_and, nx_xor, fa_or, nSHL, nSHR, nUS, n31, n255, Nat.and_one_is_mod, b_I, b_V, b_L, not_or, Nat.not_lt_zero, Nat.not_le, Nat.not_lt, not_false_eq_true, true_and, and_true, false_or, or_false, Classical.not_not, if_true, if_false, if_pos, if_neg] <;> omega)]
        have : wrg F D v = lg F (gq F (wv F D v) (wu D v)) := by rw [wrg, if_neg (fun q => c1 q.1), if_neg c2, if_neg c1, if_pos c3]
        rw [this, wI, if_neg (by omega), if_neg (by omega)]
      · rw [if_pos (by simp (disch := first | omega | assumption) only [fa_lit, nLE, nLT, nEQ, nI_add, nSA, nSUB, pk_mul, nDIV, nREM, nCL, fa_and, nx_xor, fa_or, nSHL, nSHR, nUS, n31, n255, Nat.and_one_is_mod, b_I, b_V, b_L, not_or, Nat.not_lt_zero, Nat.not_le, Nat.not_lt, not_false_eq_true, true_and, and_true, false_or, or_false, Classical.not_not, if_true, if_false, if_pos, if_neg] <;> omega)]
        have : wrg F D v = D + 3 := by rw [wrg, if_neg (fun q => c1 q.1), if_neg c2, if_neg c1, if_neg c3]
        rw [this, wI, if_neg (by omega), if_pos rfl]
/-- what mending makes of a part -/
def mnd (F D : Nat) (v : Nat → Nat) (r : Nat) : Nat := v r ^^^ (if r = D + 1 then wv F D v else wu D v)
theorem mnd_lt {F D r : Nat} {v : Nat → Nat} (hF : F < 4) (hv : ∀ r, r < D + 2 → v r < 256) (hr : r < D + 2) : mnd F D v r < 256 := by
  have hsp : sp v D < 256 := sp_lt fun r hr => hv r (by omega)
  unfold mnd
  split
  · exact x8 (hv r hr) (x8 (hv (D + 1) (by omega)) (sq_lt hF D))
  · exact x8 (hv r hr) (x8 (hv D (by omega)) hsp)
theorem X_mend {D S C F n i r : Nat} {v : Nat → Nat} {σ : gM} (hn : 20 ≤ n) (hE : XE D S C F σ) (hB : XB D i v σ) (hv : ∀ r, r < D + 2 → v r < 256) (hr : r < D + 2) :
    ∃ σ', fX5_mend n i (nI r) σ = some σ' ∧ XB D i (ud v r (mnd F D v r)) σ' ∧ fr [13 + 5 * i] σ σ' := by
  obtain ⟨w1, w2, w3, w4, w5, w6, w7⟩ := hE.1
  obtain ⟨h0, h1, h2, h3, h5, h6, h7, h8, h9⟩ := hE.2.1
  have hm := mnd_lt w7 hv hr
  refine ⟨g_put σ (13 + 5 * i) r (nI (mnd F D v r) &&& nI 255), ?_, XB_put hB hm, fr_put _ _ _ (by simp)⟩
  unfold fX5_mend fX5_mend_b36 fX5_mend_b73
  rw [h7]
  by_cases c : r = D + 1
  · subst c
    rw [if_pos rfl, h0, X_sumByPowers hn hE hB hv, b_I, h7, if_pos rfl, X_rget (by omega), b_I, X_rget (by omega), b_I, hB (D + 1) (by omega), nx_xor, nx_xor, X_rset (by omega), b_V]
    congr 4
    rw [mnd, if_pos rfl, wv, Nat.xor_assoc, Nat.xor_comm (sq F v D)]
  · have nc : ¬ nI r = nI (D + 1) := by rw [nEQ _ _ (by omega) (by omega)]; exact c
    rw [if_neg nc, X_sumForP hn hE hB, b_I, h7, if_neg nc, h6, X_rget (by omega), b_I, X_rget (by omega), b_I, hB D (by omega), hB r hr, nx_xor, nx_xor, X_rset (by omega), b_V]
    congr 4
    rw [mnd, if_neg c, wu, Nat.xor_assoc, Nat.xor_comm (sp v D)]
