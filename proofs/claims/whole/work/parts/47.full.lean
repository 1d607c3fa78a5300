/-! the act: full -/
theorem X_sumForP2 {D S C F n i : Nat} {v : Nat → Nat} {σ : gM} (hn : 20 ≤ n) (hE : XE D S C F σ) (hB : ∀ r, r < D → σ.1 (13 + 5 * i) r = nI (v r)) : fX5_sumForP n i σ = some (nI (sp v D), σ) := by
  obtain ⟨⟨w1, w2, w3, w4, w5, w6, w7⟩, ⟨h0, h1, h2, h3, h5, h6, h7, h8, h9⟩, hf⟩ := hE
  unfold fX5_sumForP
  refine lp (L := fun m k a => fX5_sumForP_L4 n i m a (nI k) σ) (I := fun k a => a = nI (sp v k)) (Q := fun o => o = some (nI (sp v D), σ)) (N := D) ?_ ?_ D n 0 0 (by omega) (by omega) rfl
  · intro m k a hk ha
    subst ha
    refine Or.inl ⟨_, ?_, rfl⟩
    show fX5_sumForP_b4 n i (fX5_sumForP_L4 n i m) _ _ _ = _
    unfold fX5_sumForP_b4
    simp (disch := first | omega | assumption) only [h0, hB k, fa_lit, nLE, nLT, nEQ, nI_add, nSA, nSUB, pk_mul, nDIV, nREM, nCL, fa_and, nx_xor, fa_or, nSHL, nSHR, nUS, n31, n255, Nat.and_one_is_mod, b_I, b_V, b_L, not_or, Nat.not_lt_zero, Nat.not_le, Nat.not_lt, not_false_eq_true, true_and, and_true, false_or, or_false, Classical.not_not, if_true, if_false, if_pos, if_neg, sp]
  · intro m a ha
    subst ha
    show fX5_sumForP_b4 n i (fX5_sumForP_L4 n i m) _ _ _ = _
    unfold fX5_sumForP_b4 fX5_sumForP_b39
    simp (disch := first | omega | assumption) only [h0, fa_lit, nLE, nLT, nEQ, nI_add, nSA, nSUB, pk_mul, nDIV, nREM, nCL, fa_and, nx_xor, fa_or, nSHL, nSHR, nUS, n31, n255, Nat.and_one_is_mod, b_I, b_V, b_L, not_or, Nat.not_lt_zero, Nat.not_le, Nat.not_lt, not_false_eq_true, true_and, and_true, false_or, or_false, Classical.not_not, if_true, if_false, if_pos, if_neg]
theorem X_sumByPowers2 {D S C F n i : Nat} {v : Nat → Nat} {σ : gM} (hn : 20 ≤ n) (hE : XE D S C F σ) (hB : ∀ r, r < D → σ.1 (13 + 5 * i) r = nI (v r)) (hv : ∀ r, r < D → v r < 256) : fX1_sumByPowers n i (nI D) σ = some (nI (sq F v D), σ) := by
  obtain ⟨⟨w1, w2, w3, w4, w5, w6, w7⟩, ⟨h0, h1, h2, h3, h5, h6, h7, h8, h9⟩, ⟨f1, f2, f3⟩⟩ := hE
  rw [← hz_all w7 (by omega) (fun r hr => hv r (by omega))]
  have e0 : (if (8 : Int32) < nI D then 8 else nI D) - 1 = nI D - nI 1 := by
    rw [if_neg (by simp (disch := first | omega | assumption) only [fa_lit, nLE, nLT, nEQ, nI_add, nSA, nSUB, pk_mul, nDIV, nREM, nCL, fa_and, nx_xor, fa_or, nSHL, nSHR, nUS, n31, n255, Nat.and_one_is_mod, b_I, b_V, b_L, not_or, Nat.not_lt_zero, Nat.not_le, Nat.not_lt, not_false_eq_true, true_and, and_true, false_or, or_false, Classical.not_not, if_true, if_false, if_pos, if_neg]; all_goals omega)]; rfl
  unfold fX1_sumByPowers
  rw [e0]
  refine lp (L := fun m k a => fX1_sumByPowers_L12 n i m a (nI D - nI (k + 1)) σ) (I := fun k a => a = nI (hz F v D k)) (Q := fun o => o = some (nI (hz F v D D), σ)) (N := D) ?_ ?_ D n 0 0 (by omega) (by omega) rfl
  · intro m k a hk ha
    subst ha
    have hl := hz_lt (v := v) w7 (fun r hr => hv r (by omega)) k (by omega : k ≤ D)
    have hp := pol_lt F w7
    have hq : hz F v D k / 2 ^ 7 ≤ 1 := by
      have : hz F v D k / 128 ≤ 1 := by omega
      exact this
    have hm : hz F v D k / 2 ^ 7 * pol F < 2147483648 := by
      have := Nat.mul_le_mul hq (Nat.le_of_lt hp)
      omega
    refine Or.inl ⟨_, ?_, rfl⟩
    show fX1_sumByPowers_b12 n i (fX1_sumByPowers_L12 n i m) _ (nI D - nI (k + 1)) _ = _
    unfold fX1_sumByPowers_b12
    rw [nS1, pk_sub (by omega : k + 1 ≤ D), hz, xt]
    simp (disch := first | omega | assumption) only [f1, hB (D - (k + 1)), fa_lit, nLE, nLT, nEQ, nI_add, nSA, nSUB, pk_mul, nDIV, nREM, nCL, fa_and, nx_xor, fa_or, nSHL, nSHR, nUS, n31, n255, Nat.and_one_is_mod, b_I, b_V, b_L, not_or, Nat.not_lt_zero, Nat.not_le, Nat.not_lt, not_false_eq_true, true_and, and_true, false_or, or_false, Classical.not_not, if_true, if_false, if_pos, if_neg, Nat.pow_one]
  · intro m a ha
    subst ha
    have hneg : nI D - nI (D + 1) < 0 := by
      rw [Int32.lt_iff_toInt_lt, pk_sub_toInt (by omega) (by omega)]
      show _ < (0 : Int)
      omega
    show fX1_sumByPowers_b12 n i (fX1_sumByPowers_L12 n i m) _ (nI D - nI (D + 1)) _ = _
    unfold fX1_sumByPowers_b12
    rw [if_pos hneg]
theorem X_reckon2 {D S C F n i : Nat} {v : Nat → Nat} {σ : gM} (hn : 20 ≤ n) (hE : XE D S C F σ) (hB : ∀ r, r < D → σ.1 (13 + 5 * i) r = nI (v r)) (hv : ∀ r, r < D → v r < 256) :
    ∃ σ', fX5_reckonSums n i σ = some σ' ∧ XB D i (ud (ud v D (sp v D)) (D + 1) (sq F v D)) σ' ∧ fr [13 + 5 * i] σ σ' := by
  obtain ⟨w1, w2, w3, w4, w5, w6, w7⟩ := hE.1
  obtain ⟨h0, h1, h2, h3, h5, h6, h7, h8, h9⟩ := hE.2.1
  have hsp : sp v D < 256 := sp_lt fun r hr => hv r (by omega)
  have hsq : sq F v D < 256 := sq_lt w7 D
  have f1 : fr [13 + 5 * i] σ (g_put σ (13 + 5 * i) D (nI (sp v D) &&& nI 255)) := fr_put _ _ _ (by simp)
  have hE1 := XE_fr hE f1 (by simp <;> omega) (by simp <;> omega) (by simp <;> omega) (by simp <;> omega)
  have B1 : ∀ r, r < D → (g_put σ (13 + 5 * i) D (nI (sp v D) &&& nI 255)).1 (13 + 5 * i) r = nI (v r) := by
    intro r hr
    rw [gp_k, if_neg (by omega)]; exact hB r hr
  obtain ⟨g0, g1, g2, g3, g5, g6, g7, g8, g9⟩ := hE1.2.1
  unfold fX5_reckonSums
  rw [X_sumForP2 hn hE hB, b_I, h6, X_rset (by omega), b_V, g0, X_sumByPowers2 hn hE1 B1 hv, b_I, g7, X_rset (by omega), b_V]
  refine ⟨_, rfl, ?_, fr_trans f1 (fr_put _ _ _ (by simp))⟩
  intro r hr
  rw [gp_k]
  by_cases c : r = D + 1
  · rw [if_pos c, c, ud_eq, fa_and, n255 hsq]
  · rw [if_neg c, gp_k, ud_ne c]
    by_cases c2 : r = D
    · rw [if_pos c2, c2, ud_eq, fa_and, n255 hsp]
    · rw [if_neg c2, ud_ne c2]; exact hB r (by omega)
def fv (x y : Nat) : Nat → Nat := fun r => (x + r * y) % 256
def fV (F D x y : Nat) : Nat → Nat := ud (ud (fv x y) D (sp (fv x y) D)) (D + 1) (sq F (fv x y) D)
def fuS (F D : Nat) (s : Sh) (t b x y : Nat) : Sh := (s.w_byt (bs D t b (th D s t) (fV F D x y) s.byt)).w_wr (cn D t (th D s t) s.wr)
theorem fv_lt (x y r : Nat) : fv x y r < 256 := Nat.mod_lt _ (by decide)
theorem fV_lt {F D x y : Nat} (hF : F < 4) : ∀ r, r < D + 2 → fV F D x y r < 256 := ud_lt (ud_lt (fun r _ => fv_lt x y r) (sp_lt fun r _ => fv_lt x y r)) (sq_lt hF D)
theorem n256 (a : Nat) : a &&& 255 = a % 256 := Nat.and_two_pow_sub_one_eq_mod a 8
theorem X_doFull {D S C F n i t b x y : Nat} {s : Sh} {σ : gM} (hn : 20 ≤ n) (hE : XE D S C F σ) (hO : Ok D S C s) (hX : XS C s (σ.1 (11 + 5 * i))) (ht : t < S) (hb : b < C) :
    ∃ σ', fX8_doFull n i (nI t) (nI b) (nI x) (nI y) σ = some (nI (ct (th D s t) (D + 2)), σ') ∧ XS C (fuS F D s t b x y) (σ'.1 (11 + 5 * i)) ∧ fr [11 + 5 * i, 13 + 5 * i] σ σ' := by
  obtain ⟨w1, w2, w3, w4, w5, w6, w7⟩ := hE.1
  unfold fX8_doFull
  refine lp (L := fun m k a => fX8_doFull_L3 n i m (nI t) (nI b) (nI x) (nI y) (nI k) a) (I := fun k a => (∀ r, r < k → a.1 (13 + 5 * i) r = nI (fv x y r)) ∧ fr [13 + 5 * i] σ a) (Q := fun o => ∃ σ', o = some (nI (ct (th D s t) (D + 2)), σ') ∧ XS C (fuS F D s t b x y) (σ'.1 (11 + 5 * i)) ∧ fr [11 + 5 * i, 13 + 5 * i] σ σ') (N := D) ?_ ?_ D n 0 σ (by omega) (by omega) ⟨fun r hr => absurd hr (Nat.not_lt_zero _), fr_refl _ _⟩
  · intro m k a hk ha
    have hEa := XE_fr hE ha.2 (by simp <;> omega) (by simp <;> omega) (by simp <;> omega) (by simp <;> omega)
    obtain ⟨h0, h1, h2, h3, h5, h6, h7, h8, h9⟩ := hEa.2.1
    refine Or.inl ⟨g_put a (13 + 5 * i) k (nI (fv x y k)), ?_, ?_, fr_trans ha.2 (fr_put _ _ _ (by simp))⟩
    · show fX8_doFull_b3 n i (fX8_doFull_L3 n i m) _ _ _ _ _ _ = _
      unfold fX8_doFull_b3
      have e : (nI x + nI k * nI y) &&& 255 = nI (fv x y k) := by
        rw [show (255 : Int32) = nI 255 from rfl, pk_mul, nI_add, fa_and, n256]; rfl
      rw [h0, if_neg (by simp (disch := first | omega | assumption) only [fa_lit, nLE, nLT, nEQ, nI_add, nSA, nSUB, pk_mul, nDIV, nREM, nCL, fa_and, nx_xor, fa_or, nSHL, nSHR, nUS, n31, n255, Nat.and_one_is_mod, b_I, b_V, b_L, not_or, Nat.not_lt_zero, Nat.not_le, Nat.not_lt, not_false_eq_true, true_and, and_true, false_or, or_false, Classical.not_not, if_true, if_false, if_pos, if_neg] <;> omega), e, X_rset (by omega), b_V, fa_and, n255 (fv_lt x y k), show nI k + 1 = nI (k + 1) from nI_add k 1]
    · intro r hr
      rw [gp_k]
      by_cases c : r = k
      · rw [if_pos c, c]
      · rw [if_neg c]; exact ha.1 r (by omega)
  · intro m a ha
    have hEa := XE_fr hE ha.2 (by simp <;> omega) (by simp <;> omega) (by simp <;> omega) (by simp <;> omega)
    obtain ⟨h0, h1, h2, h3, h5, h6, h7, h8, h9⟩ := hEa.2.1
    obtain ⟨σ1, e1, B1, f1⟩ := X_reckon2 hn hEa ha.1 (fun r _ => fv_lt x y r)
    have hE1 := XE_fr hEa f1 (by simp <;> omega) (by simp <;> omega) (by simp <;> omega) (by simp <;> omega)
    have F1 := fr_trans ha.2 f1
    have X1 : XS C s (σ1.1 (11 + 5 * i)) := by rw [F1.1 _ (by simp <;> omega)]; exact hX
    obtain ⟨g0, g1, g2, g3, g5, g6, g7, g8, g9⟩ := hE1.2.1
    have em : nI (2 ^ (D + 2) - 1) &&& (nI (bm (fun r => !th D s t r) (D + 2)) ^^^ -1) = nI (bm (th D s t) (D + 2)) := by
      rw [nANDN, bm_all, bm_not]
      congr 1
      exact bm_ext fun r _ => by simp
    obtain ⟨σ2, e2, X2, f2, _⟩ := X_store (p := th D s t) (t := t) (b := b) hn hE1 X1 B1 (fV_lt w7) (by omega) hb
    show ∃ σ', fX8_doFull_b3 n i (fX8_doFull_L3 n i m) _ _ _ _ _ _ = some (nI (ct (th D s t) (D + 2)), σ') ∧ _
    unfold fX8_doFull_b3
    rw [h0, if_pos (by simp (disch := first | omega | assumption) only [fa_lit, nLE, nLT, nEQ, nI_add, nSA, nSUB, pk_mul, nDIV, nREM, nCL, fa_and, nx_xor, fa_or, nSHL, nSHR, nUS, n31, n255, Nat.and_one_is_mod, b_I, b_V, b_L, not_or, Nat.not_lt_zero, Nat.not_le, Nat.not_lt, not_false_eq_true, true_and, and_true, false_or, or_false, Classical.not_not, if_true, if_false, if_pos, if_neg] <;> omega), e1, b_V, X_missing hn hE1 (Ok_don hO w4) X1 (by omega), b_I, g9, em, e2, b_V, bc_bm (by omega), b_I]
    exact ⟨_, rfl, X2, fr_trans (fr_mono F1 (by simp)) (fr_mono f2 (by simp))⟩
