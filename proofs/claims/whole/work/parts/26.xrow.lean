/-! the class's row -/
def XB (D i : Nat) (v : Nat → Nat) (σ : gM) : Prop := ∀ r, r < D + 2 → σ.1 (13 + 5 * i) r = nI (v r)
theorem XB_put {D i k x : Nat} {v : Nat → Nat} {σ : gM} (h : XB D i v σ) (hx : x < 256) : XB D i (ud v k x) (g_put σ (13 + 5 * i) k (nI x &&& nI 255)) := by
  intro r hr
  rw [gp_k, ud]
  by_cases e : r = k
  · rw [if_pos e, if_pos e, fa_and, n255 hx]
  · rw [if_neg e, if_neg e, h r hr]
theorem XB_fr {D i : Nat} {v : Nat → Nat} {σ σ' : gM} {L : List Nat} (h : XB D i v σ) (hf : fr L σ σ') (hL : 13 + 5 * i ∉ L) : XB D i v σ' := by
  intro r hr
  rw [hf.1 _ hL, h r hr]
theorem XB_ext {D i : Nat} {v w : Nat → Nat} {σ : gM} (h : XB D i v σ) (e : ∀ r, r < D + 2 → v r = w r) : XB D i w σ := fun r hr => by rw [h r hr, e r hr]
theorem X_sumForP {D S C F n i : Nat} {v : Nat → Nat} {σ : gM} (hn : 20 ≤ n) (hE : XE D S C F σ) (hB : XB D i v σ) : fX5_sumForP n i σ = some (nI (sp v D), σ) := by
  obtain ⟨⟨w1, w2, w3, w4, w5, w6, w7⟩, ⟨h0, h1, h2, h3, h5, h6, h7, h8, h9⟩, hf⟩ := hE
  unfold fX5_sumForP
  refine lp (L := fun m k a => fX5_sumForP_L4 n i m a (nI k) σ) (I := fun k a => a = nI (sp v k)) (Q := fun o => o = some (nI (sp v D), σ)) (N := D) ?_ ?_ D n 0 0 (by omega) (by omega) rfl
  · intro m k a hk ha
    subst ha
    refine Or.inl ⟨_, ?_, rfl⟩
    show fX5_sumForP_b4 n i (fX5_sumForP_L4 n i m) _ _ _ = _
    unfold fX5_sumForP_b4
    simp (disch := first | omega | assumption) only [h0, hB k, fa_lit, nLE, nLT, nEQ, nI_add, nSA, nSUB, pk_mul, nDIV, nREM, nCL, fa_and, nx_xor, fa_or, nSHL, nSHR, nUS, n31, n255, Nat.and_one_is_mod, b_I, b_V, b_L, not_or, Nat.not_lt_zero, Nat.not_le, Nat.not_lt, not_false_eq_true, true_and, and_true, false_or, or_false, Classical.not_not, if_true, if_false, if_pos, if_neg, sp]
  · intro m a ha
    subst ha
    show fX5_sumForP_b4 n i (fX5_sumForP_L4 n i m) _ _ _ = _
    unfold fX5_sumForP_b4 fX5_sumForP_b39
    simp (disch := first | omega | assumption) only [h0, fa_lit, nLE, nLT, nEQ, nI_add, nSA, nSUB, pk_mul, nDIV, nREM, nCL, fa_and, nx_xor, fa_or, nSHL, nSHR, nUS, n31, n255, Nat.and_one_is_mod, b_I, b_V, b_L, not_or, Nat.not_lt_zero, Nat.not_le, Nat.not_lt, not_false_eq_true, true_and, and_true, false_or, or_false, Classical.not_not, if_true, if_false, if_pos, if_neg]
theorem nS1 (x : Int32) (a : Nat) : x - nI a + (-1) = x - nI (a + 1) := by
  have e : (-1 : Int32) = -(nI 1) := by decide
  rw [e, ← nI_add, Int32.sub_eq_add_neg, Int32.sub_eq_add_neg, Int32.neg_add, Int32.sub_eq_add_neg, Int32.add_assoc]
theorem X_sumByPowers {D S C F n i : Nat} {v : Nat → Nat} {σ : gM} (hn : 20 ≤ n) (hE : XE D S C F σ) (hB : XB D i v σ) (hv : ∀ r, r < D + 2 → v r < 256) : fX1_sumByPowers n i (nI D) σ = some (nI (sq F v D), σ) := by
  obtain ⟨⟨w1, w2, w3, w4, w5, w6, w7⟩, ⟨h0, h1, h2, h3, h5, h6, h7, h8, h9⟩, ⟨f1, f2, f3⟩⟩ := hE
  rw [← hz_all w7 (by omega) (fun r hr => hv r (by omega))]
  have e0 : (if (8 : Int32) < nI D then 8 else nI D) - 1 = nI D - nI 1 := by
    rw [if_neg (by simp (disch := first | omega | assumption) only [fa_lit, nLE, nLT, nEQ, nI_add, nSA, nSUB, pk_mul, nDIV, nREM, nCL, fa_and, nx_xor, fa_or, nSHL, nSHR, nUS, n31, n255, Nat.and_one_is_mod, b_I, b_V, b_L, not_or, Nat.not_lt_zero, Nat.not_le, Nat.not_lt, not_false_eq_true, true_and, and_true, false_or, or_false, Classical.not_not, if_true, if_false, if_pos, if_neg]; all_goals omega)]; rfl
  unfold fX1_sumByPowers
  rw [e0]
  refine lp (L := fun m k a => fX1_sumByPowers_L12 n i m a (nI D - nI (k + 1)) σ) (I := fun k a => a = nI (hz F v D k)) (Q := fun o => o = some (nI (hz F v D D), σ)) (N := D) ?_ ?_ D n 0 0 (by omega) (by omega) rfl
  · intro m k a hk ha
    subst ha
    have hl := hz_lt (v := v) w7 (fun r hr => hv r (by omega)) k (by omega : k ≤ D)
    have hp := pol_lt F w7
    have hq : hz F v D k / 2 ^ 7 ≤ 1 := by
      have : hz F v D k / 128 ≤ 1 := by omega
      exact this
    have hm : hz F v D k / 2 ^ 7 * pol F < 2147483648 := by
      have := Nat.mul_le_mul hq (Nat.le_of_lt hp)
      omega
    refine Or.inl ⟨_, ?_, rfl⟩
    show fX1_sumByPowers_b12 n i (fX1_sumByPowers_L12 n i m) _ (nI D - nI (k + 1)) _ = _
    unfold fX1_sumByPowers_b12
    rw [nS1, pk_sub (by omega : k + 1 ≤ D), hz, xt]
    simp (disch := first | omega | assumption) only [f1, hB (D - (k + 1)), fa_lit, nLE, nLT, nEQ, nI_add, nSA, nSUB, pk_mul, nDIV, nREM, nCL, fa_and, nx_xor, fa_or, nSHL, nSHR, nUS, n31, n255, Nat.and_one_is_mod, b_I, b_V, b_L, not_or, Nat.not_lt_zero, Nat.not_le, Nat.not_lt, not_false_eq_true, true_and, and_true, false_or, or_false, Classical.not_not, if_true, if_false, if_pos, if_neg, Nat.pow_one]
  · intro m a ha
    subst ha
    have hneg : nI D - nI (D + 1) < 0 := by
      rw [Int32.lt_iff_toInt_lt, pk_sub_toInt (by omega) (by omega)]
      show _ < (0 : Int)
      omega
    show fX1_sumByPowers_b12 n i (fX1_sumByPowers_L12 n i m) _ (nI D - nI (D + 1)) _ = _
    unfold fX1_sumByPowers_b12
    rw [if_pos hneg]
theorem X_missing {D S C F n i t : Nat} {s : Sh} {σ : gM} (hn : 20 ≤ n) (hE : XE D S C F σ) (hO : ∀ d, d < 8 → s.don d < 13) (hX : XS C s (σ.1 (11 + 5 * i))) (ht : t < 12) : fX8_missing n i (nI t) σ = some (nI (bm (fun r => !th D s t r) (D + 2)), σ) := by
  obtain ⟨hw, hR, hf⟩ := hE
  have hw' := hw
  obtain ⟨w1, w2, w3, w4, w5, w6, w7⟩ := hw'
  have hR' := hR
  obtain ⟨h0, h1, h2, h3, h5, h6, h7, h8, h9⟩ := hR'
  unfold fX8_missing
  refine lp (L := fun m k a => fX8_missing_L4 n i m (nI t) a (nI k) σ) (I := fun k a => a = nI (bm (fun r => !th D s t r) k)) (Q := fun o => o = some (nI (bm (fun r => !th D s t r) (D + 2)), σ)) (N := D + 2) ?_ ?_ (D + 2) n 0 0 (by omega) (by omega) rfl
  · intro m k a hk ha
    subst ha
    have hd := (dk_ok D (by omega) w1 t ht k hk).1
    have hp := p2 (show k < 8 by omega)
    refine Or.inl ⟨_, ?_, rfl⟩
    show fX8_missing_b4 n i (fX8_missing_L4 n i m) _ _ _ _ = _
    unfold fX8_missing_b4 fX8_missing_b38
    rw [h5, if_neg (by simp (disch := first | omega | assumption) only [fa_lit, nLE, nLT, nEQ, nI_add, nSA, nSUB, pk_mul, nDIV, nREM, nCL, fa_and, nx_xor, fa_or, nSHL, nSHR, nUS, n31, n255, Nat.and_one_is_mod, b_I, b_V, b_L, not_or, Nat.not_lt_zero, Nat.not_le, Nat.not_lt, not_false_eq_true, true_and, and_true, false_or, or_false, Classical.not_not, if_true, if_false, if_pos, if_neg]; all_goals omega), X_diskOf hw hR hk ht, b_I, X_isThere hX (by omega) ht (hO _ (by omega)), b_I, bm_up]
    by_cases c : t < s.don (dk D t k)
    · rw [if_pos c, if_neg (by simp (disch := first | omega | assumption) only [fa_lit, nLE, nLT, nEQ, nI_add, nSA, nSUB, pk_mul, nDIV, nREM, nCL, fa_and, nx_xor, fa_or, nSHL, nSHR, nUS, n31, n255, Nat.and_one_is_mod, b_I, b_V, b_L, not_or, Nat.not_lt_zero, Nat.not_le, Nat.not_lt, not_false_eq_true, true_and, and_true, false_or, or_false, Classical.not_not, if_true, if_false, if_pos, if_neg]; all_goals omega)]
      simp only [th, c, decide_true, Bool.not_true, Bool.false_eq_true, if_false, Nat.or_zero]
      simp (disch := first | omega | assumption) only [fa_lit, nLE, nLT, nEQ, nI_add, nSA, nSUB, pk_mul, nDIV, nREM, nCL, fa_and, nx_xor, fa_or, nSHL, nSHR, nUS, n31, n255, Nat.and_one_is_mod, b_I, b_V, b_L, not_or, Nat.not_lt_zero, Nat.not_le, Nat.not_lt, not_false_eq_true, true_and, and_true, false_or, or_false, Classical.not_not, if_true, if_false, if_pos, if_neg]
    · rw [if_neg c, if_pos (show nI 0 = 0 from rfl)]
      simp only [th, c, decide_false, Bool.not_false, if_true]
      simp (disch := first | omega | assumption) only [fa_lit, nLE, nLT, nEQ, nI_add, nSA, nSUB, pk_mul, nDIV, nREM, nCL, fa_and, nx_xor, fa_or, nSHL, nSHR, nUS, n31, n255, Nat.and_one_is_mod, b_I, b_V, b_L, not_or, Nat.not_lt_zero, Nat.not_le, Nat.not_lt, not_false_eq_true, true_and, and_true, false_or, or_false, Classical.not_not, if_true, if_false, if_pos, if_neg, Nat.one_mul]
  · intro m a ha
    subst ha
    show fX8_missing_b4 n i (fX8_missing_L4 n i m) _ _ _ _ = _
    unfold fX8_missing_b4
    rw [h5, if_pos (by simp (disch := first | omega | assumption) only [fa_lit, nLE, nLT, nEQ, nI_add, nSA, nSUB, pk_mul, nDIV, nREM, nCL, fa_and, nx_xor, fa_or, nSHL, nSHR, nUS, n31, n255, Nat.and_one_is_mod, b_I, b_V, b_L, not_or, Nat.not_lt_zero, Nat.not_le, Nat.not_lt, not_false_eq_true, true_and, and_true, false_or, or_false, Classical.not_not, if_true, if_false, if_pos, if_neg]; all_goals omega)]

theorem th_lt {D t b : Nat} {s : Sh} {is : Nat → Bool} (h : ∀ d t b, s.byt d t b < 256) (r : Nat) : vl D s t b is r < 256 := by
  unfold vl
  split
  · exact h _ _ _
  · decide
theorem X_load {D S C F n i t b : Nat} {s : Sh} {σ : gM} {is : Nat → Bool} (hn : 20 ≤ n) (hE : XE D S C F σ) (hX : XS C s (σ.1 (11 + 5 * i))) (ht : t < 12) (hb : b < C) (hi : ∀ r, r < D + 2 → is r = true → th D s t r = true) :
    ∃ σ', fX5_load n i i (nI t) (nI b) (nI (bm (fun r => !is r) (D + 2))) σ = some σ' ∧ XB D i (vl D s t b is) σ' ∧ fr [13 + 5 * i] σ σ' := by
  have hw := hE.1
  have hw' := hw
  obtain ⟨w1, w2, w3, w4, w5, w6, w7⟩ := hw'
  have hl := bm_lt8 (p := fun r => !is r) (show D + 2 ≤ 8 by omega)
  unfold fX5_load
  refine lp (L := fun m k a => fX5_load_L3 n i i m (nI t) (nI b) (nI (bm (fun r => !is r) (D + 2))) (nI k) a) (I := fun k a => (∀ r, r < k → a.1 (13 + 5 * i) r = nI (vl D s t b is r)) ∧ fr [13 + 5 * i] σ a) (Q := fun o => ∃ σ', o = some σ' ∧ XB D i (vl D s t b is) σ' ∧ fr [13 + 5 * i] σ σ') (N := D + 2) ?_ ?_ (D + 2) n 0 σ (by omega) (by omega) ⟨fun r hr => absurd hr (Nat.not_lt_zero r), fr_refl _ _⟩
  · intro m k a hk ha
    have hE' := XE_fr hE ha.2 (by simp <;> omega) (by simp <;> omega) (by simp <;> omega) (by simp <;> omega)
    have hR := hE'.2.1
    have hR' := hR
    obtain ⟨h0, h1, h2, h3, h5, h6, h7, h8, h9⟩ := hR'
    have hd := (dk_ok D (by omega) w1 t ht k hk).1
    have hbit := bm_bit (p := fun r => !is r) hk
    refine Or.inl ⟨g_put a (13 + 5 * i) k (nI (vl D s t b is k)), ?_, ?_, fr_trans ha.2 (fr_put a k _ (by simp))⟩
    · show fX5_load_b3 n i i (fX5_load_L3 n i i m) _ _ _ _ _ = _
      unfold fX5_load_b3 fX5_load_b40 fX5_load_b73
      rw [h5, if_neg (by simp (disch := first | omega | assumption) only [fa_lit, nLE, nLT, nEQ, nI_add, nSA, nSUB, pk_mul, nDIV, nREM, nCL, fa_and, nx_xor, fa_or, nSHL, nSHR, nUS, n31, n255, Nat.and_one_is_mod, b_I, b_V, b_L, not_or, Nat.not_lt_zero, Nat.not_le, Nat.not_lt, not_false_eq_true, true_and, and_true, false_or, or_false, Classical.not_not, if_true, if_false, if_pos, if_neg]; all_goals omega), if_neg (by simp (disch := first | omega | assumption) only [fa_lit, nLE, nLT, nEQ, nI_add, nSA, nSUB, pk_mul, nDIV, nREM, nCL, fa_and, nx_xor, fa_or, nSHL, nSHR, nUS, n31, n255, Nat.and_one_is_mod, b_I, b_V, b_L, not_or, Nat.not_lt_zero, Nat.not_le, Nat.not_lt, not_false_eq_true, true_and, and_true, false_or, or_false, Classical.not_not, if_true, if_false, if_pos, if_neg]; all_goals omega), vl]
      by_cases c : is k = true
      · have ht' := hi k hk c
        simp only [th, decide_eq_true_eq] at ht'
        have e := hX.byt (dk D t k) t b (by omega) ht hb ht'
        rw [← ha.2.1 (11 + 5 * i) (by simp <;> omega)] at e
        simp only [c, Bool.not_true, Bool.false_eq_true, if_false] at hbit
        rw [if_pos (by simp (disch := first | omega | assumption) only [fa_lit, nLE, nLT, nEQ, nI_add, nSA, nSUB, pk_mul, nDIV, nREM, nCL, fa_and, nx_xor, fa_or, nSHL, nSHR, nUS, n31, n255, Nat.and_one_is_mod, b_I, b_V, b_L, not_or, Nat.not_lt_zero, Nat.not_le, Nat.not_lt, not_false_eq_true, true_and, and_true, false_or, or_false, Classical.not_not, if_true, if_false, if_pos, if_neg, hbit]), if_neg (by decide), X_diskOf hw hR hk ht, b_I, X_byteAt (by omega) ht (by omega), b_I, e, if_pos c]
        simp (disch := first | omega | assumption) only [fa_lit, nLE, nLT, nEQ, nI_add, nSA, nSUB, pk_mul, nDIV, nREM, nCL, fa_and, nx_xor, fa_or, nSHL, nSHR, nUS, n31, n255, Nat.and_one_is_mod, b_I, b_V, b_L, not_or, Nat.not_lt_zero, Nat.not_le, Nat.not_lt, not_false_eq_true, true_and, and_true, false_or, or_false, Classical.not_not, if_true, if_false, if_pos, if_neg]
      · simp only [c, Bool.not_false, if_true] at hbit
        rw [if_neg (by simp (disch := first | omega | assumption) only [fa_lit, nLE, nLT, nEQ, nI_add, nSA, nSUB, pk_mul, nDIV, nREM, nCL, fa_and, nx_xor, fa_or, nSHL, nSHR, nUS, n31, n255, Nat.and_one_is_mod, b_I, b_V, b_L, not_or, Nat.not_lt_zero, Nat.not_le, Nat.not_lt, not_false_eq_true, true_and, and_true, false_or, or_false, Classical.not_not, if_true, if_false, if_pos, if_neg, hbit]; all_goals omega), if_pos rfl, if_neg c]
        simp (disch := first | omega | assumption) only [fa_lit, nLE, nLT, nEQ, nI_add, nSA, nSUB, pk_mul, nDIV, nREM, nCL, fa_and, nx_xor, fa_or, nSHL, nSHR, nUS, n31, n255, Nat.and_one_is_mod, b_I, b_V, b_L, not_or, Nat.not_lt_zero, Nat.not_le, Nat.not_lt, not_false_eq_true, true_and, and_true, false_or, or_false, Classical.not_not, if_true, if_false, if_pos, if_neg]
    · intro r hr
      rw [gp_k]
      by_cases e : r = k
      · rw [if_pos e, e]
      · rw [if_neg e]; exact ha.1 r (by omega)
  · intro m a ha
    have hE' := XE_fr hE ha.2 (by simp <;> omega) (by simp <;> omega) (by simp <;> omega) (by simp <;> omega)
    obtain ⟨h0, h1, h2, h3, h5, h6, h7, h8, h9⟩ := hE'.2.1
    refine ⟨a, ?_, ha.1, ha.2⟩
    show fX5_load_b3 n i i (fX5_load_L3 n i i m) _ _ _ _ _ = _
    unfold fX5_load_b3
    rw [h5, if_pos (by simp (disch := first | omega | assumption) only [fa_lit, nLE, nLT, nEQ, nI_add, nSA, nSUB, pk_mul, nDIV, nREM, nCL, fa_and, nx_xor, fa_or, nSHL, nSHR, nUS, n31, n255, Nat.and_one_is_mod, b_I, b_V, b_L, not_or, Nat.not_lt_zero, Nat.not_le, Nat.not_lt, not_false_eq_true, true_and, and_true, false_or, or_false, Classical.not_not, if_true, if_false, if_pos, if_neg]; all_goals omega)]
