/-! reading of a script: one step -/
theorem X_put4 {i j : Nat} {σ : gM} (hi : i < 16) (hj : j < 4) (hs : σ.1 47 2 = nI (i + 1)) (v : Int32) : fX7_put 4 (nI i) (nI j) v σ = some (g_put σ 49 (4 * i + j) v) := by
  have e : (4 : Int32) * nI i + nI j = nI (4 * i + j) := by
    rw [show (4 : Int32) * nI i = nI (4 * i) from pk_mul 4 i, nI_add]
  unfold fX7_put
  rw [X_isStep (j := 4) (z := i + 1) hs (by omega) (by omega), b_I, if_neg n10, if_neg (by simp (disch := first | omega | assumption) only [fa_lit, nLE, nLT, nEQ, nI_add, nSA, nSUB, pk_mul, nDIV, nREM, nCL, fa_and, nx_xor, fa_or, nSHL, nSHR, nUS, n31, n255, Nat.and_one_is_mod, b_I, b_V, b_L, not_or, Nat.not_lt_zero, Nat.not_le, Nat.not_lt, not_false_eq_true, true_and, and_true, false_or, or_false, Classical.not_not, if_true, if_false, if_pos, if_neg] <;> omega), if_neg (by simp (disch := first | omega | assumption) only [fa_lit, nLE, nLT, nEQ, nI_add, nSA, nSUB, pk_mul, nDIV, nREM, nCL, fa_and, nx_xor, fa_or, nSHL, nSHR, nUS, n31, n255, Nat.and_one_is_mod, b_I, b_V, b_L, not_or, Nat.not_lt_zero, Nat.not_le, Nat.not_lt, not_false_eq_true, true_and, and_true, false_or, or_false, Classical.not_not, if_true, if_false, if_pos, if_neg] <;> omega), e, nCL (by omega), if_pos (by simp (disch := first | omega | assumption) only [fa_lit, nLE, nLT, nEQ, nI_add, nSA, nSUB, pk_mul, nDIV, nREM, nCL, fa_and, nx_xor, fa_or, nSHL, nSHR, nUS, n31, n255, Nat.and_one_is_mod, b_I, b_V, b_L, not_or, Nat.not_lt_zero, Nat.not_le, Nat.not_lt, not_false_eq_true, true_and, and_true, false_or, or_false, Classical.not_not, if_true, if_false, if_pos, if_neg] <;> omega), b_L]
theorem X_add4 {i : Nat} {σ : gM} (hi : i < 16) (hs : σ.1 47 2 = nI i) (v : Int32) : fX7_add 4 v σ = some (g_put (g_put σ 48 i v) 47 2 (nI (i + 1))) := by
  have hs' : σ.1 (35 + 3 * 4) 2 = nI i := hs
  unfold fX7_add
  rw [hs', if_neg (by simp (disch := first | omega | assumption) only [fa_lit, nLE, nLT, nEQ, nI_add, nSA, nSUB, pk_mul, nDIV, nREM, nCL, fa_and, nx_xor, fa_or, nSHL, nSHR, nUS, n31, n255, Nat.and_one_is_mod, b_I, b_V, b_L, not_or, Nat.not_lt_zero, Nat.not_le, Nat.not_lt, not_false_eq_true, true_and, and_true, false_or, or_false, Classical.not_not, if_true, if_false, if_pos, if_neg] <;> omega), if_neg (by simp (disch := first | omega | assumption) only [fa_lit, nLE, nLT, nEQ, nI_add, nSA, nSUB, pk_mul, nDIV, nREM, nCL, fa_and, nx_xor, fa_or, nSHL, nSHR, nUS, n31, n255, Nat.and_one_is_mod, b_I, b_V, b_L, not_or, Nat.not_lt_zero, Nat.not_le, Nat.not_lt, not_false_eq_true, true_and, and_true, false_or, or_false, Classical.not_not, if_true, if_false, if_pos, if_neg] <;> omega), nCL (by omega), if_pos (by simp (disch := first | omega | assumption) only [fa_lit, nLE, nLT, nEQ, nI_add, nSA, nSUB, pk_mul, nDIV, nREM, nCL, fa_and, nx_xor, fa_or, nSHL, nSHR, nUS, n31, n255, Nat.and_one_is_mod, b_I, b_V, b_L, not_or, Nat.not_lt_zero, Nat.not_le, Nat.not_lt, not_false_eq_true, true_and, and_true, false_or, or_false, Classical.not_not, if_true, if_false, if_pos, if_neg] <;> omega), b_L, gp_o (by decide), hs', b_L, show nI i + 1 = nI (i + 1) from nI_add i 1]
theorem X_numbersOf {k : Nat} (hk : k < 9) (σ : gM) : fX7_numbersOf (nI k) σ = some (nI (nmb k), σ) := by
  unfold fX7_numbersOf
  rw [nCL (by omega), if_neg (by simp (disch := first | omega | assumption) only [fa_lit, nLE, nLT, nEQ, nI_add, nSA, nSUB, pk_mul, nDIV, nREM, nCL, fa_and, nx_xor, fa_or, nSHL, nSHR, nUS, n31, n255, Nat.and_one_is_mod, b_I, b_V, b_L, not_or, Nat.not_lt_zero, Nat.not_le, Nat.not_lt, not_false_eq_true, true_and, and_true, false_or, or_false, Classical.not_not, if_true, if_false, if_pos, if_neg] <;> omega), if_neg (by simp (disch := first | omega | assumption) only [fa_lit, nLE, nLT, nEQ, nI_add, nSA, nSUB, pk_mul, nDIV, nREM, nCL, fa_and, nx_xor, fa_or, nSHL, nSHR, nUS, n31, n255, Nat.and_one_is_mod, b_I, b_V, b_L, not_or, Nat.not_lt_zero, Nat.not_le, Nat.not_lt, not_false_eq_true, true_and, and_true, false_or, or_false, Classical.not_not, if_true, if_false, if_pos, if_neg] <;> omega), if_pos (by simp (disch := first | omega | assumption) only [fa_lit, nLE, nLT, nEQ, nI_add, nSA, nSUB, pk_mul, nDIV, nREM, nCL, fa_and, nx_xor, fa_or, nSHL, nSHR, nUS, n31, n255, Nat.and_one_is_mod, b_I, b_V, b_L, not_or, Nat.not_lt_zero, Nat.not_le, Nat.not_lt, not_false_eq_true, true_and, and_true, false_or, or_false, Classical.not_not, if_true, if_false, if_pos, if_neg] <;> omega), nmb_list k hk]
theorem M_numbersOf {k : Nat} (hk : k < 9) (σ : gM) : fX12_numbersOf (nI k) σ = some (nI (nmb k), σ) := by
  rcases (show k = 0 ∨ k = 1 ∨ k = 2 ∨ k = 3 ∨ k = 4 ∨ k = 5 ∨ k = 6 ∨ k = 7 ∨ k = 8 by omega) with rfl | rfl | rfl | rfl | rfl | rfl | rfl | rfl | rfl <;> rfl
theorem M_fill {k b : Nat} (hk : k < 9) (hb : b ≤ 395) : ∀ (r j m : Nat) (σ : gM), j + r = 4 → r < m → (nmb k ≤ j ∨ ¬ σ.1 0 4 = -1) → ∃ σ', fX12_readStep_L47 1000 m (nI b) (nI k) (nI j) σ = some σ' ∧ gj [6] [] σ σ' ∧ ∀ x, σ'.1 6 x = if b + 1 + j ≤ x ∧ x < b + 5 then -1 else σ.1 6 x := by
  intro r
  induction r with
  | zero =>
    intro j m σ hj hm hc
    obtain ⟨m, rfl⟩ : ∃ m', m = m' + 1 := ⟨m - 1, by omega⟩
    have : j = 4 := by omega
    subst this
    rw [show fX12_readStep_L47 1000 (m + 1) (nI b) (nI k) (nI 4) σ = fX12_readStep_b47 1000 (fX12_readStep_L47 1000 m) (nI b) (nI k) (nI 4) σ from rfl]
    unfold fX12_readStep_b47
    rw [if_pos (show (4 : Int32) ≤ nI 4 by decide)]
    exact ⟨σ, rfl, gj_refl _ _ _, fun x => by rw [if_neg (by omega)]⟩
  | succ r ih =>
    intro j m σ hj hm hc
    obtain ⟨m, rfl⟩ : ∃ m', m = m' + 1 := ⟨m - 1, by omega⟩
    rw [show fX12_readStep_L47 1000 (m + 1) (nI b) (nI k) (nI j) σ = fX12_readStep_b47 1000 (fX12_readStep_L47 1000 m) (nI b) (nI k) (nI j) σ from rfl]
    unfold fX12_readStep_b47 fX12_readStep_b134
    have e : nI b + 1 + nI j = nI (b + 1 + j) := by rw [show nI b + 1 = nI (b + 1) from nI_add b 1, nI_add]
    have h4 := nmb_le k hk
    rw [if_neg (show ¬ (4 : Int32) ≤ nI j by rw [show (4 : Int32) = nI 4 from rfl, nLE _ _ (by omega) (by omega)]; omega), e, nCL (by omega), if_pos (show ¬ (nI (b + 1 + j) < 0 ∨ 400 ≤ b + 1 + j) by rw [show (0 : Int32) = nI 0 from rfl, nLT _ _ (by omega) (by omega)]; omega), b_L, M_numbersOf hk, b_I, show nI j + 1 = nI (j + 1) from nI_add j 1]
    obtain ⟨σ', k1, k2, k3⟩ := ih (j + 1) m (g_put σ 6 (b + 1 + j) (-1)) (by omega) (by omega) (by
      rcases hc with h | h
      · exact Or.inl (by omega)
      · exact Or.inr (by rw [gp_o (by decide)]; exact h))
    refine ⟨σ', ?_, gj_trans (gj_put _ _ _ (by simp) (by decide)) k2, fun x => ?_⟩
    · by_cases c : nmb k ≤ j
      · rw [if_pos (show nI (nmb k) ≤ nI j by rw [nLE _ _ (by omega) (by omega)]; exact c)]; exact k1
      · rw [if_neg (show ¬ nI (nmb k) ≤ nI j by rw [nLE _ _ (by omega) (by omega)]; exact c), if_neg (by
          rw [gp_o (by decide)]
          rcases hc with h | h
          · exact absurd h c
          · exact h)]
        exact k1
    · rw [k3, gp_k]
      by_cases c1 : x = b + 1 + j
      · rw [if_neg (by omega), if_pos c1, if_pos (by omega)]
      · by_cases c2 : b + 1 + j ≤ x ∧ x < b + 5
        · rw [if_pos (by omega), if_pos c2]
        · rw [if_neg (by omega), if_neg c1, if_neg c2]
/-- what the numbers of a step come to -/
def NU (L i k b p : Nat) (σX σM : gM) (oX : Option (Int32 × gM)) (oM : Option gM) : Prop :=
  ∃ τX τM, gk [49] [2, 3, 4] σX τX ∧ gj [6] [3, 4] σM τM ∧ (∀ x, (x < 4 * i ∨ 4 * i + 4 ≤ x) → τX.1 49 x = σX.1 49 x) ∧ (∀ x, (x < b + 1 ∨ b + 5 ≤ x) → τM.1 6 x = σM.1 6 x) ∧
    ((∃ p', p ≤ p' ∧ p' ≤ L ∧ oX = some (1, τX) ∧ oM = some τM ∧ τX.1 1 2 = nI p' ∧ τM.1 0 3 = nI p' ∧ τM.1 0 4 = -1 ∧ ∀ q, q < 4 → τM.1 6 (b + 1 + q) = if q < nmb k then τX.1 49 (4 * i + q) else -1) ∨
     (∃ f, f ≤ L ∧ oX = some (0, τX) ∧ oM = some τM ∧ τX.1 1 3 = nI f ∧ τM.1 0 4 = nI f))
theorem NU_trans {L i k b p p1 : Nat} {σX σM υX υM : gM} {oX : Option (Int32 × gM)} {oM : Option gM} (hX : gk [49] [2, 3, 4] σX υX) (hM : gj [6] [3, 4] σM υM) (h1 : ∀ x, (x < 4 * i ∨ 4 * i + 4 ≤ x) → υX.1 49 x = σX.1 49 x) (h2 : ∀ x, (x < b + 1 ∨ b + 5 ≤ x) → υM.1 6 x = σM.1 6 x) (hp : p ≤ p1) (h : NU L i k b p1 υX υM oX oM) : NU L i k b p σX σM oX oM := by
  obtain ⟨τX, τM, k1, k2, k3, k4, k5⟩ := h
  refine ⟨τX, τM, gk_trans hX k1, gj_trans hM k2, fun x hx => (k3 x hx).trans (h1 x hx), fun x hx => (k4 x hx).trans (h2 x hx), ?_⟩
  rcases k5 with ⟨p', k5, k6⟩ | k5
  · exact Or.inl ⟨p', by omega, k6⟩
  · exact Or.inr k5
theorem J_nums {T : Nat → Nat} {L i k b : Nat} (hL : L ≤ 280) (hi : i < 16) (hk : k < 9) (hb : b = 5 * (64 + i)) : ∀ (r j p mX mM : Nat) (σX σM : gM), j + r = nmb k → r < mX → 4 - j < mM → p ≤ L → XT L T σX → MT L T σM → σX.1 1 2 = nI p → σM.1 0 3 = nI p → σM.1 0 4 = -1 → σX.1 47 2 = nI (i + 1) → (∀ q, q < j → σM.1 6 (b + 1 + q) = σX.1 49 (4 * i + q)) →
    NU L i k b p σX σM (fX10_readStep_L59 1000 mX (nI i) (nI k) (nI j) σX) (fX12_readStep_L47 1000 mM (nI b) (nI k) (nI j) σM) := by
  intro r
  have h4 := nmb_le k hk
  induction r with
  | zero =>
    intro j p mX mM σX σM hj hm1 hm2 hp hX hM ax am h0 hs hq
    obtain ⟨mX, rfl⟩ : ∃ m', mX = m' + 1 := ⟨mX - 1, by omega⟩
    obtain ⟨τM, k1, k2, k3⟩ := M_fill hk (show b ≤ 395 by omega) (4 - j) j mM σM (by omega) hm2 (Or.inl (by omega))
    refine ⟨σX, τM, gk_refl _ _ _, gj_mono k2 (by simp) (by simp), fun _ _ => rfl, fun x hx => by rw [k3, if_neg (by omega)], Or.inl ⟨p, Nat.le_refl _, hp, ?_, k1, ax, by rw [k2.2.1 3 (by simp)]; exact am, by rw [k2.2.1 4 (by simp)]; exact h0, fun q hq4 => ?_⟩⟩
    · show fX10_readStep_b59 1000 (fX10_readStep_L59 1000 mX) (nI i) (nI k) (nI j) σX = _
      unfold fX10_readStep_b59
      rw [X_numbersOf hk, b_I, if_pos (show nI (nmb k) ≤ nI j by rw [nLE _ _ (by omega) (by omega)]; omega)]
    · rw [k3]
      by_cases c : q < nmb k
      · rw [if_neg (by omega), if_pos c]; exact hq q (by omega)
      · rw [if_pos (by omega), if_neg c]
  | succ r ih =>
    intro j p mX mM σX σM hj hm1 hm2 hp hX hM ax am h0 hs hq
    obtain ⟨mX, rfl⟩ : ∃ m', mX = m' + 1 := ⟨mX - 1, by omega⟩
    obtain ⟨mM, rfl⟩ : ∃ m', mM = m' + 1 := ⟨mM - 1, by omega⟩
    rw [show fX10_readStep_L59 1000 (mX + 1) (nI i) (nI k) (nI j) σX = fX10_readStep_b59 1000 (fX10_readStep_L59 1000 mX) (nI i) (nI k) (nI j) σX from rfl, show fX12_readStep_L47 1000 (mM + 1) (nI b) (nI k) (nI j) σM = fX12_readStep_b47 1000 (fX12_readStep_L47 1000 mM) (nI b) (nI k) (nI j) σM from rfl]
    have eb : nI b + 1 + nI j = nI (b + 1 + j) := by rw [show nI b + 1 = nI (b + 1) from nI_add b 1, nI_add]
    have yb : ¬ (nI (b + 1 + j) < 0 ∨ 400 ≤ b + 1 + j) := by rw [show (0 : Int32) = nI 0 from rfl, nLT _ _ (by omega) (by omega)]; omega
    -- the number itself
    have nb : ∀ (p2 : Nat) (υX υM : gM), p2 ≤ L → gk [49] [2, 3, 4] σX υX → gj [6] [3, 4] σM υM → υX.1 1 2 = nI p2 → υM.1 0 3 = nI p2 → υM.1 0 4 = -1 → υX.1 47 2 = nI (i + 1) → (∀ q, q < j → υM.1 6 (b + 1 + q) = υX.1 49 (4 * i + q)) →
        NU L i k b p2 υX υM (fX10_readStep_b80 1000 (fX10_readStep_L59 1000 mX) (nI i) (nI k) (nI j) υX) (fX12_readStep_b119 1000 (fX12_readStep_L47 1000 mM) (nI b) (nI k) (nI j) υM) := by
      intro p2 υX υM hp2 fX fM bx bm b0 bs bq
      have hX2 := XT_gk hX fX (by simp) (by simp)
      have hM2 := MT_gj hM fM (by simp) (by simp)
      obtain ⟨σ2, f2, a2, r2⟩ := X_number' (lo := 0) (hi := 999) hX2 hL bx hp2 (by omega) (by omega)
      obtain ⟨τ2, g2, c2, n2, d2⟩ := M_number hM2 hL bm hp2 b0
      have s1 := sk_ge T L p2
      have s2 := sk_le (T := T) hp2
      have s3 := nc_L (T := T) s2
      have h99 := nvR_999 T L (sk T L p2)
      unfold fX10_readStep_b80 fX12_readStep_b119 fX12_readStep_b134
      rw [n2, b_I, eb, nCL (by omega), if_pos yb, b_L, show nI j + 1 = nI (j + 1) from nI_add j 1]
      generalize sk T L p2 = p3 at *
      have G3 : gj [6] [3, 4] υM (g_put τ2 6 (b + 1 + j) (nI (nvR T p3 (nc T L p3)))) := gj_trans (gj_mono g2 (by simp) (by simp)) (gj_put _ _ _ (by simp) (by decide))
      have o6 : ∀ x, (x < b + 1 ∨ b + 5 ≤ x) → (g_put τ2 6 (b + 1 + j) (nI (nvR T p3 (nc T L p3)))).1 6 x = υM.1 6 x := fun x hx => by rw [gp_k, if_neg (by omega), g2.1 6 (by simp) (by decide)]
      rcases r2 with ⟨v1, v2, v3, v4, v5⟩ | ⟨v1, v2, v3, v4⟩ | ⟨v1, v2, v3⟩
      · rw [show fX10_readNumber 1000 0 999 υX = some (1, σ2) from v4, b_I, if_neg n10, v5, X_put4 hi (by omega) (by rw [f2.1 47 (by simp) (by decide)]; exact bs), b_V]
        rw [if_pos v1] at d2
        have F3 : gk [49] [2, 3, 4] υX (g_put σ2 49 (4 * i + j) (nI (nvR T p3 (nc T L p3)))) := gk_trans (gk_mono f2 (by simp) (by simp)) (gk_put _ _ _ (by simp) (by decide))
        refine NU_trans (p1 := p3 + nc T L p3) F3 G3 (fun x hx => by rw [gp_k, if_neg (by omega), f2.1 49 (by simp) (by decide)]) o6 (by omega) (ih (j + 1) (p3 + nc T L p3) mX mM _ _ (by omega) (by omega) (by omega) s3 (XT_gk hX2 F3 (by simp) (by simp)) (MT_gj hM2 G3 (by simp) (by simp)) (by rw [gp_o (by decide)]; exact a2) (by rw [gp_o (by decide)]; exact c2) (by rw [gp_o (by decide)]; exact d2) (by rw [gp_o (by decide), f2.1 47 (by simp) (by decide)]; exact bs) (fun q hq1 => ?_))
        rw [gp_k, gp_k]
        by_cases e : q = j
        · rw [if_pos (by omega), if_pos (by omega)]
        · rw [if_neg (by omega), if_neg (by omega), g2.1 6 (by simp) (by decide), f2.1 49 (by simp) (by decide)]
          exact bq q (by omega)
      · exact absurd ⟨Nat.zero_le _, h99⟩ v2
      · rw [show fX10_readNumber 1000 0 999 υX = some (0, σ2) from v2, b_I, if_pos rfl]
        rw [v1, if_neg (by decide)] at d2
        obtain ⟨τM, k1, k2, k3⟩ := M_fill hk (show b ≤ 395 by omega) (3 - j) (j + 1) mM (g_put τ2 6 (b + 1 + j) (nI (nvR T p3 (nc T L p3)))) (by omega) (by omega) (Or.inr (by rw [gp_o (by decide), d2]; exact nM1 (by omega)))
        refine ⟨σ2, τM, gk_mono f2 (by simp) (by simp), gj_trans G3 (gj_mono k2 (by simp) (by simp)), fun x _ => by rw [f2.1 49 (by simp) (by decide)], fun x hx => ?_, Or.inr ⟨p3 + nc T L p3, s3, rfl, k1, v3, ?_⟩⟩
        · rw [k3, if_neg (by omega)]; exact o6 x hx
        · rw [k2.2.1 4 (by simp), gp_o (by decide)]; exact d2
    unfold fX10_readStep_b59 fX12_readStep_b47
    rw [X_numbersOf hk, b_I, if_neg (show ¬ nI (nmb k) ≤ nI j by rw [nLE _ _ (by omega) (by omega)]; omega), if_neg (show ¬ (4 : Int32) ≤ nI j by rw [show (4 : Int32) = nI 4 from rfl, nLE _ _ (by omega) (by omega)]; omega), eb, nCL (by omega), if_pos yb, b_L, M_numbersOf hk, b_I, if_neg (show ¬ nI (nmb k) ≤ nI j by rw [nLE _ _ (by omega) (by omega)]; omega)]
    have G1 : gj [6] [3, 4] σM (g_put σM 6 (b + 1 + j) (-1)) := gj_put _ _ _ (by simp) (by decide)
    have o1 : ∀ x, (x < b + 1 ∨ b + 5 ≤ x) → (g_put σM 6 (b + 1 + j) (-1)).1 6 x = σM.1 6 x := fun x hx => by rw [gp_k, if_neg (by omega)]
    have q1 : ∀ q, q < j → (g_put σM 6 (b + 1 + j) (-1)).1 6 (b + 1 + q) = σX.1 49 (4 * i + q) := fun q hq1 => by rw [gp_k, if_neg (by omega)]; exact hq q hq1
    have h0' : (g_put σM 6 (b + 1 + j) (-1)).1 0 4 = -1 := by rw [gp_o (by decide)]; exact h0
    have am' : (g_put σM 6 (b + 1 + j) (-1)).1 0 3 = nI p := by rw [gp_o (by decide)]; exact am
    rw [if_pos h0']
    generalize g_put σM 6 (b + 1 + j) (-1) = σ1 at *
    have hM1 := MT_gj hM G1 (by simp) (by simp)
    unfold fX12_readStep_b104
    by_cases c0 : j = 0
    · have z0 : nI j ≤ 0 := by rw [c0]; decide
      rw [if_pos z0, if_pos z0, if_pos z0]
      exact NU_trans (gk_refl _ _ _) G1 (fun _ _ => rfl) o1 (Nat.le_refl _) (nb p σX σ1 hp (gk_refl _ _ _) G1 ax am' h0' hs q1)
    · have z0 : ¬ nI j ≤ 0 := by rw [show (0 : Int32) = nI 0 from rfl, nLE _ _ (by omega) (by omega)]; omega
      obtain ⟨σ2, e2, a2, f2⟩ := X_skip hX hL ax hp
      obtain ⟨τ2, d2, c2, g2⟩ := M_look hM1 hL am' hp
      have s1 := sk_ge T L p
      have s2 := sk_le (T := T) hp
      generalize sk T L p = p1 at *
      have hX2 := XT_gk hX f2 (by simp) (by simp)
      have h02 : τ2.1 0 4 = -1 := by rw [g2.2.1 4 (by simp)]; exact h0'
      have hM2 := MT_gj hM1 g2 (by simp) (by simp)
      rw [if_neg z0, if_neg z0, d2, b_I]
      unfold fX10_readComma fX10_wrong
      rw [e2, b_V, X_sign hX2 hL a2 s2, b_I]
      have e44 : (sx T L p1 = 44) = (p1 < L ∧ T p1 = 44) := sx_n (t := 44) hX2 (by omega) (by omega)
      have r44 : (hr T L p1 = 44) = (p1 < L ∧ T p1 = 44) := hr_n (t := 44) hM2 (by omega)
      have F2 : gk [49] [2, 3, 4] σX σ2 := gk_mono f2 (by simp) (by simp)
      have G2 : gj [6] [3, 4] σM τ2 := gj_trans G1 (gj_mono g2 (by simp) (by simp))
      have o2 : ∀ x, (x < b + 1 ∨ b + 5 ≤ x) → τ2.1 6 x = σM.1 6 x := fun x hx => by rw [g2.1 6 (by simp) (by decide)]; exact o1 x hx
      by_cases c : p1 < L ∧ T p1 = 44
      · rw [if_pos (show sx T L p1 = 44 by rw [e44]; exact c), if_pos (show hr T L p1 = 44 by rw [r44]; exact c), if_neg z0, b_L, b_L, b_I, if_neg n10, a2, c2, show nI p1 + 1 = nI (p1 + 1) from nI_add p1 1]
        have F3 : gk [49] [2, 3, 4] σX (g_put σ2 1 2 (nI (p1 + 1))) := gk_trans F2 (gk_put1 _ _ (by simp))
        have G3 : gj [6] [3, 4] σM (g_put τ2 0 3 (nI (p1 + 1))) := gj_trans G2 (gj_put0 _ _ (by simp))
        refine NU_trans (p1 := p1 + 1) F3 G3 (fun x _ => by rw [gp_o (by decide), f2.1 49 (by simp) (by decide)]) (fun x hx => by rw [gp_o (by decide)]; exact o2 x hx) (by omega) (nb (p1 + 1) _ _ (by omega) F3 G3 (gp_s _ _ _ _) (gp_s _ _ _ _) (by rw [gp_k, if_neg (by decide)]; exact h02) (by rw [gp_o (by decide), f2.1 47 (by simp) (by decide)]; exact hs) (fun q hq1 => ?_))
        rw [gp_o (by decide), gp_o (by decide), g2.1 6 (by simp) (by decide), f2.1 49 (by simp) (by decide)]
        exact q1 q hq1
      · rw [if_neg (show ¬ sx T L p1 = 44 by rw [e44]; exact c), if_neg (show ¬ hr T L p1 = 44 by rw [r44]; exact c), b_L, b_I, if_pos (show (0 : Int32) &&& 1 = 0 by decide), b_I, if_pos rfl, M_fails h02 c2, b_V, a2]
        exact ⟨_, _, gk_trans F2 (gk_put1 _ _ (by simp)), gj_trans G2 (gj_put0 _ _ (by simp)), fun x _ => by rw [gp_o (by decide), f2.1 49 (by simp) (by decide)], fun x hx => by rw [gp_o (by decide)]; exact o2 x hx, Or.inr ⟨p1, s2, rfl, rfl, gp_s _ _ _ _, gp_s _ _ _ _⟩⟩
