/-! the face: what changes little -/
theorem n10 : ¬ (1 : Int32) = 0 := by decide
theorem Inv_gk {c : Nat} {σX σM τX τM : gM} {L J L' J' : List Nat} (h : Inv c σX σM) (fX : gj L J σX τX) (fM : gj L' J' σM τM) (x : ∀ p, p ∈ [1, 2, 5, 6, 7, 8, 11, 21, 25, 26, 27, 28, 29, 30, 34, 35, 36, 37, 38, 39, 40, 41, 42, 43, 44, 45, 46] → p ∉ L) (jx : ∀ p, p ∈ [13, 15] → p ∉ J) (m : ∀ p, p ∈ [1, 3, 5, 6, 7, 8, 9, 10, 12, 13] → p ∉ L') (j : ∀ p, p ∈ [2, 12, 13, 14, 21, 22, 23] → p ∉ J') : Inv c τX τM := by
  obtain ⟨h1, h2, h3, h4⟩ := h
  refine ⟨TP_gj h1 fX fM (fun p hp => x p ?_) (fun p hp => m p ?_) (fun p hp => j p ?_), SC_gj h2 fX fM (fun p hp => x p ?_) (jx 13 (by simp)) (fun p hp => m p ?_) (j 12 (by simp)), ST_gj h3 fX fM (x 34 (by simp)) (m 5 (by simp)), BO_gj (Nat.le_refl _) h4 fX fM (fun p hp => x p ?_) (jx 15 (by simp)) (fun p hp => m p ?_) (fun p hp => j p ?_)⟩
  all_goals (revert p; decide)
/-- the reference begins each call so -/
theorem Inv_0 {c : Nat} {σX σM : gM} (h : Inv c σX σM) (x : Int32) : Inv (c + 1) σX (g_put σM 0 0 x) := Inv_gj h (gj_refl [] [] _) (gj_put0 (L := []) (J := [0]) _ _ (by simp)) (by decide) (by decide) (by decide) (by decide)
theorem Inv_cases {c : Nat} {σX σM : gM} (h : Inv c σX σM) : NO σX σM ∨ ∃ D S C F s, XE D S C F σX ∧ ME D S C F σM ∧ Ok D S C s ∧ XS C s (σX.1 11) ∧ MS C s (σM.1 10) 0 := by
  rcases h.2.2.2 with h | ⟨D, S, C, F, ⟨s, E, a, h, e, g, Hs, h1, h2⟩, h3⟩
  · exact Or.inl h
  · exact Or.inr ⟨D, S, C, F, s, h2.xe, h2.me, h2.ok, h2.xs, h2.ms⟩
theorem hA14' {D S C F : Nat} {σ : gM} (hM : ME D S C F σ) : ¬ σ.1 0 14 ≤ 0 := by
  have h := DSC_lt hM.1
  rw [hM.2.1.2.2.2.2.2, show (0 : Int32) = nI 0 from rfl, nLE _ _ (by omega) (by omega)]
  omega
theorem no14 {σX σM : gM} (h : NO σX σM) : σM.1 0 14 ≤ 0 := by rw [h.m14]; decide
theorem noM_addr {σX σM : gM} (h : NO σX σM) (v : Int32) : fX12_isAddress v σM = some (0, σM) := by
  unfold fX12_isAddress
  by_cases c : v < 0
  · rw [if_pos c]
  · rw [if_neg c, h.m14, if_pos (i_ge0 c)]
theorem noM_disk {σX σM : gM} (h : NO σX σM) (v : Int32) : fX12_isDisk v σM = some (0, σM) := by
  unfold fX12_isDisk
  rw [if_pos (no14 h)]
theorem noM_place {σX σM : gM} (h : NO σX σM) (a b c : Int32) : fX12_isPlace a b c σM = some (0, σM) := by
  unfold fX12_isPlace
  rw [noM_disk h, b_I, if_pos rfl]
theorem X_addresses {D S C F : Nat} {σ : gM} (hE : XE D S C F σ) : fX6_addresses σ = some (nI (D * S * C), σ) := by
  obtain ⟨h0, h1, h2, h3, h5, h6, h7, h8, h9⟩ := hE.2.1
  unfold fX6_addresses
  rw [h0, h1, h2, pk_mul, pk_mul]
section OPS
variable {c : Nat} {σX σM : gM}
theorem o4 (a1 : Int32) (h : Inv c σX σM) : ∃ (r : Int32) (τX τM : gM), fX11_rule a1 σX = some (r, τX) ∧ fX12_rule a1 σM = some (r, τM) ∧ Inv (c + 1) τX τM := by
  have h0 := Inv_0 h 0
  unfold fX11_rule fX12_rule
  rw [b_L]
  generalize g_put σM 0 0 0 = σ0 at *
  rcases Inv_cases h0 with hN | ⟨D, S, C, F, s, xe, me, ok, xs, ms⟩
  · rw [no_pres hN, b_I, if_pos rfl, if_pos hN.m14]
    exact ⟨_, _, _, rfl, rfl, h0⟩
  · obtain ⟨x0, x1, x2, x3, x5, x6, x7, x8, x9⟩ := xe.2.1
    obtain ⟨m0, m1, m2, m3, m5, m6⟩ := me.2.1
    have esp := ms.sp
    rw [Nat.zero_add] at esp
    rw [hP55 xe, b_I, if_neg n10, if_neg (hA14 me), X_addresses xe, show (136 : Int32) = nI 136 from rfl, X_get (by omega), b_I, b_I, m5, m6, x0, x1, x2, x3, x5, esp]
    by_cases c0 : a1 = 0
    · subst c0
      rw [if_pos rfl, if_pos rfl, if_pos (by decide)]
      exact ⟨_, _, _, rfl, by rw [show (0 : Int32).toNatClampNeg = 0 from rfl, m0], h0⟩
    by_cases c1 : a1 = 1
    · subst c1
      rw [if_neg c0, if_neg c0, if_pos rfl, if_pos rfl, if_pos (by decide)]
      exact ⟨_, _, _, rfl, by rw [show (1 : Int32).toNatClampNeg = 1 from rfl, m1], h0⟩
    by_cases c2 : a1 = 2
    · subst c2
      rw [if_neg c0, if_neg c0, if_neg c1, if_neg c1, if_pos rfl, if_pos rfl, if_pos (by decide)]
      exact ⟨_, _, _, rfl, by rw [show (2 : Int32).toNatClampNeg = 2 from rfl, m2], h0⟩
    by_cases c3 : a1 = 3
    · subst c3
      rw [if_neg c0, if_neg c0, if_neg c1, if_neg c1, if_neg c2, if_neg c2, if_pos rfl, if_pos rfl, if_pos (by decide)]
      exact ⟨_, _, _, rfl, by rw [show (3 : Int32).toNatClampNeg = 3 from rfl, m3], h0⟩
    rw [if_neg c0, if_neg c0, if_neg c1, if_neg c1, if_neg c2, if_neg c2, if_neg c3, if_neg c3]
    by_cases c4 : a1 = 4
    · rw [if_pos c4, if_pos c4]
      exact ⟨_, _, _, rfl, by rw [show σX.1 (11 + 5 * 0) 136 = nI s.sp from xs.sp], h0⟩
    by_cases c5 : a1 = 5
    · rw [if_neg c4, if_neg c4, if_pos c5, if_pos c5]
      exact ⟨_, _, _, rfl, rfl, h0⟩
    by_cases c6 : a1 = 6
    · rw [if_neg c4, if_neg c4, if_neg c5, if_neg c5, if_pos c6, if_pos c6]
      exact ⟨_, _, _, rfl, rfl, h0⟩
    rw [if_neg c4, if_neg c4, if_neg c5, if_neg c5, if_neg c6, if_neg c6]
    exact ⟨_, _, _, rfl, rfl, h0⟩
theorem o5 (a1 a2 : Int32) (h : Inv c σX σM) : ∃ (r : Int32) (τX τM : gM), fX11_times a1 a2 σX = some (r, τX) ∧ fX12_times a1 a2 σM = some (r, τM) ∧ Inv (c + 1) τX τM := by
  have h0 := Inv_0 h 0
  unfold fX11_times fX12_times
  rw [b_L]
  generalize g_put σM 0 0 0 = σ0 at *
  rcases Inv_cases h0 with hN | ⟨D, S, C, F, s, xe, me, ok, xs, ms⟩
  · rw [no_pres hN, b_I, if_pos rfl, if_pos (no14 hN)]
    exact ⟨_, _, _, rfl, rfl, h0⟩
  · rw [hP55 xe, b_I, if_neg n10, if_neg (hA14' me), ← isByte_same]
    rcases J_byte a1 with ⟨x, hx, rfl⟩ | e
    · rw [isByte_yes hx, b_I, if_neg n10, isByte_yes hx, b_I, if_neg n10, ← isByte_same]
      rcases J_byte a2 with ⟨y, hy, rfl⟩ | e
      · rw [isByte_yes hy, b_I, if_neg n10, isByte_yes hy, b_I, if_neg n10, X_product xe.1.2.2.2.2.2.2 xe.2.2 hx hy, M_product xe.1.2.2.2.2.2.2 me.2.2 hx hy, b_I, b_I]
        exact ⟨_, _, _, rfl, rfl, h0⟩
      · rw [e, b_I, if_pos rfl, e, b_I, if_pos rfl]
        exact ⟨_, _, _, rfl, rfl, h0⟩
    · rw [e, b_I, if_pos rfl, e, b_I, if_pos rfl]
      exact ⟨_, _, _, rfl, rfl, h0⟩
theorem o6 (a1 a2 : Int32) (h : Inv c σX σM) : ∃ (r : Int32) (τX τM : gM), fX11_over a1 a2 σX = some (r, τX) ∧ fX12_over a1 a2 σM = some (r, τM) ∧ Inv (c + 1) τX τM := by
  have h0 := Inv_0 h 0
  unfold fX11_over fX12_over
  rw [b_L]
  generalize g_put σM 0 0 0 = σ0 at *
  rcases Inv_cases h0 with hN | ⟨D, S, C, F, s, xe, me, ok, xs, ms⟩
  · rw [no_pres hN, b_I, if_pos rfl, if_pos (no14 hN)]
    exact ⟨_, _, _, rfl, rfl, h0⟩
  · rw [hP55 xe, b_I, if_neg n10, if_neg (hA14' me), ← isByte_same]
    rcases J_byte a1 with ⟨x, hx, rfl⟩ | e
    · rw [isByte_yes hx, b_I, if_neg n10, isByte_yes hx, b_I, if_neg n10, ← isByte_same]
      rcases J_byte a2 with ⟨y, hy, rfl⟩ | e
      · rw [isByte_yes hy, b_I, if_neg n10, isByte_yes hy, b_I, if_neg n10]
        by_cases z : y = 0
        · rw [if_pos (by rw [z]; rfl), if_pos (by rw [z]; rfl)]
          exact ⟨_, _, _, rfl, rfl, h0⟩
        · rw [if_neg (nI_ne0 (by omega) (by omega)), if_neg (nI_ne0 (by omega) (by omega)), X_quotient xe.1.2.2.2.2.2.2 xe.2.2 hx hy (by omega), M_quotient xe.1.2.2.2.2.2.2 me.2.2 hx hy, b_I, b_I]
          exact ⟨_, _, _, rfl, rfl, h0⟩
      · rw [e, b_I, if_pos rfl, e, b_I, if_pos rfl]
        exact ⟨_, _, _, rfl, rfl, h0⟩
    · rw [e, b_I, if_pos rfl, e, b_I, if_pos rfl]
      exact ⟨_, _, _, rfl, rfl, h0⟩
theorem o7 (a1 : Int32) (h : Inv c σX σM) : ∃ (r : Int32) (τX τM : gM), fX11_power a1 σX = some (r, τX) ∧ fX12_power a1 σM = some (r, τM) ∧ Inv (c + 1) τX τM := by
  have h0 := Inv_0 h 0
  unfold fX11_power fX12_power
  rw [b_L]
  generalize g_put σM 0 0 0 = σ0 at *
  rcases Inv_cases h0 with hN | ⟨D, S, C, F, s, xe, me, ok, xs, ms⟩
  · rw [no_pres hN, b_I, if_pos rfl, if_pos (no14 hN)]
    exact ⟨_, _, _, rfl, rfl, h0⟩
  · rw [hP55 xe, b_I, if_neg n10, if_neg (hA14' me)]
    rcases i_rng a1 (N := 1000) (by omega) with q | q | ⟨k, hk, rfl⟩
    · rw [if_pos q, l_0, l_999, M_isIn_lo q (by omega), b_I, if_pos rfl]
      exact ⟨_, _, _, rfl, rfl, h0⟩
    · rw [if_neg q.1, show (999 : Int32) = nI 999 from rfl, if_pos (hi_lt q.2 (by omega)), l_0, l_999, M_isIn_hi q.2 (by omega), b_I, if_pos rfl]
      exact ⟨_, _, _, rfl, rfl, h0⟩
    · have hm : k % 255 < 255 := Nat.mod_lt _ (by decide)
      have e : nI k - nI k / 255 * 255 = nI (k % 255) := by
        rw [show (255 : Int32) = nI 255 from rfl, nDIV (by omega) (by omega) (by omega), pk_mul, nREM]
      rw [if_neg (by simp (disch := first | omega | assumption) only [fa_lit, nLE, nLT, nEQ, nI_add, nSA, nSUB, pk_mul, nDIV, nREM, nCL, fa_and, nx_xor, fa_or, nSHL, nSHR, nUS, n31, n255, Nat.and_one_is_mod, b_I, b_V, b_L, not_or, Nat.not_lt_zero, Nat.not_le, Nat.not_lt, not_false_eq_true, true_and, and_true, false_or, or_false, Classical.not_not, if_true, if_false, if_pos, if_neg] <;> omega), if_neg (by simp (disch := first | omega | assumption) only [fa_lit, nLE, nLT, nEQ, nI_add, nSA, nSUB, pk_mul, nDIV, nREM, nCL, fa_and, nx_xor, fa_or, nSHL, nSHR, nUS, n31, n255, Nat.and_one_is_mod, b_I, b_V, b_L, not_or, Nat.not_lt_zero, Nat.not_le, Nat.not_lt, not_false_eq_true, true_and, and_true, false_or, or_false, Classical.not_not, if_true, if_false, if_pos, if_neg] <;> omega), X_power xe.1.2.2.2.2.2.2 xe.2.2 hk, b_I, l_0, l_999, M_isIn_yes (by omega) (by omega) (by omega), b_I, if_neg n10, e, nCL (by omega), if_pos (by simp (disch := first | omega | assumption) only [fa_lit, nLE, nLT, nEQ, nI_add, nSA, nSUB, pk_mul, nDIV, nREM, nCL, fa_and, nx_xor, fa_or, nSHL, nSHR, nUS, n31, n255, Nat.and_one_is_mod, b_I, b_V, b_L, not_or, Nat.not_lt_zero, Nat.not_le, Nat.not_lt, not_false_eq_true, true_and, and_true, false_or, or_false, Classical.not_not, if_true, if_false, if_pos, if_neg] <;> omega), me.2.2.1 _ hm]
      exact ⟨_, _, _, rfl, rfl, h0⟩
theorem o8 (a1 : Int32) (h : Inv c σX σM) : ∃ (r : Int32) (τX τM : gM), fX11_logOf a1 σX = some (r, τX) ∧ fX12_logOf a1 σM = some (r, τM) ∧ Inv (c + 1) τX τM := by
  have h0 := Inv_0 h 0
  unfold fX11_logOf fX12_logOf
  rw [b_L]
  generalize g_put σM 0 0 0 = σ0 at *
  rcases Inv_cases h0 with hN | ⟨D, S, C, F, s, xe, me, ok, xs, ms⟩
  · rw [no_pres hN, b_I, if_pos rfl, if_pos (no14 hN)]
    exact ⟨_, _, _, rfl, rfl, h0⟩
  · rw [hP55 xe, b_I, if_neg n10, if_neg (hA14' me)]
    rcases J_1_255 a1 with ⟨x, h1x, hx, rfl⟩ | ⟨q | q, e⟩
    · rw [isByte_yes hx, b_I, if_neg n10, if_neg (nI_ne0 (by omega) (by omega)), X_log xe.2.2 hx, b_I, l_1, l_255, M_isIn_yes (by omega) (by omega) (by omega), b_I, if_neg n10, nCL (by omega), if_pos (by simp (disch := first | omega | assumption) only [fa_lit, nLE, nLT, nEQ, nI_add, nSA, nSUB, pk_mul, nDIV, nREM, nCL, fa_and, nx_xor, fa_or, nSHL, nSHR, nUS, n31, n255, Nat.and_one_is_mod, b_I, b_V, b_L, not_or, Nat.not_lt_zero, Nat.not_le, Nat.not_lt, not_false_eq_true, true_and, and_true, false_or, or_false, Classical.not_not, if_true, if_false, if_pos, if_neg] <;> omega), me.2.2.2 _ hx]
      exact ⟨_, _, _, rfl, rfl, h0⟩
    · subst q
      rw [show fX11_isByte 0 σX = some (1, σX) from isByte_yes (x := 0) (by omega) σX, b_I, if_neg n10, if_pos rfl, e, b_I, if_pos rfl]
      exact ⟨_, _, _, rfl, rfl, h0⟩
    · rw [q.2, b_I, if_pos rfl, e, b_I, if_pos rfl]
      exact ⟨_, _, _, rfl, rfl, h0⟩
theorem o9 (a1 a2 : Int32) (h : Inv c σX σM) : ∃ (r : Int32) (τX τM : gM), fX11_place a1 a2 σX = some (r, τX) ∧ fX12_place a1 a2 σM = some (r, τM) ∧ Inv (c + 1) τX τM := by
  have h0 := Inv_0 h 0
  unfold fX11_place fX12_place
  rw [b_L]
  generalize g_put σM 0 0 0 = σ0 at *
  rcases Inv_cases h0 with hN | ⟨D, S, C, F, s, xe, me, ok, xs, ms⟩
  · rw [no_addr hN, b_I, if_pos rfl, noM_addr hN, b_I, if_pos rfl]
    exact ⟨_, _, _, rfl, rfl, h0⟩
  · have hw := xe.1
    obtain ⟨w1, w2, w3, w4, w5, w6, w7⟩ := xe.1
    rcases J_addr xe me a1 with ⟨a, ha, rfl⟩ | ⟨e1, e2⟩
    · have ha' := ad_1000 w2 w4 w6 ha
      obtain ⟨at1, at2, at3⟩ := ad_lt w5 w1 ha
      rw [X_isAddress_yes xe ha, b_I, if_neg n10, M_isAddress_yes me ha, b_I, if_neg n10, X_partOf hw xe.2.1 ha', b_I, X_stripeOf hw xe.2.1 ha', b_I, X_diskOf hw xe.2.1 (by omega) (by omega), b_I, b_I, X_byteOf hw xe.2.1 ha', b_I, b_I, M_stripeOf hw me.2.1 ha', b_I, M_partOf hw me.2.1 ha', b_I, M_diskOf hw me.2.1 (by omega) (by omega), b_I, b_I, M_byteOf hw me.2.1 ha', b_I, b_I]
      by_cases c0 : a2 = 0
      · rw [if_pos c0, if_pos c0]
        exact ⟨_, _, _, rfl, rfl, h0⟩
      by_cases c1 : a2 = 1
      · rw [if_neg c0, if_neg c0, if_pos c1, if_pos c1]
        exact ⟨_, _, _, rfl, rfl, h0⟩
      by_cases c2 : a2 = 2
      · rw [if_neg c0, if_neg c0, if_neg c1, if_neg c1, if_pos c2, if_pos c2]
        exact ⟨_, _, _, rfl, rfl, h0⟩
      by_cases c3 : a2 = 3
      · rw [if_neg c0, if_neg c0, if_neg c1, if_neg c1, if_neg c2, if_neg c2, if_pos c3, if_pos c3]
        exact ⟨_, _, _, rfl, rfl, h0⟩
      rw [if_neg c0, if_neg c0, if_neg c1, if_neg c1, if_neg c2, if_neg c2, if_neg c3, if_neg c3]
      exact ⟨_, _, _, rfl, rfl, h0⟩
    · rw [e1, b_I, if_pos rfl, e2, b_I, if_pos rfl]
      exact ⟨_, _, _, rfl, rfl, h0⟩
theorem o10 (a1 a2 : Int32) (h : Inv c σX σM) : ∃ (r : Int32) (τX τM : gM), fX11_part a1 a2 σX = some (r, τX) ∧ fX12_part a1 a2 σM = some (r, τM) ∧ Inv (c + 1) τX τM := by
  have h0 := Inv_0 h 0
  unfold fX11_part fX12_part
  rw [b_L]
  generalize g_put σM 0 0 0 = σ0 at *
  rcases Inv_cases h0 with hN | ⟨D, S, C, F, s, xe, me, ok, xs, ms⟩
  · rw [no_disk hN, b_I, if_pos rfl, noM_place hN, b_I, if_pos rfl]
    exact ⟨_, _, _, rfl, rfl, h0⟩
  · have hw := xe.1
    obtain ⟨w1, w2, w3, w4, w5, w6, w7⟩ := xe.1
    obtain ⟨m0, m1, m2, m3, m5, m6⟩ := me.2.1
    rcases J_disk xe me a1 with ⟨d, hd, rfl⟩ | ⟨e1, e2⟩
    · rcases J_stripe xe a2 with ⟨t, ht, rfl⟩ | ⟨e1, e2⟩
      · rw [X_isDisk_yes xe hd, b_I, if_neg n10, X_isStripe_yes xe ht, b_I, if_neg n10, X_partOn hw xe.2.1 hd (by omega), b_I, show fX12_isPlace (nI d) (nI t) 0 σ0 = some (1, σ0) from M_isPlace_yes (b := 0) me hd ht (by omega), b_I, if_neg n10, M_roleOf hw me.2.1 hd (by omega), b_I]
        exact ⟨_, _, _, rfl, rfl, h0⟩
      · unfold fX12_isPlace
        rw [X_isDisk_yes xe hd, b_I, if_neg n10, e1, b_I, if_pos rfl, M_isDisk_yes me hd, b_I, if_neg n10, m1, e2, b_I, if_pos rfl, b_I, if_pos rfl]
        exact ⟨_, _, _, rfl, rfl, h0⟩
    · unfold fX12_isPlace
      rw [e1, b_I, if_pos rfl, e2, b_I, if_pos rfl, b_I, if_pos rfl]
      exact ⟨_, _, _, rfl, rfl, h0⟩
theorem o12 (a1 a2 a3 : Int32) (h : Inv c σX σM) : ∃ (r : Int32) (τX τM : gM), fX11_cell a1 a2 a3 σX = some (r, τX) ∧ fX12_cell a1 a2 a3 σM = some (r, τM) ∧ Inv (c + 1) τX τM := by
  have h0 := Inv_0 h 0
  unfold fX11_cell fX12_cell
  rw [b_L]
  generalize g_put σM 0 0 0 = σ0 at *
  rcases Inv_cases h0 with hN | ⟨D, S, C, F, s, xe, me, ok, xs, ms⟩
  · rw [no_cell hN, b_I, if_pos rfl, noM_place hN, b_I, if_pos rfl]
    exact ⟨_, _, _, rfl, rfl, h0⟩
  · obtain ⟨w1, w2, w3, w4, w5, w6, w7⟩ := xe.1
    have xs0 : XS C s (σX.1 (11 + 5 * 0)) := xs
    rcases J_cell xe me a1 a2 a3 with ⟨d, t, b, hd, ht, hb, rfl, rfl, rfl⟩ | ⟨e1, e2⟩
    · rw [X_isCell_yes xe hd ht hb, b_I, if_neg n10, M_isPlace_yes me hd ht hb, b_I, if_neg n10, X_isThere xs0 (by omega) (by omega) (Ok_don ok w4 d (by omega)), b_I, M_isThere ok w4 ms (by omega) ht, b_I]
      by_cases q : t < s.don d
      · have eb := ms.byt d t b (by omega) (by omega) hb q
        rw [Nat.zero_add] at eb
        rw [if_pos q, if_neg (by decide), if_neg (by decide), X_byteAt (by omega) (by omega) (by omega), b_I, xs0.byt d t b (by omega) (by omega) hb q, M_spot (by omega) (by omega) (by omega), b_I, nCL (by omega), if_pos (by simp (disch := first | omega | assumption) only [fa_lit, nLE, nLT, nEQ, nI_add, nSA, nSUB, pk_mul, nDIV, nREM, nCL, fa_and, nx_xor, fa_or, nSHL, nSHR, nUS, n31, n255, Nat.and_one_is_mod, b_I, b_V, b_L, not_or, Nat.not_lt_zero, Nat.not_le, Nat.not_lt, not_false_eq_true, true_and, and_true, false_or, or_false, Classical.not_not, if_true, if_false, if_pos, if_neg] <;> omega), eb]
        exact ⟨_, _, _, rfl, rfl, h0⟩
      · rw [if_neg q, if_pos (show nI 0 = 0 from rfl), if_pos (show nI 0 = 0 from rfl)]
        exact ⟨_, _, _, rfl, rfl, h0⟩
    · rw [e1, b_I, if_pos rfl, e2, b_I, if_pos rfl]
      exact ⟨_, _, _, rfl, rfl, h0⟩
theorem o13 (a1 a2 : Int32) (h : Inv c σX σM) : ∃ (r : Int32) (τX τM : gM), fX11_disk a1 a2 σX = some (r, τX) ∧ fX12_disk a1 a2 σM = some (r, τM) ∧ Inv (c + 1) τX τM := by
  have h0 := Inv_0 h 0
  unfold fX11_disk fX12_disk
  rw [b_L]
  generalize g_put σM 0 0 0 = σ0 at *
  rcases Inv_cases h0 with hN | ⟨D, S, C, F, s, xe, me, ok, xs, ms⟩
  · rw [no_disk hN, b_I, if_pos rfl, noM_disk hN, b_I, if_pos rfl]
    exact ⟨_, _, _, rfl, rfl, h0⟩
  · obtain ⟨w1, w2, w3, w4, w5, w6, w7⟩ := xe.1
    obtain ⟨m0, m1, m2, m3, m5, m6⟩ := me.2.1
    have xs0 : XS C s (σX.1 (11 + 5 * 0)) := xs
    rcases J_disk xe me a1 with ⟨d, hd, rfl⟩ | ⟨e1, e2⟩
    · have k1 := ms.how d (by omega)
      have k2 := ms.don d (by omega)
      have k3 := ms.rd d (by omega)
      have k4 := ms.wr d (by omega)
      have k5 := ms.md d (by omega)
      rw [Nat.zero_add] at k1 k2 k3 k4 k5
      have ad : ∀ q : Nat, nI q + nI d = nI (q + d) := fun q => nI_add q d
      rw [X_isDisk_yes xe hd, b_I, if_neg n10, M_isDisk_yes me hd, b_I, if_neg n10, show (96 : Int32) = nI 96 from rfl, show (104 : Int32) = nI 104 from rfl, show (112 : Int32) = nI 112 from rfl, show (120 : Int32) = nI 120 from rfl, show (128 : Int32) = nI 128 from rfl, show (384 : Int32) = nI 384 from rfl, show (392 : Int32) = nI 392 from rfl, show (400 : Int32) = nI 400 from rfl, show (408 : Int32) = nI 408 from rfl, show (416 : Int32) = nI 416 from rfl]
      simp only [ad]
      rw [X_get (by omega), X_get (by omega), X_get (by omega), X_get (by omega), X_get (by omega), b_I, b_I, b_I, b_I, b_I, xs0.how d (by omega), xs0.don d (by omega), xs0.rd d (by omega), xs0.wr d (by omega), xs0.md d (by omega), nCL (by omega), nCL (by omega), nCL (by omega), nCL (by omega), nCL (by omega), k1, k3, k4, k5, m1]
      by_cases c0 : a2 = 0
      · rw [if_pos c0, if_pos c0, if_pos (by simp (disch := first | omega | assumption) only [fa_lit, nLE, nLT, nEQ, nI_add, nSA, nSUB, pk_mul, nDIV, nREM, nCL, fa_and, nx_xor, fa_or, nSHL, nSHR, nUS, n31, n255, Nat.and_one_is_mod, b_I, b_V, b_L, not_or, Nat.not_lt_zero, Nat.not_le, Nat.not_lt, not_false_eq_true, true_and, and_true, false_or, or_false, Classical.not_not, if_true, if_false, if_pos, if_neg] <;> omega)]
        exact ⟨_, _, _, rfl, rfl, h0⟩
      by_cases c1 : a2 = 1
      · rw [if_neg c0, if_neg c0, if_pos c1, if_pos c1, if_pos (by simp (disch := first | omega | assumption) only [fa_lit, nLE, nLT, nEQ, nI_add, nSA, nSUB, pk_mul, nDIV, nREM, nCL, fa_and, nx_xor, fa_or, nSHL, nSHR, nUS, n31, n255, Nat.and_one_is_mod, b_I, b_V, b_L, not_or, Nat.not_lt_zero, Nat.not_le, Nat.not_lt, not_false_eq_true, true_and, and_true, false_or, or_false, Classical.not_not, if_true, if_false, if_pos, if_neg] <;> omega)]
        have hh := ok.how d (by omega)
        by_cases q : s.how d = 0
        · rw [if_pos (by rw [q]; rfl), ok.h0 d (by omega) q]
          exact ⟨_, _, _, rfl, rfl, h0⟩
        · rw [if_neg (by rw [show (0 : Int32) = nI 0 from rfl, nEQ _ _ (by omega) (by omega)]; exact q), if_pos (by simp (disch := first | omega | assumption) only [fa_lit, nLE, nLT, nEQ, nI_add, nSA, nSUB, pk_mul, nDIV, nREM, nCL, fa_and, nx_xor, fa_or, nSHL, nSHR, nUS, n31, n255, Nat.and_one_is_mod, b_I, b_V, b_L, not_or, Nat.not_lt_zero, Nat.not_le, Nat.not_lt, not_false_eq_true, true_and, and_true, false_or, or_false, Classical.not_not, if_true, if_false, if_pos, if_neg] <;> omega), k2 q]
          exact ⟨_, _, _, rfl, rfl, h0⟩
      by_cases c2 : a2 = 2
      · rw [if_neg c0, if_neg c0, if_neg c1, if_neg c1, if_pos c2, if_pos c2, if_pos (by simp (disch := first | omega | assumption) only [fa_lit, nLE, nLT, nEQ, nI_add, nSA, nSUB, pk_mul, nDIV, nREM, nCL, fa_and, nx_xor, fa_or, nSHL, nSHR, nUS, n31, n255, Nat.and_one_is_mod, b_I, b_V, b_L, not_or, Nat.not_lt_zero, Nat.not_le, Nat.not_lt, not_false_eq_true, true_and, and_true, false_or, or_false, Classical.not_not, if_true, if_false, if_pos, if_neg] <;> omega)]
        exact ⟨_, _, _, rfl, rfl, h0⟩
      by_cases c3 : a2 = 3
      · rw [if_neg c0, if_neg c0, if_neg c1, if_neg c1, if_neg c2, if_neg c2, if_pos c3, if_pos c3, if_pos (by simp (disch := first | omega | assumption) only [fa_lit, nLE, nLT, nEQ, nI_add, nSA, nSUB, pk_mul, nDIV, nREM, nCL, fa_and, nx_xor, fa_or, nSHL, nSHR, nUS, n31, n255, Nat.and_one_is_mod, b_I, b_V, b_L, not_or, Nat.not_lt_zero, Nat.not_le, Nat.not_lt, not_false_eq_true, true_and, and_true, false_or, or_false, Classical.not_not, if_true, if_false, if_pos, if_neg] <;> omega)]
        exact ⟨_, _, _, rfl, rfl, h0⟩
      by_cases c4 : a2 = 4
      · rw [if_neg c0, if_neg c0, if_neg c1, if_neg c1, if_neg c2, if_neg c2, if_neg c3, if_neg c3, if_pos c4, if_pos c4, if_pos (by simp (disch := first | omega | assumption) only [fa_lit, nLE, nLT, nEQ, nI_add, nSA, nSUB, pk_mul, nDIV, nREM, nCL, fa_and, nx_xor, fa_or, nSHL, nSHR, nUS, n31, n255, Nat.and_one_is_mod, b_I, b_V, b_L, not_or, Nat.not_lt_zero, Nat.not_le, Nat.not_lt, not_false_eq_true, true_and, and_true, false_or, or_false, Classical.not_not, if_true, if_false, if_pos, if_neg] <;> omega)]
        exact ⟨_, _, _, rfl, rfl, h0⟩
      rw [if_neg c0, if_neg c0, if_neg c1, if_neg c1, if_neg c2, if_neg c2, if_neg c3, if_neg c3, if_neg c4, if_neg c4]
      exact ⟨_, _, _, rfl, rfl, h0⟩
    · rw [e1, b_I, if_pos rfl, e2, b_I, if_pos rfl]
      exact ⟨_, _, _, rfl, rfl, h0⟩
theorem o24 (a1 : Int32) (h : Inv c σX σM) : ∃ (r : Int32) (τX τM : gM), fX11_status a1 σX = some (r, τX) ∧ fX12_status a1 σM = some (r, τM) ∧ Inv (c + 1) τX τM := by
  have h0 := Inv_0 h 0
  unfold fX11_status fX12_status
  rw [b_L]
  generalize g_put σM 0 0 0 = σ0 at *
  rcases i_rng a1 (N := 4) (by omega) with q | q | ⟨k, hk, rfl⟩
  · rw [if_pos q, l_0, l_3, M_isIn_lo q (by omega), b_I, if_pos rfl]
    exact ⟨_, _, _, rfl, rfl, h0⟩
  · rw [if_neg q.1, if_pos (show 4 ≤ a1 from q.2), l_0, l_3, M_isIn_hi q.2 (by omega), b_I, if_pos rfl]
    exact ⟨_, _, _, rfl, rfl, h0⟩
  · rw [if_neg (by simp (disch := first | omega | assumption) only [fa_lit, nLE, nLT, nEQ, nI_add, nSA, nSUB, pk_mul, nDIV, nREM, nCL, fa_and, nx_xor, fa_or, nSHL, nSHR, nUS, n31, n255, Nat.and_one_is_mod, b_I, b_V, b_L, not_or, Nat.not_lt_zero, Nat.not_le, Nat.not_lt, not_false_eq_true, true_and, and_true, false_or, or_false, Classical.not_not, if_true, if_false, if_pos, if_neg] <;> omega), if_neg (by simp (disch := first | omega | assumption) only [fa_lit, nLE, nLT, nEQ, nI_add, nSA, nSUB, pk_mul, nDIV, nREM, nCL, fa_and, nx_xor, fa_or, nSHL, nSHR, nUS, n31, n255, Nat.and_one_is_mod, b_I, b_V, b_L, not_or, Nat.not_lt_zero, Nat.not_le, Nat.not_lt, not_false_eq_true, true_and, and_true, false_or, or_false, Classical.not_not, if_true, if_false, if_pos, if_neg] <;> omega), nCL (by omega), if_pos (by simp (disch := first | omega | assumption) only [fa_lit, nLE, nLT, nEQ, nI_add, nSA, nSUB, pk_mul, nDIV, nREM, nCL, fa_and, nx_xor, fa_or, nSHL, nSHR, nUS, n31, n255, Nat.and_one_is_mod, b_I, b_V, b_L, not_or, Nat.not_lt_zero, Nat.not_le, Nat.not_lt, not_false_eq_true, true_and, and_true, false_or, or_false, Classical.not_not, if_true, if_false, if_pos, if_neg] <;> omega), l_0, l_3, M_isIn_yes (by omega) (by omega) (by omega), b_I, if_neg n10, if_pos (by simp (disch := first | omega | assumption) only [fa_lit, nLE, nLT, nEQ, nI_add, nSA, nSUB, pk_mul, nDIV, nREM, nCL, fa_and, nx_xor, fa_or, nSHL, nSHR, nUS, n31, n255, Nat.and_one_is_mod, b_I, b_V, b_L, not_or, Nat.not_lt_zero, Nat.not_le, Nat.not_lt, not_false_eq_true, true_and, and_true, false_or, or_false, Classical.not_not, if_true, if_false, if_pos, if_neg] <;> omega), h0.2.2.1 k hk]
    exact ⟨_, _, _, rfl, rfl, h0⟩
end OPS
