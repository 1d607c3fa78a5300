/-! what holds between the calls; the acts of the face -/
def TP (σX σM : gM) : Prop := ∃ (L : Nat) (T : Nat → Nat), L ≤ 280 ∧ σX.1 1 1 = nI L ∧ σM.1 0 2 = nI L ∧ ∀ k, k < L → 0 < T k ∧ T k < 256 ∧ σX.1 2 k = nI (T k) ∧ σM.1 1 k &&& 255 = nI (T k)
def SP (j : Nat) (σX σM : gM) : Prop := ∃ z, 1 ≤ z ∧ z ≤ 16 ∧ σX.1 (35 + 3 * j) 2 = nI z ∧ σM.1 7 j = nI z ∧ ∀ i, i < z → ∃ k, k < 9 ∧ σX.1 (36 + 3 * j) i = nI k ∧ σM.1 6 (5 * (16 * j + i)) = nI k ∧ ∀ q, q < 4 → σM.1 6 (5 * (16 * j + i) + 1 + q) = if q < nmb k then σX.1 (37 + 3 * j) (4 * i + q) else -1
def SC (σX σM : gM) : Prop := ∃ m, m ≤ 4 ∧ σX.1 0 13 = nI m ∧ σM.1 0 12 = nI m ∧ ∀ j, j < m → SP j σX σM
def ST (σX σM : gM) : Prop := ∀ k, k < 4 → σX.1 34 k = σM.1 5 k
def NO (σX σM : gM) : Prop := (σX.1 5 0 = 0) ∧ (σX.1 5 1 = 0) ∧ (σX.1 5 2 = 0) ∧ (σX.1 5 5 = 0) ∧ (σX.1 29 1 = 0) ∧ (σX.1 29 2 = 0) ∧ (σX.1 25 1 = 0) ∧ (σX.1 0 15 = 0) ∧ (σM.1 0 14 = 0) ∧ (σM.1 0 21 = 0) ∧ (σM.1 0 22 = 0) ∧ (σM.1 0 23 = 0) ∧ (σM.1 10 435 = 0) ∧ (σX.1 8 0 = 0) ∧ (σM.1 9 0 = 0)
theorem NO.x0 {σX σM : gM} (h : NO σX σM) : σX.1 5 0 = 0 := h.1
theorem NO.x1 {σX σM : gM} (h : NO σX σM) : σX.1 5 1 = 0 := h.2.1
theorem NO.x2 {σX σM : gM} (h : NO σX σM) : σX.1 5 2 = 0 := h.2.2.1
theorem NO.x5 {σX σM : gM} (h : NO σX σM) : σX.1 5 5 = 0 := h.2.2.2.1
theorem NO.n1 {σX σM : gM} (h : NO σX σM) : σX.1 29 1 = 0 := h.2.2.2.2.1
theorem NO.n2 {σX σM : gM} (h : NO σX σM) : σX.1 29 2 = 0 := h.2.2.2.2.2.1
theorem NO.l1 {σX σM : gM} (h : NO σX σM) : σX.1 25 1 = 0 := h.2.2.2.2.2.2.1
theorem NO.im {σX σM : gM} (h : NO σX σM) : σX.1 0 15 = 0 := h.2.2.2.2.2.2.2.1
theorem NO.m14 {σX σM : gM} (h : NO σX σM) : σM.1 0 14 = 0 := h.2.2.2.2.2.2.2.2.1
theorem NO.m21 {σX σM : gM} (h : NO σX σM) : σM.1 0 21 = 0 := h.2.2.2.2.2.2.2.2.2.1
theorem NO.m22 {σX σM : gM} (h : NO σX σM) : σM.1 0 22 = 0 := h.2.2.2.2.2.2.2.2.2.2.1
theorem NO.m23 {σX σM : gM} (h : NO σX σM) : σM.1 0 23 = 0 := h.2.2.2.2.2.2.2.2.2.2.2.1
theorem NO.mlo {σX σM : gM} (h : NO σX σM) : σM.1 10 435 = 0 := h.2.2.2.2.2.2.2.2.2.2.2.2.1
theorem NO.x8 {σX σM : gM} (h : NO σX σM) : σX.1 8 0 = 0 := h.2.2.2.2.2.2.2.2.2.2.2.2.2.1
theorem NO.m9 {σX σM : gM} (h : NO σX σM) : σM.1 9 0 = 0 := h.2.2.2.2.2.2.2.2.2.2.2.2.2.2
def IM (D S C B : Nat) (σX σM : gM) : Prop := (σX.1 0 15 = 0 ∧ σM.1 0 23 = 0) ∨ (σX.1 0 15 = 1 ∧ σM.1 0 23 = 1 ∧ ∃ s E a, a ≤ B ∧ Ok D S C s ∧ XS C s (σX.1 21) ∧ MS C s (σM.1 12) 0 ∧ LO E a s.lo ∧ XL E a 0 1 σX)
def BO (B : Nat) (σX σM : gM) : Prop := NO σX σM ∨ ∃ D S C F, BIx D S C F B σX σM ∧ IM D S C B σX σM
def Inv (c : Nat) (σX σM : gM) : Prop := TP σX σM ∧ SC σX σM ∧ ST σX σM ∧ BO (80 * c) σX σM
section FRM
variable {σX σM τX τM : gM} {L J L' J' : List Nat}
theorem TP_gj (h : TP σX σM) (fX : gj L J σX τX) (fM : gj L' J' σM τM) (x : ∀ p, p ∈ [1, 2] → p ∉ L) (m : ∀ p, p ∈ [1] → p ∉ L') (j : ∀ p, p ∈ [2] → p ∉ J') : TP τX τM := by
  unfold TP at *
  rw [fX.1 1 (x 1 (by simp)) (by decide), fX.1 2 (x 2 (by simp)) (by decide), fM.1 1 (m 1 (by simp)) (by decide), fM.2.1 2 (j 2 (by simp))]
  exact h
theorem SP_gj {i : Nat} (h : SP i σX σM) (fX : gj L J σX τX) (fM : gj L' J' σM τM) (x1 : 35 + 3 * i ∉ L) (x2 : 36 + 3 * i ∉ L) (x3 : 37 + 3 * i ∉ L) (m : ∀ p, p ∈ [6, 7] → p ∉ L') : SP i τX τM := by
  unfold SP at *
  rw [fX.1 _ x1 (by omega), fX.1 _ x2 (by omega), fX.1 _ x3 (by omega), fM.1 6 (m 6 (by simp)) (by decide), fM.1 7 (m 7 (by simp)) (by decide)]
  exact h
theorem SC_gj (h : SC σX σM) (fX : gj L J σX τX) (fM : gj L' J' σM τM) (x : ∀ p, p ∈ [35, 36, 37, 38, 39, 40, 41, 42, 43, 44, 45, 46] → p ∉ L) (jx : 13 ∉ J) (m : ∀ p, p ∈ [6, 7] → p ∉ L') (j : 12 ∉ J') : SC τX τM := by
  obtain ⟨q, h1, h2, h3, h4⟩ := h
  refine ⟨q, h1, by rw [fX.2.1 13 jx]; exact h2, by rw [fM.2.1 12 j]; exact h3, fun i hi => ?_⟩
  refine SP_gj (h4 i hi) fX fM (x _ ?_) (x _ ?_) (x _ ?_) m
  all_goals
    rcases (show i = 0 ∨ i = 1 ∨ i = 2 ∨ i = 3 by omega) with rfl | rfl | rfl | rfl <;> decide
theorem ST_gj (h : ST σX σM) (fX : gj L J σX τX) (fM : gj L' J' σM τM) (x : 34 ∉ L) (m : 5 ∉ L') : ST τX τM := by
  unfold ST at *
  rw [fX.1 34 x (by decide), fM.1 5 m (by decide)]
  exact h
theorem NO_gj (h : NO σX σM) (fX : gj L J σX τX) (fM : gj L' J' σM τM) (x : ∀ p, p ∈ [5, 8, 25, 29] → p ∉ L) (jx : 15 ∉ J) (m : ∀ p, p ∈ [9, 10] → p ∉ L') (j : ∀ p, p ∈ [14, 21, 22, 23] → p ∉ J') : NO τX τM := by
  have e5 := fX.1 5 (x 5 (by simp)) (by decide)
  have e25 := fX.1 25 (x 25 (by simp)) (by decide)
  have e29 := fX.1 29 (x 29 (by simp)) (by decide)
  refine ⟨?_, ?_, ?_, ?_, ?_, ?_, ?_, ?_, ?_, ?_, ?_, ?_, ?_, ?_, ?_⟩
  · rw [e5]; exact h.x0
  · rw [e5]; exact h.x1
  · rw [e5]; exact h.x2
  · rw [e5]; exact h.x5
  · rw [e29]; exact h.n1
  · rw [e29]; exact h.n2
  · rw [e25]; exact h.l1
  · rw [fX.2.1 15 jx]; exact h.im
  · rw [fM.2.1 14 (j 14 (by simp))]; exact h.m14
  · rw [fM.2.1 21 (j 21 (by simp))]; exact h.m21
  · rw [fM.2.1 22 (j 22 (by simp))]; exact h.m22
  · rw [fM.2.1 23 (j 23 (by simp))]; exact h.m23
  · rw [fM.1 10 (m 10 (by simp)) (by decide)]; exact h.mlo
  · rw [fX.1 8 (x 8 (by simp)) (by decide)]; exact h.x8
  · rw [fM.1 9 (m 9 (by simp)) (by decide)]; exact h.m9
theorem IM_gj {D S C B B' : Nat} (hB : B ≤ B') (h : IM D S C B σX σM) (fX : gj L J σX τX) (fM : gj L' J' σM τM) (x : ∀ p, p ∈ [21, 27, 28] → p ∉ L) (jx : 15 ∉ J) (m : 12 ∉ L') (j : 23 ∉ J') : IM D S C B' τX τM := by
  unfold IM at *
  rw [fX.2.1 15 jx, fM.2.1 23 j, fX.1 21 (x 21 (by simp)) (by decide), fM.1 12 m (by decide)]
  rcases h with h | ⟨h1, h2, s, E, a, h3, h4, h5, h6, h7, h8⟩
  · exact Or.inl h
  · exact Or.inr ⟨h1, h2, s, E, a, by omega, h4, h5, h6, h7, XL_gj h8 fX (x 27 (by simp)) (x 28 (by simp))⟩
theorem BIx_gj {D S C F B B' : Nat} (hB : B ≤ B') (h : BIx D S C F B σX σM) (fX : gj L J σX τX) (fM : gj L' J' σM τM) (x : ∀ p, p ∈ [5, 6, 7, 8, 11, 25, 26, 29, 30] → p ∉ L) (m : ∀ p, p ∈ [3, 8, 9, 10, 13] → p ∉ L') (j : ∀ p, p ∈ [13, 14, 21, 22] → p ∉ J') : BIx D S C F B' τX τM := by
  obtain ⟨s, E, a, h, e, g, Hs, h1, h2⟩ := h
  exact ⟨s, E, a, h, e, g, Hs, by omega, BI_gj h2 fX fM x m j⟩
theorem BO_gj {B B' : Nat} (hB : B ≤ B') (h : BO B σX σM) (fX : gj L J σX τX) (fM : gj L' J' σM τM) (x : ∀ p, p ∈ [5, 6, 7, 8, 11, 21, 25, 26, 27, 28, 29, 30] → p ∉ L) (jx : 15 ∉ J) (m : ∀ p, p ∈ [3, 8, 9, 10, 12, 13] → p ∉ L') (j : ∀ p, p ∈ [13, 14, 21, 22, 23] → p ∉ J') : BO B' τX τM := by
  rcases h with h | ⟨D, S, C, F, h1, h2⟩
  · refine Or.inl (NO_gj h fX fM (fun p hp => x p ?_) jx (fun p hp => m p ?_) (fun p hp => j p ?_))
    · revert p; decide
    · revert p; decide
    · revert p; decide
  · refine Or.inr ⟨D, S, C, F, BIx_gj hB h1 fX fM (fun p hp => x p ?_) (fun p hp => m p ?_) (fun p hp => j p ?_), IM_gj hB h2 fX fM (fun p hp => x p ?_) jx (m 12 (by simp)) (j 23 (by simp))⟩
    · revert p; decide
    · revert p; decide
    · revert p; decide
    · revert p; decide
/-- nothing that counts is touched -/
theorem Inv_gj {c : Nat} (h : Inv c σX σM) (fX : gj L J σX τX) (fM : gj L' J' σM τM) (x : ∀ p, p ∈ [1, 2, 5, 6, 7, 8, 11, 21, 25, 26, 27, 28, 29, 30, 34, 35, 36, 37, 38, 39, 40, 41, 42, 43, 44, 45, 46] → p ∉ L) (jx : ∀ p, p ∈ [13, 15] → p ∉ J) (m : ∀ p, p ∈ [1, 3, 5, 6, 7, 8, 9, 10, 12, 13] → p ∉ L') (j : ∀ p, p ∈ [2, 12, 13, 14, 21, 22, 23] → p ∉ J') : Inv (c + 1) τX τM := by
  obtain ⟨h1, h2, h3, h4⟩ := h
  refine ⟨TP_gj h1 fX fM (fun p hp => x p ?_) (fun p hp => m p ?_) (fun p hp => j p ?_), SC_gj h2 fX fM (fun p hp => x p ?_) (jx 13 (by simp)) (fun p hp => m p ?_) (j 12 (by simp)), ST_gj h3 fX fM (x 34 (by simp)) (m 5 (by simp)), BO_gj (by omega) h4 fX fM (fun p hp => x p ?_) (jx 15 (by simp)) (fun p hp => m p ?_) (fun p hp => j p ?_)⟩
  all_goals (revert p; decide)
end FRM
/-! no shelf: every act is refused -/
theorem i_ge0 {v : Int32} (h : ¬ v < 0) : (0 : Int32) ≤ v := by
  rw [Int32.lt_iff_toInt_lt] at h
  rw [Int32.le_iff_toInt_le]
  omega
theorem no_addr {σX σM : gM} (h : NO σX σM) (v : Int32) : fX6_isAddress v σX = some (0, σX) := by
  unfold fX6_isAddress fX6_addresses
  by_cases c : v < 0
  · rw [if_pos c]
  · rw [if_neg c, b_I, h.x0, h.x1, h.x2, if_pos (by rw [show (0 : Int32) * 0 * 0 = 0 from by decide]; exact i_ge0 c)]
theorem no_disk {σX σM : gM} (h : NO σX σM) (v : Int32) : fX6_isDisk v σX = some (0, σX) := by
  unfold fX6_isDisk
  by_cases c : v < 0
  · rw [if_pos c]
  · rw [if_neg c, h.x5, if_pos (i_ge0 c)]
theorem no_stripe {σX σM : gM} (h : NO σX σM) (v : Int32) : fX6_isStripe v σX = some (0, σX) := by
  unfold fX6_isStripe
  by_cases c : v < 0
  · rw [if_pos c]
  · rw [if_neg c, h.x1, if_pos (i_ge0 c)]
theorem no_pres {σX σM : gM} (h : NO σX σM) : fX6_present σX = some (0, σX) := by
  unfold fX6_present
  rw [h.x5, if_pos (by decide)]
theorem no_cell {σX σM : gM} (h : NO σX σM) (a b c : Int32) : fX6_isCell a b c σX = some (0, σX) := by
  unfold fX6_isCell
  rw [no_disk h, b_I, if_pos rfl]
theorem no_ref {σX σM : gM} (h : NO σX σM) (n : Nat) {k : Nat} (hk : k < 9) (a b c d : Int32) : fX8_refusal n 0 (nI k) a b c d σX = some (nI 0, σX) := by
  rcases (show k = 0 ∨ k = 1 ∨ k = 2 ∨ k = 3 ∨ k = 4 ∨ k = 5 ∨ k = 6 ∨ k = 7 ∨ k = 8 by omega) with rfl | rfl | rfl | rfl | rfl | rfl | rfl | rfl | rfl
  · refine (rf_0 n 0 a b c d σX).trans ?_
    unfold fX8_refusalOfWrite
    rw [no_addr h, b_I, if_pos rfl, b_I]; rfl
  · refine (rf_1 n 0 a b c d σX).trans ?_
    unfold fX8_refusalOfLoss
    rw [no_disk h, b_I, if_pos rfl, b_I]; rfl
  · refine (rf_2 n 0 a b c d σX).trans ?_
    unfold fX8_refusalOfReplacing
    rw [no_disk h, b_I, if_pos rfl, b_I]; rfl
  · refine (rf_3 n 0 a b c d σX).trans ?_
    unfold fX8_refusalOfRebuilding
    rw [no_disk h, b_I, if_pos rfl, b_I]; rfl
  · refine (rf_4 n 0 a b c d σX).trans ?_
    unfold fX8_refusalOfScrubbing
    rw [no_pres h, b_I, if_pos rfl, b_I]; rfl
  · refine (rf_5 n 0 a b c d σX).trans ?_
    unfold fX8_refusalOfSpoiling
    rw [no_cell h, b_I, if_pos rfl, b_I]; rfl
  · refine (rf_6 n 0 a b c d σX).trans ?_
    unfold fX8_refusalOfTearing
    rw [no_addr h, b_I, if_pos rfl, b_I]; rfl
  · refine (rf_7 n 0 a b c d σX).trans ?_
    unfold fX8_refusalOfCleaning
    rw [no_pres h, b_I, if_pos rfl, b_I]; rfl
  · refine (rf_8 n 0 a b c d σX).trans ?_
    unfold fX8_refusalOfFull
    rw [no_stripe h, b_I, if_pos rfl, b_I]; rfl
theorem cnt_m1 {r : Int32} {σ : gM} (h : σ.1 0 14 = -1) : fX11_counted r σ = some (r, σ) := by
  unfold fX11_counted fX11_counted_b32
  rw [h, if_pos (by decide)]
theorem cnt_z {r : Int32} {σ : gM} {z : Nat} (hz : z < 4) (h : σ.1 0 14 = nI z) : fX11_counted r σ = some (r, g_put σ 34 z (σ.1 34 z + 1)) := by
  unfold fX11_counted fX11_counted_b32
  rw [h, nCL (by omega), if_neg (by simp (disch := first | omega | assumption) only [fa_lit, nLE, nLT, nEQ, nI_add, nSA, nSUB, pk_mul, nDIV, nREM, nCL, fa_and, nx_xor, fa_or, nSHL, nSHR, nUS, n31, n255, Nat.and_one_is_mod, b_I, b_V, b_L, not_or, Nat.not_lt_zero, Nat.not_le, Nat.not_lt, not_false_eq_true, true_and, and_true, false_or, or_false, Classical.not_not, if_true, if_false, if_pos, if_neg] <;> omega), if_neg (by simp (disch := first | omega | assumption) only [fa_lit, nLE, nLT, nEQ, nI_add, nSA, nSUB, pk_mul, nDIV, nREM, nCL, fa_and, nx_xor, fa_or, nSHL, nSHR, nUS, n31, n255, Nat.and_one_is_mod, b_I, b_V, b_L, not_or, Nat.not_lt_zero, Nat.not_le, Nat.not_lt, not_false_eq_true, true_and, and_true, false_or, or_false, Classical.not_not, if_true, if_false, if_pos, if_neg] <;> omega), if_pos (by simp (disch := first | omega | assumption) only [fa_lit, nLE, nLT, nEQ, nI_add, nSA, nSUB, pk_mul, nDIV, nREM, nCL, fa_and, nx_xor, fa_or, nSHL, nSHR, nUS, n31, n255, Nat.and_one_is_mod, b_I, b_V, b_L, not_or, Nat.not_lt_zero, Nat.not_le, Nat.not_lt, not_false_eq_true, true_and, and_true, false_or, or_false, Classical.not_not, if_true, if_false, if_pos, if_neg] <;> omega), if_pos (by simp (disch := first | omega | assumption) only [fa_lit, nLE, nLT, nEQ, nI_add, nSA, nSUB, pk_mul, nDIV, nREM, nCL, fa_and, nx_xor, fa_or, nSHL, nSHR, nUS, n31, n255, Nat.and_one_is_mod, b_I, b_V, b_L, not_or, Nat.not_lt_zero, Nat.not_le, Nat.not_lt, not_false_eq_true, true_and, and_true, false_or, or_false, Classical.not_not, if_true, if_false, if_pos, if_neg] <;> omega), b_L]
/-- status counts alike -/
theorem ST_put {σX σM : gM} {z : Nat} (h : ST σX σM) (hz : z < 4) : ST (g_put σX 34 z (σX.1 34 z + 1)) (g_put σM 5 z (σM.1 5 z + 1)) := by
  intro k hk
  rw [gp_k, gp_k, h z hz, h k hk]
theorem op_act {c : Nat} {σX σM : gM} (hc : c < 512) (h : Inv c σX σM) {k : Nat} (hk : k < 9) (a b d e : Int32) :
    ∃ (r : Int32) (τX τM : gM), g_bI (fX11_attempt 1000 (nI k) a b d e σX) (fun r9 σ8 => g_bI (fX11_counted r9 σ8) (fun r12 σ11 => some (r12, σ11))) = some (r, τX) ∧ g_bI (fX12_act 1000 (nI k) a b d e σM) (fun r6 σ5 => some (r6, σ5)) = some (r, τM) ∧ Inv (c + 1) τX τM := by
  obtain ⟨hT, hS, hU, hB⟩ := h
  have f0 : gj [] [0] σM (g_put σM 0 0 0) := gj_put0 _ _ (by simp)
  have fi : gj [] [] σX σX := gj_refl _ _ _
  rcases hB with hN | ⟨D, S, C, F, hB, hI⟩
  · have hN1 := NO_gj hN fi f0 (by decide) (by simp) (by decide) (by decide)
    have eX : fX11_attempt 1000 (nI k) a b d e σX = some (-1, g_put σX 0 14 (nI 0)) := by
      unfold fX11_attempt
      rw [no_ref hN 1000 hk, b_I, b_L, gp_s, if_neg (by decide)]
    have eM : fX12_act 1000 (nI k) a b d e σM = some (-1, g_put (g_put σM 0 0 0) 5 0 ((g_put σM 0 0 0).1 5 0 + 1)) := by
      unfold fX12_act fX12_tries_ fX12_tries__b20
      have h14 := hN1.m14
      rw [b_L, h14, if_pos (by decide), do_no (y := 0) (st_no _ _ _ _ _ _ _ _ h14) (by omega), b_I, if_neg (by decide), b_I, if_neg (by decide), if_pos (by decide), if_pos (by decide), b_L]
      rfl
    rw [eX, b_I, cnt_z (z := 0) (by omega) (gp_s _ _ _ _), b_I, eM, b_I]
    have g1 : gj [34] [14] σX (g_put (g_put σX 0 14 (nI 0)) 34 0 ((g_put σX 0 14 (nI 0)).1 34 0 + 1)) := gj_trans (gj_put0 _ _ (by simp)) (gj_put _ _ _ (by simp) (by decide))
    have g2 : gj [5] [0] σM (g_put (g_put σM 0 0 0) 5 0 ((g_put σM 0 0 0).1 5 0 + 1)) := gj_trans (gj_put0 _ _ (by simp)) (gj_put _ _ _ (by simp) (by decide))
    refine ⟨-1, _, _, rfl, rfl, TP_gj hT g1 g2 (by decide) (by decide) (by decide), SC_gj hS g1 g2 (by decide) (by decide) (by decide) (by decide), ?_, Or.inl (NO_gj hN g1 g2 (by decide) (by decide) (by decide) (by decide))⟩
    exact ST_put (ST_gj hU (gj_put0 (L := []) (J := [14]) _ _ (by simp)) f0 (by simp) (by simp)) (by omega)
  · have hB1 := BIx_gj (Nat.le_refl _) hB fi f0 (by decide) (by decide) (by decide)
    obtain ⟨r, y, τX, τM, e1, e2, e3, e4, e5, e6, e7, e8, e9⟩ := J_try (n := 1000) (by omega) hB1 (by omega) hk (fun _ => rfl) (fun _ => rfl) (fun _ => rfl) (fun _ => rfl) (a := a) (b := b) (c := d) (d := e)
    have g2 : gj [10, 11, 13, 14, 15] [0, 21, 22, 26, 27, 28, 29, 30] σM τM := gj_trans (gj_mono f0 (by simp) (by simp)) (gj_mono e9 (by simp) (by simp))
    have hI1 : IM D S C (80 * (c + 1)) τX τM := IM_gj (by omega) hI e8 g2 (by decide) (by decide) (by decide) (by decide)
    unfold fX12_act
    rw [e1, b_I, b_L, e2, b_I]
    rcases e4 with e4 | ⟨z, hz, e4⟩
    · rw [cnt_m1 (by rw [e3, e4]), b_I, e4, if_pos rfl, b_I]
      refine ⟨r, τX, τM, rfl, by rw [e6 e4], TP_gj hT e8 g2 (by decide) (by decide) (by decide), SC_gj hS e8 g2 (by decide) (by decide) (by decide) (by decide), ST_gj hU e8 g2 (by decide) (by decide), Or.inr ⟨D, S, C, F, BIx_gj (by omega) e7 (gj_refl [] [] _) (gj_refl [] [] _) (by decide) (by decide) (by decide), hI1⟩⟩
    · have hr : r = -1 := e5 (by rw [e4]; exact nM1 (by omega))
      rw [cnt_z hz (by rw [e3, e4]), b_I, e4, if_neg (nM1 (by omega)), nCL (by omega), if_pos (by simp (disch := first | omega | assumption) only [fa_lit, nLE, nLT, nEQ, nI_add, nSA, nSUB, pk_mul, nDIV, nREM, nCL, fa_and, nx_xor, fa_or, nSHL, nSHR, nUS, n31, n255, Nat.and_one_is_mod, b_I, b_V, b_L, not_or, Nat.not_lt_zero, Nat.not_le, Nat.not_lt, not_false_eq_true, true_and, and_true, false_or, or_false, Classical.not_not, if_true, if_false, if_pos, if_neg] <;> omega), if_pos (by simp (disch := first | omega | assumption) only [fa_lit, nLE, nLT, nEQ, nI_add, nSA, nSUB, pk_mul, nDIV, nREM, nCL, fa_and, nx_xor, fa_or, nSHL, nSHR, nUS, n31, n255, Nat.and_one_is_mod, b_I, b_V, b_L, not_or, Nat.not_lt_zero, Nat.not_le, Nat.not_lt, not_false_eq_true, true_and, and_true, false_or, or_false, Classical.not_not, if_true, if_false, if_pos, if_neg] <;> omega), b_L, b_I, hr]
      have p1 : gj [34] [] τX (g_put τX 34 z (τX.1 34 z + 1)) := gj_put _ _ _ (by simp) (by decide)
      have p2 : gj [5] [] τM (g_put τM 5 z (τM.1 5 z + 1)) := gj_put _ _ _ (by simp) (by decide)
      refine ⟨-1, _, _, rfl, rfl, TP_gj (TP_gj hT e8 g2 (by decide) (by decide) (by decide)) p1 p2 (by decide) (by decide) (by decide), SC_gj (SC_gj hS e8 g2 (by decide) (by decide) (by decide) (by decide)) p1 p2 (by decide) (by decide) (by decide) (by decide), ST_put (ST_gj hU e8 g2 (by decide) (by decide)) hz, Or.inr ⟨D, S, C, F, BIx_gj (by omega) e7 p1 p2 (by decide) (by decide) (by decide), IM_gj (Nat.le_refl _) hI1 p1 p2 (by decide) (by decide) (by decide) (by decide)⟩⟩
