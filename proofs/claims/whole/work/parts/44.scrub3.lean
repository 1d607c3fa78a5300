/-! the act: scrub -/
theorem Ok_di {D S C : Nat} {s : Sh} (hO : Ok D S C s) (hS : S ≤ 12) : s.di < 4096 := Nat.lt_of_lt_of_le hO.di (Nat.pow_le_pow_right (by decide) hS : 2 ^ S ≤ 2 ^ 12)
theorem Ok_don {D S C : Nat} {s : Sh} (hO : Ok D S C s) (hS : S ≤ 12) : ∀ d, d < 8 → s.don d < 13 := by
  intro d hd
  have := hO.how d hd
  have := hO.h0 d hd
  have := hO.h1 d hd
  have := hO.h2 d hd
  omega
theorem sw_rd (s : Sh) (x : Nat → Nat) (y : Nat) : (s.w_nx y).w_rd x = (s.w_rd x).w_nx y := rfl
theorem sw_byt (s : Sh) (x : Nat → Nat → Nat → Nat) (y : Nat) : (s.w_nx y).w_byt x = (s.w_byt x).w_nx y := rfl
theorem sw_wr (s : Sh) (x : Nat → Nat) (y : Nat) : (s.w_nx y).w_wr x = (s.w_wr x).w_nx y := rfl
theorem sw_md (s : Sh) (x : Nat → Nat) (y : Nat) : (s.w_nx y).w_md x = (s.w_md x).w_nx y := rfl
theorem sw_l0 (s : Sh) (x : Int32) (y : Nat) : (s.w_nx y).w_l0 x = (s.w_l0 x).w_nx y := rfl
theorem sw_l1 (s : Sh) (x : Int32) (y : Nat) : (s.w_nx y).w_l1 x = (s.w_l1 x).w_nx y := rfl
theorem sw_l2 (s : Sh) (x : Int32) (y : Nat) : (s.w_nx y).w_l2 x = (s.w_l2 x).w_nx y := rfl
theorem sw_op (s : Sh) (x : Nat) (y : Nat) : (s.w_nx y).w_op x = (s.w_op x).w_nx y := rfl
theorem sB_nx (F D : Nat) (s : Sh) (t b y : Nat) : sB F D (s.w_nx y) t b = (sB F D s t b).w_nx y := by
  have e : va D (s.w_nx y) t b = va D s t b := rfl
  unfold sB
  rw [e]
  split
  · rfl
  · split
    · rfl
    · unfold sM
      simp only [e, wnx_rd, wnx_byt, wnx_wr, wnx_md, sw_rd, sw_byt, sw_wr, sw_md, sw_l0, sw_l1, sw_l2]
theorem mB_nx (F D : Nat) (s : Sh) (t b y : Nat) : mB F D (s.w_nx y) t b = mB F D s t b := rfl
theorem sC_nx (F D : Nat) (s : Sh) (t y : Nat) : ∀ k, sC F D (s.w_nx y) t k = (sC F D s t k).w_nx y
  | 0 => rfl
  | k + 1 => by rw [sC, sC_nx F D s t y k, sB_nx, sC]
theorem mC_nx (F D : Nat) (s : Sh) (t y : Nat) : ∀ k, mC F D (s.w_nx y) t k = mC F D s t k
  | 0 => rfl
  | k + 1 => by rw [mC, mC_nx F D s t y k, sC_nx, mB_nx, mC]
theorem sS_nx (F D C : Nat) (s : Sh) (t y : Nat) : sS F D C (s.w_nx y) t = (sS F D C s t).w_nx y := by
  have e1 : alB D (s.w_nx y) t = alB D s t := rfl
  have e2 : dtB (s.w_nx y) t = dtB s t := rfl
  unfold sS
  rw [e1, e2, sC_nx]
  split <;> rfl
theorem mS_nx (F D C : Nat) (s : Sh) (t y : Nat) : mS F D C (s.w_nx y) t = mS F D C s t := by
  have e1 : alB D (s.w_nx y) t = alB D s t := rfl
  have e2 : dtB (s.w_nx y) t = dtB s t := rfl
  unfold mS
  rw [e1, e2, mC_nx]
theorem sS_ok {F D S C t : Nat} {s : Sh} (h1 : D < 7) (h2 : 2 ≤ D) (hF : F < 4) (ht : t < 12) (hO : Ok D S C s) : Ok D S C (sS F D C s t) := by
  unfold sS
  split
  · exact sC_ok h1 h2 hF ht hO C
  · exact ⟨hO.how, hO.h0, hO.h1, hO.h2, hO.byt, hO.two, hO.sp, hO.nx, hO.di⟩
def sK (F D S C : Nat) (s : Sh) : Nat → Sh
  | 0 => s
  | k + 1 => (sS F D C (sK F D S C s k) (sK F D S C s k).nx).w_nx (((sK F D S C s k).nx + 1) % S)
def mK (F D S C : Nat) (s : Sh) : Nat → Nat
  | 0 => 0
  | k + 1 => mK F D S C s k + mS F D C (sK F D S C s k) (sK F D S C s k).nx
theorem nx_ok {D S C y : Nat} {s : Sh} (hO : Ok D S C s) (hy : y < S) : Ok D S C (s.w_nx y) := ⟨hO.how, hO.h0, hO.h1, hO.h2, hO.byt, hO.two, hO.sp, hy, hO.di⟩
theorem sK_ok {F D S C : Nat} {s : Sh} (h1 : D < 7) (h2 : 2 ≤ D) (hF : F < 4) (hS : S ≤ 12) (h0 : 0 < S) (hO : Ok D S C s) : ∀ k, Ok D S C (sK F D S C s k)
  | 0 => hO
  | k + 1 => by
    have h := sK_ok h1 h2 hF hS h0 hO k
    have := h.nx
    exact nx_ok (sS_ok h1 h2 hF (by omega) h) (Nat.mod_lt _ h0)
theorem X_scrubOne {D S C F n i t y : Nat} {s : Sh} {σ : gM} (hn : 20 ≤ n) (hE : XE D S C F σ) (hO : Ok D S C s) (hX : XS C s (σ.1 (11 + 5 * i))) (ht : t < S) (hy : y < S) (K : Int32 → Int32 → Int32 → gM → Option (Int32 × gM)) (x a k : Int32) :
    ∃ σ', fX8_doScrub_b50 n i K a x k (nI t) (nI y) 139 σ = K a (x + nI (mS F D C s t)) (k + 1) σ' ∧ XS C ((sS F D C s t).w_nx y) (σ'.1 (11 + 5 * i)) ∧ fr [11 + 5 * i, 13 + 5 * i] σ σ' := by
  obtain ⟨w1, w2, w3, w4, w5, w6, w7⟩ := hE.1
  have X1 := XS_nx (x := y) hX
  have f1 : fr [11 + 5 * i] σ (g_put σ (11 + 5 * i) 139 (nI y)) := fr_put _ _ _ (by simp)
  have hE1 := XE_fr hE f1 (by simp <;> omega) (by simp <;> omega) (by simp <;> omega) (by simp <;> omega)
  have hO1 := nx_ok hO hy
  have x0 : x + nI 0 = x := by rw [show nI 0 = (0 : Int32) from rfl, Int32.add_zero]
  have no : ¬ (alB D s t = true ∧ dtB s t = false) → ∃ σ', fX8_doScrub_b71 n i K a x k (g_put σ (11 + 5 * i) 139 (nI y)) = K a (x + nI (mS F D C s t)) (k + 1) σ' ∧ XS C ((sS F D C s t).w_nx y) (σ'.1 (11 + 5 * i)) ∧ fr [11 + 5 * i, 13 + 5 * i] σ σ' := by
    intro c
    unfold fX8_doScrub_b71 fX8_doScrub_b94
    rw [show (138 : Int32) = nI 138 from rfl, X_add (by omega), b_V, mS, if_neg c, sS, if_neg c, X1.ps, x0]
    refine ⟨_, rfl, ?_, fr_trans (fr_mono f1 (by simp)) (fr_put _ _ _ (by simp))⟩
    rw [show nI (s.w_nx y).ps + 1 = nI (s.ps + 1) from nI_add _ 1]
    exact XS_ps (x := s.ps + 1) X1
  unfold fX8_doScrub_b50
  rw [show (139 : Int32) = nI 139 from rfl, X_set (by omega), b_V, X_isDirty X1 (Ok_di hO1 w4) (by omega), b_I]
  have e2 : dtB (s.w_nx y) t = dtB s t := rfl
  have em : bm (fun r => !th D (s.w_nx y) t r) (D + 2) = bm (fun r => !th D s t r) (D + 2) := rfl
  have hl := bm_lt8 (p := fun r => !th D s t r) (show D + 2 ≤ 8 by omega)
  rw [e2]
  by_cases c2 : dtB s t = true
  · rw [if_pos c2, if_neg (by decide)]
    exact no (fun z => by rw [c2] at z; exact absurd z.2 (by decide))
  · have c2' : dtB s t = false := by simpa using c2
    rw [if_neg c2, if_pos (show nI 0 = 0 from rfl), X_missing hn hE1 (Ok_don hO1 w4) X1 (by omega), b_I, em]
    by_cases c1 : alB D s t = true
    · have z : bm (fun r => !th D s t r) (D + 2) = 0 := by simpa [alB] using c1
      obtain ⟨σ', e, X', f'⟩ := X_scrubStripe (t := t) hn hE1 hO1 X1 (by omega) (al_r.mp c1)
      rw [z, if_pos (show nI 0 = 0 from rfl), e, b_I, mS, if_pos ⟨c1, c2'⟩, sS, if_pos ⟨c1, c2'⟩, mC_nx]
      rw [sC_nx] at X'
      unfold fX8_doScrub_b94
      exact ⟨σ', rfl, X', fr_trans (fr_mono f1 (by simp)) f'⟩
    · have z : bm (fun r => !th D s t r) (D + 2) ≠ 0 := by
        intro z; apply c1; simp [alB, z]
      rw [if_neg (nI_ne0 (by omega) (by omega))]
      exact no (fun q => c1 q.1)
theorem X_doScrub {D S C F n i m0 : Nat} {s : Sh} {σ : gM} (hn : 20 ≤ n) (hE : XE D S C F σ) (hO : Ok D S C s) (hX : XS C s (σ.1 (11 + 5 * i))) (hm : m0 < 13) :
    ∃ σ', fX8_doScrub n i (nI m0) σ = some (nI (mK F D S C s m0), σ') ∧ XS C (sK F D S C s m0) (σ'.1 (11 + 5 * i)) ∧ fr [11 + 5 * i, 13 + 5 * i] σ σ' := by
  obtain ⟨w1, w2, w3, w4, w5, w6, w7⟩ := hE.1
  unfold fX8_doScrub
  refine lp (L := fun m k (a : Int32 × gM) => fX8_doScrub_L4 n i m (nI m0) a.1 (nI k) a.2) (I := fun k a => a.1 = nI (mK F D S C s k) ∧ XS C (sK F D S C s k) (a.2.1 (11 + 5 * i)) ∧ fr [11 + 5 * i, 13 + 5 * i] σ a.2) (Q := fun o => ∃ σ', o = some (nI (mK F D S C s m0), σ') ∧ XS C (sK F D S C s m0) (σ'.1 (11 + 5 * i)) ∧ fr [11 + 5 * i, 13 + 5 * i] σ σ') (N := m0) ?_ ?_ m0 n 0 (0, σ) (by omega) (by omega) ⟨rfl, hX, fr_refl _ _⟩
  · intro m k a hk ha
    obtain ⟨a1, a2, a3⟩ := ha
    have hEa := XE_fr hE a3 (by simp <;> omega) (by simp <;> omega) (by simp <;> omega) (by simp <;> omega)
    obtain ⟨h0, h1, h2, h3, h5, h6, h7, h8, h9⟩ := hEa.2.1
    have hOk := sK_ok (F := F) (by omega) w1 w7 w4 (by omega) hO k
    have hx := hOk.nx
    obtain ⟨σ', e, X', f'⟩ := X_scrubOne (y := ((sK F D S C s k).nx + 1) % S) hn hEa hOk a2 hx (Nat.mod_lt _ (by omega)) (fX8_doScrub_L4 n i m) a.1 (nI m0) (nI k)
    refine Or.inl ⟨(a.1 + nI (mS F D C (sK F D S C s k) (sK F D S C s k).nx), σ'), ?_, ?_, X', fr_trans a3 f'⟩
    · show fX8_doScrub_b4 n i (fX8_doScrub_L4 n i m) _ _ _ _ = _
      unfold fX8_doScrub_b4
      rw [if_neg (by simp (disch := first | omega | assumption) only [fa_lit, nLE, nLT, nEQ, nI_add, nSA, nSUB, pk_mul, nDIV, nREM, nCL, fa_and, nx_xor, fa_or, nSHL, nSHR, nUS, n31, n255, Nat.and_one_is_mod, b_I, b_V, b_L, not_or, Nat.not_lt_zero, Nat.not_le, Nat.not_lt, not_false_eq_true, true_and, and_true, false_or, or_false, Classical.not_not, if_true, if_false, if_pos, if_neg] <;> omega), show (139 : Int32) = nI 139 from rfl, X_get (by omega), b_I, a2.nx, h1, show nI (sK F D S C s k).nx + 1 = nI ((sK F D S C s k).nx + 1) from nI_add _ 1]
      rw [show nI k + 1 = nI (k + 1) from nI_add k 1] at e
      by_cases c : (sK F D S C s k).nx + 1 < S
      · rw [if_neg (by simp (disch := first | omega | assumption) only [fa_lit, nLE, nLT, nEQ, nI_add, nSA, nSUB, pk_mul, nDIV, nREM, nCL, fa_and, nx_xor, fa_or, nSHL, nSHR, nUS, n31, n255, Nat.and_one_is_mod, b_I, b_V, b_L, not_or, Nat.not_lt_zero, Nat.not_le, Nat.not_lt, not_false_eq_true, true_and, and_true, false_or, or_false, Classical.not_not, if_true, if_false, if_pos, if_neg] <;> omega)]
        rw [Nat.mod_eq_of_lt c] at e
        exact e
      · rw [if_pos (by simp (disch := first | omega | assumption) only [fa_lit, nLE, nLT, nEQ, nI_add, nSA, nSUB, pk_mul, nDIV, nREM, nCL, fa_and, nx_xor, fa_or, nSHL, nSHR, nUS, n31, n255, Nat.and_one_is_mod, b_I, b_V, b_L, not_or, Nat.not_lt_zero, Nat.not_le, Nat.not_lt, not_false_eq_true, true_and, and_true, false_or, or_false, Classical.not_not, if_true, if_false, if_pos, if_neg] <;> omega)]
        have : ((sK F D S C s k).nx + 1) % S = 0 := by
          rw [show (sK F D S C s k).nx + 1 = S by omega, Nat.mod_self]
        rw [this] at e
        exact e
    · rw [a1, nI_add]; rfl
  · intro m a ha
    obtain ⟨a1, a2, a3⟩ := ha
    refine ⟨a.2, ?_, a2, a3⟩
    show fX8_doScrub_b4 n i (fX8_doScrub_L4 n i m) _ _ _ _ = _
    unfold fX8_doScrub_b4
    rw [if_pos (by simp (disch := first | omega | assumption) only [fa_lit, nLE, nLT, nEQ, nI_add, nSA, nSUB, pk_mul, nDIV, nREM, nCL, fa_and, nx_xor, fa_or, nSHL, nSHR, nUS, n31, n255, Nat.and_one_is_mod, b_I, b_V, b_L, not_or, Nat.not_lt_zero, Nat.not_le, Nat.not_lt, not_false_eq_true, true_and, and_true, false_or, or_false, Classical.not_not, if_true, if_false, if_pos, if_neg] <;> omega), a1]
theorem M_scrubsOn {D S C F n w m0 : Nat} {s : Sh} {σ : gM} (hn : 20 ≤ n) (hE : ME D S C F σ) (hO : Ok D S C s) (hX : MS C s (σ.1 w) 0) (hw1 : 10 ≤ w) (hw2 : w ≤ 13) (hm : m0 < 13) :
    ∃ σ', fX12_scrubsOn n w (nI m0) σ = some σ' ∧ σ'.1 0 29 = nI (mK F D S C s m0) ∧ MS C (sK F D S C s m0) (σ'.1 w) 0 ∧ gj [w, 14, 15] [29] σ σ' := by
  obtain ⟨w1, w2, w3, w4, w5, w6, w7⟩ := hE.1
  unfold fX12_scrubsOn
  refine lp (L := fun m k (a : Int32 × gM) => fX12_scrubsOn_L5 n w m (nI m0) a.1 (nI k) a.2) (I := fun k a => a.1 = nI (mK F D S C s k) ∧ MS C (sK F D S C s k) (a.2.1 w) 0 ∧ fr [w, 14, 15] σ a.2) (Q := fun o => ∃ σ', o = some σ' ∧ σ'.1 0 29 = nI (mK F D S C s m0) ∧ MS C (sK F D S C s m0) (σ'.1 w) 0 ∧ gj [w, 14, 15] [29] σ σ') (N := m0) ?_ ?_ m0 n 0 (0, σ) (by omega) (by omega) ⟨rfl, hX, fr_refl _ _⟩
  · intro m k a hk ha
    obtain ⟨a1, a2, a3⟩ := ha
    have hEa := ME_fr hE a3 (by simp; omega) (by simp; omega) (by simp; omega) (by simp; omega)
    have hOk := sK_ok (F := F) (by omega) w1 w7 w4 (by omega) hO k
    have hx := hOk.nx
    obtain ⟨σ', e, X', f'⟩ := M_scrubs hn hEa hOk (Ok_di hOk w4) a2 hw1 hw2 hx
    have hE' := ME_fr hEa f' (by simp; omega) (by simp; omega) (by simp; omega) (by simp; omega)
    obtain ⟨g0, g1, g2, g3, g5, g6⟩ := hE'.2.1
    have en := a2.nx
    rw [Nat.zero_add] at en
    have hOs := sS_ok (F := F) (t := (sK F D S C s k).nx) (by omega) w1 w7 (by omega) hOk
    have enx : (sS F D C (sK F D S C s k) (sK F D S C s k).nx).nx = (sK F D S C s k).nx := by
      have := congrArg Sh.nx (sS_nx F D C (sK F D S C s k) (sK F D S C s k).nx (sK F D S C s k).nx)
      rw [wnx_nx] at this
      exact this
    have en' := X'.nx
    rw [Nat.zero_add, enx] at en'
    have hml : ((sK F D S C s k).nx + 1) % S < S := Nat.mod_lt _ (by omega)
    have er : nI (sK F D S C s k).nx + 1 - (nI (sK F D S C s k).nx + 1) / nI S * nI S = nI (((sK F D S C s k).nx + 1) % S) := by simp (disch := first | omega | assumption) only [fa_lit, nLE, nLT, nEQ, nI_add, nSA, nSUB, pk_mul, nDIV, nREM, nCL, fa_and, nx_xor, fa_or, nSHL, nSHR, nUS, n31, n255, Nat.and_one_is_mod, b_I, b_V, b_L, not_or, Nat.not_lt_zero, Nat.not_le, Nat.not_lt, not_false_eq_true, true_and, and_true, false_or, or_false, Classical.not_not, if_true, if_false, if_pos, if_neg]
    refine Or.inl ⟨(a.1 + nI (mS F D C (sK F D S C s k) (sK F D S C s k).nx), g_put σ' w 426 (nI (((sK F D S C s k).nx + 1) % S))), ?_, ?_, MS_nx w6 X', fr_trans a3 (fr_trans f' (fr_put _ _ _ (by simp)))⟩
    · show fX12_scrubsOn_b5 n w (fX12_scrubsOn_L5 n w m) _ _ _ _ = _
      unfold fX12_scrubsOn_b5
      rw [if_neg (by simp (disch := first | omega | assumption) only [fa_lit, nLE, nLT, nEQ, nI_add, nSA, nSUB, pk_mul, nDIV, nREM, nCL, fa_and, nx_xor, fa_or, nSHL, nSHR, nUS, n31, n255, Nat.and_one_is_mod, b_I, b_V, b_L, not_or, Nat.not_lt_zero, Nat.not_le, Nat.not_lt, not_false_eq_true, true_and, and_true, false_or, or_false, Classical.not_not, if_true, if_false, if_pos, if_neg] <;> omega), en, e, b_I, g1, if_neg (nI_ne0 (by omega) (by omega)), en', er, b_L, show nI k + 1 = nI (k + 1) from nI_add k 1]
    · rw [a1, nI_add]; rfl
  · intro m a ha
    obtain ⟨a1, a2, a3⟩ := ha
    refine ⟨g_put a.2 0 29 a.1, ?_, ?_, ?_, ?_⟩
    · show fX12_scrubsOn_b5 n w (fX12_scrubsOn_L5 n w m) _ _ _ _ = _
      unfold fX12_scrubsOn_b5
      rw [if_pos (by simp (disch := first | omega | assumption) only [fa_lit, nLE, nLT, nEQ, nI_add, nSA, nSUB, pk_mul, nDIV, nREM, nCL, fa_and, nx_xor, fa_or, nSHL, nSHR, nUS, n31, n255, Nat.and_one_is_mod, b_I, b_V, b_L, not_or, Nat.not_lt_zero, Nat.not_le, Nat.not_lt, not_false_eq_true, true_and, and_true, false_or, or_false, Classical.not_not, if_true, if_false, if_pos, if_neg] <;> omega), b_L]
    · rw [gp_s, a1]
    · rw [g_put_o _ _ _ _ _ (show w ≠ 0 by omega)]; exact a2
    · exact gj_trans (gj_fr a3 (by simp; omega)) (gj_put0 _ _ (by simp))
