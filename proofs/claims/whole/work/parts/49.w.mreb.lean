/-! the reference rebuilds a stripe -/
def rbC (F D : Nat) (s : Sh) (t k : Nat) : Nat → Sh
  | 0 => s
  | b + 1 => rbB F D (rbC F D s t k b) t b k
theorem rbC_don (F D : Nat) (s : Sh) (t k : Nat) : ∀ b, (rbC F D s t k b).don = s.don
  | 0 => rfl
  | b + 1 => (rbC_don F D s t k b : _)
theorem rbC_how (F D : Nat) (s : Sh) (t k : Nat) : ∀ b, (rbC F D s t k b).how = s.how
  | 0 => rfl
  | b + 1 => (rbC_how F D s t k b : _)
theorem rbC_ok {F D S C t k : Nat} {s : Sh} (h1 : D < 7) (h2 : 2 ≤ D) (hF : F < 4) (ht : t < 12) (hO : Ok D S C s) : ∀ b, Ok D S C (rbC F D s t k b)
  | 0 => hO
  | b + 1 => rbB_ok h1 h2 hF ht (rbC_ok h1 h2 hF ht hO b)
theorem rbB_byt {F D t b d : Nat} {s : Sh} (h1 : D < 7) (h2 : 2 ≤ D) (ht : t < 12) (hd : d < D + 2) (b1 : Nat) : (rbB F D s t b (rl D t d)).byt d t b1 = if b1 = b then gv F D s t b (rl D t d) else s.byt d t b1 := by
  show bs D t b (fun r => decide (r = rl D t d)) (gv F D s t b) s.byt d t b1 = _
  unfold bs
  by_cases c : b1 = b
  · rw [if_pos ⟨hd, rfl, c, by simp⟩, if_pos c]
  · rw [if_neg (fun z => c z.2.2.1), if_neg c]
def rbT (F D S C : Nat) (s : Sh) (d : Nat) : Sh := if s.don d + 1 = S then ((rbC F D s (s.don d) (rl D (s.don d) d) C).w_don (ud s.don d (s.don d + 1))).w_how (ud s.how d 0) else (rbC F D s (s.don d) (rl D (s.don d) d) C).w_don (ud s.don d (s.don d + 1))
theorem M_rebuilds {D S C F n w d : Nat} {s : Sh} {σ : gM} (hn : 20 ≤ n) (hE : ME D S C F σ) (hO : Ok D S C s) (hX : MS C s (σ.1 w) 0) (hw1 : 10 ≤ w) (hw2 : w ≤ 13) (hd : d < D + 2) (hh : s.how d = 2) :
    ∃ σ', fX12_rebuilds n w (nI d) σ = some σ' ∧ MS C (rbT F D S C s d) (σ'.1 w) 0 ∧ fr [w, 14, 15] σ σ' ∧ σ'.1 w (392 + d) = nI (s.don d + 1) := by
  have hw := hE.1
  have hw' := hw
  obtain ⟨w1, w2, w3, w4, w5, w6, w7⟩ := hw'
  have ht := hO.h2 d (by omega) hh
  have ed := hX.don d (by omega) (by omega)
  rw [Nat.zero_add] at ed
  unfold rbT
  generalize hT : s.don d = t at *
  have ht12 : t < 12 := by omega
  have hr := rl_ok D (by omega) w1 t ht12 d hd
  unfold fX12_rebuilds
  rw [show (392 : Int32) + nI d = nI (392 + d) from nI_add 392 d, nCL (by omega), if_pos (by simp (disch := first | omega | assumption) only [fa_lit, nLE, nLT, nEQ, nI_add, nSA, nSUB, pk_mul, nDIV, nREM, nCL, fa_and, nx_xor, fa_or, nSHL, nSHR, nUS, n31, n255, Nat.and_one_is_mod, b_I, b_V, b_L, not_or, Nat.not_lt_zero, Nat.not_le, Nat.not_lt, not_false_eq_true, true_and, and_true, false_or, or_false, Classical.not_not, if_true, if_false, if_pos, if_neg] <;> omega), ed, M_roleOf hw hE.2.1 hd ht12, b_I]
  refine lp (L := fun m k a => fX12_rebuilds_L19 n w m (nI d) (nI t) (nI (rl D t d)) (nI k) a) (I := fun k a => MS C (rbC F D s t (rl D t d) k) (a.1 w) 0 ∧ fr [w, 14, 15] σ a ∧ ∀ b, b < k → a.1 w (48 * d + 4 * t + b) = nI ((rbC F D s t (rl D t d) k).byt d t b)) (Q := fun o => ∃ σ', o = some σ' ∧ MS C (if t + 1 = S then ((rbC F D s t (rl D t d) C).w_don (ud s.don d (t + 1))).w_how (ud s.how d 0) else (rbC F D s t (rl D t d) C).w_don (ud s.don d (t + 1))) (σ'.1 w) 0 ∧ fr [w, 14, 15] σ σ' ∧ σ'.1 w (392 + d) = nI (t + 1)) (N := C) ?_ ?_ C n 0 σ (by omega) (by omega) ⟨hX, fr_refl _ _, fun b hb => absurd hb (Nat.not_lt_zero _)⟩
  · intro m k a hk ha
    obtain ⟨a1, a2, a3⟩ := ha
    have hEa := ME_fr hE a2 (by simp; omega) (by simp; omega) (by simp; omega) (by simp; omega)
    obtain ⟨σ', e, X', f', r'⟩ := M_rebByte hn hEa (rbC_ok (by omega) w1 w7 ht12 hO k) a1 hw1 hw2 ht hk hd (fX12_rebuilds_L19 n w m) (nI d)
    refine Or.inl ⟨σ', e, X', fr_trans a2 f', ?_⟩
    intro b hb
    show _ = nI ((rbB F D (rbC F D s t (rl D t d) k) t k (rl D t d)).byt d t b)
    rw [r' _ (by omega), rbB_byt (by omega) w1 ht12 hd]
    by_cases c : b = k
    · rw [if_pos (by omega), if_pos c]
    · rw [if_neg (by omega), if_neg c]; exact a3 b (by omega)
  · intro m a ha
    obtain ⟨a1, a2, a3⟩ := ha
    have hEa := ME_fr hE a2 (by simp; omega) (by simp; omega) (by simp; omega) (by simp; omega)
    obtain ⟨g0, g1, g2, g3, g5, g6⟩ := hEa.2.1
    have eda := a1.don d (by omega) (by rw [rbC_how]; omega)
    rw [Nat.zero_add, rbC_don, hT] at eda
    have X2 := MS_don (d := d) (x := t + 1) w6 a1 (by omega) (by
      intro t1 b ht1 hb1 hl
      by_cases c : t1 = t
      · rw [c]; exact a3 b hb1
      · have := a1.byt d t1 b (by omega) ht1 hb1 (by rw [rbC_don, hT]; omega)
        rw [Nat.zero_add] at this
        exact this)
    rw [rbC_don] at X2
    have f2 : fr [w] a (g_put a w (392 + d) (nI (t + 1))) := fr_put _ _ _ (by simp)
    have hE2 := ME_fr hEa f2 (by simp; omega) (by simp; omega) (by simp; omega) (by simp; omega)
    obtain ⟨j0, j1, j2, j3, j5, j6⟩ := hE2.2.1
    show ∃ σ', fX12_rebuilds_b19 n w (fX12_rebuilds_L19 n w m) (nI d) (nI t) (nI (rl D t d)) (nI C) a = some σ' ∧ _
    unfold fX12_rebuilds_b19
    rw [g2, if_pos (by simp (disch := first | omega | assumption) only [fa_lit, nLE, nLT, nEQ, nI_add, nSA, nSUB, pk_mul, nDIV, nREM, nCL, fa_and, nx_xor, fa_or, nSHL, nSHR, nUS, n31, n255, Nat.and_one_is_mod, b_I, b_V, b_L, not_or, Nat.not_lt_zero, Nat.not_le, Nat.not_lt, not_false_eq_true, true_and, and_true, false_or, or_false, Classical.not_not, if_true, if_false, if_pos, if_neg] <;> omega), show (392 : Int32) + nI d = nI (392 + d) from nI_add 392 d, nCL (by omega), if_pos (by simp (disch := first | omega | assumption) only [fa_lit, nLE, nLT, nEQ, nI_add, nSA, nSUB, pk_mul, nDIV, nREM, nCL, fa_and, nx_xor, fa_or, nSHL, nSHR, nUS, n31, n255, Nat.and_one_is_mod, b_I, b_V, b_L, not_or, Nat.not_lt_zero, Nat.not_le, Nat.not_lt, not_false_eq_true, true_and, and_true, false_or, or_false, Classical.not_not, if_true, if_false, if_pos, if_neg] <;> omega), if_pos (by simp (disch := first | omega | assumption) only [fa_lit, nLE, nLT, nEQ, nI_add, nSA, nSUB, pk_mul, nDIV, nREM, nCL, fa_and, nx_xor, fa_or, nSHL, nSHR, nUS, n31, n255, Nat.and_one_is_mod, b_I, b_V, b_L, not_or, Nat.not_lt_zero, Nat.not_le, Nat.not_lt, not_false_eq_true, true_and, and_true, false_or, or_false, Classical.not_not, if_true, if_false, if_pos, if_neg] <;> omega), eda, show nI t + 1 = nI (t + 1) from nI_add t 1, b_L, if_pos (by simp (disch := first | omega | assumption) only [fa_lit, nLE, nLT, nEQ, nI_add, nSA, nSUB, pk_mul, nDIV, nREM, nCL, fa_and, nx_xor, fa_or, nSHL, nSHR, nUS, n31, n255, Nat.and_one_is_mod, b_I, b_V, b_L, not_or, Nat.not_lt_zero, Nat.not_le, Nat.not_lt, not_false_eq_true, true_and, and_true, false_or, or_false, Classical.not_not, if_true, if_false, if_pos, if_neg] <;> omega), gp_s, j1]
    by_cases c : t + 1 = S
    · have X3 := MS_how (d := d) (x := 0) w6 X2 (by omega) (fun z => absurd rfl z)
      rw [if_pos (by rw [c]), show (384 : Int32) + nI d = nI (384 + d) from nI_add 384 d, nCL (by omega), if_pos (by simp (disch := first | omega | assumption) only [fa_lit, nLE, nLT, nEQ, nI_add, nSA, nSUB, pk_mul, nDIV, nREM, nCL, fa_and, nx_xor, fa_or, nSHL, nSHR, nUS, n31, n255, Nat.and_one_is_mod, b_I, b_V, b_L, not_or, Nat.not_lt_zero, Nat.not_le, Nat.not_lt, not_false_eq_true, true_and, and_true, false_or, or_false, Classical.not_not, if_true, if_false, if_pos, if_neg] <;> omega), b_L, if_pos c]
      refine ⟨_, rfl, ?_, fr_trans a2 (fr_trans (fr_mono f2 (by simp)) (fr_put _ _ _ (by simp))), by rw [gp_k, if_neg (by omega), gp_s]⟩
      rw [wdon_how, rbC_how] at X3
      exact X3
    · rw [if_neg (by rw [nEQ _ _ (by omega) (by omega)]; exact c), if_neg c]
      exact ⟨_, rfl, X2, fr_trans a2 (fr_mono f2 (by simp)), gp_s _ _ _ _⟩
