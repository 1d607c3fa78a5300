/-! scrubbing, whole -/
def dtB (s : Sh) (t : Nat) : Bool := decide (s.di / 2 ^ t % 2 = 1)
theorem X_isDirty {C i t : Nat} {s : Sh} {σ : gM} (hX : XS C s (σ.1 (11 + 5 * i))) (hd : s.di < 4096) (ht : t < 12) : fX8_isDirty i (nI t) σ = some (nI (if dtB s t then 1 else 0), σ) := by
  have h2 : s.di / 2 ^ t % 2 < 2 := Nat.mod_lt _ (by decide)
  unfold fX8_isDirty dtB
  rw [show (140 : Int32) = nI 140 from rfl, X_get (by omega), b_I, hX.di]
  by_cases c : s.di / 2 ^ t % 2 = 1
  · rw [if_neg (by simp (disch := first | omega | assumption) only [fa_lit, nLE, nLT, nEQ, nI_add, nSA, nSUB, pk_mul, nDIV, nREM, nCL, fa_and, nx_xor, fa_or, nSHL, nSHR, nUS, n31, n255, Nat.and_one_is_mod, b_I, b_V, b_L, not_or, Nat.not_lt_zero, Nat.not_le, Nat.not_lt, not_false_eq_true, true_and, and_true, false_or, or_false, Classical.not_not, if_true, if_false, if_pos, if_neg, c] <;> omega)]
    simp [c]; rfl
  · have c' : s.di / 2 ^ t % 2 = 0 := by omega
    rw [if_pos (by simp (disch := first | omega | assumption) only [fa_lit, nLE, nLT, nEQ, nI_add, nSA, nSUB, pk_mul, nDIV, nREM, nCL, fa_and, nx_xor, fa_or, nSHL, nSHR, nUS, n31, n255, Nat.and_one_is_mod, b_I, b_V, b_L, not_or, Nat.not_lt_zero, Nat.not_le, Nat.not_lt, not_false_eq_true, true_and, and_true, false_or, or_false, Classical.not_not, if_true, if_false, if_pos, if_neg, c'])]
    simp [c]; rfl
theorem M_isDirty {C w t : Nat} {s : Sh} {σ : gM} (hX : MS C s (σ.1 w) 0) (hd : s.di < 4096) (ht : t < 12) : fX12_isDirty w (nI t) σ = some (nI (if dtB s t then 1 else 0), σ) := by
  have h2 : s.di / 2 ^ t % 2 < 2 := Nat.mod_lt _ (by decide)
  have e := hX.di
  rw [Nat.zero_add] at e
  unfold fX12_isDirty dtB
  rw [e]
  by_cases c : s.di / 2 ^ t % 2 = 1
  · rw [if_pos (by simp (disch := first | omega | assumption) only [fa_lit, nLE, nLT, nEQ, nI_add, nSA, nSUB, pk_mul, nDIV, nREM, nCL, fa_and, nx_xor, fa_or, nSHL, nSHR, nUS, n31, n255, Nat.and_one_is_mod, b_I, b_V, b_L, not_or, Nat.not_lt_zero, Nat.not_le, Nat.not_lt, not_false_eq_true, true_and, and_true, false_or, or_false, Classical.not_not, if_true, if_false, if_pos, if_neg, c])]
    simp [c]; rfl
  · have c' : s.di / 2 ^ t % 2 = 0 := by omega
    rw [if_neg (by simp (disch := first | omega | assumption) only [fa_lit, nLE, nLT, nEQ, nI_add, nSA, nSUB, pk_mul, nDIV, nREM, nCL, fa_and, nx_xor, fa_or, nSHL, nSHR, nUS, n31, n255, Nat.and_one_is_mod, b_I, b_V, b_L, not_or, Nat.not_lt_zero, Nat.not_le, Nat.not_lt, not_false_eq_true, true_and, and_true, false_or, or_false, Classical.not_not, if_true, if_false, if_pos, if_neg, c'] <;> omega)]
    simp [c]; rfl
def bk (f : Nat → Nat) (k : Nat) : Nat → Nat := fun e => if e < k then f e + 1 else f e
theorem bk_up (f : Nat → Nat) (k : Nat) : bump (bk f k) k = bk f (k + 1) := by
  funext e
  unfold bump bk
  by_cases c : e = k
  · subst c
    rw [if_pos rfl, if_neg (by omega), if_pos (by omega)]
  · rw [if_neg c]
    by_cases d : e < k
    · rw [if_pos d, if_pos (by omega)]
    · rw [if_neg d, if_neg (by omega)]
theorem bk_cn (f : Nat → Nat) (D t : Nat) : bk f (D + 2) = cn D t (fun _ => true) f := by
  funext e
  unfold bk cn
  by_cases d : e < D + 2
  · rw [if_pos d, if_pos ⟨d, rfl⟩]
  · rw [if_neg d, if_neg (fun q => d q.1)]
theorem M_scrubByte {D S C F n w t b : Nat} {s : Sh} {σ : gM} (hn : 20 ≤ n) (hE : ME D S C F σ) (hO : Ok D S C s) (hX : MS C s (σ.1 w) 0) (hw1 : 10 ≤ w) (hw2 : w ≤ 13) (ht : t < S) (hb : b < C) (hT : ∀ r, r < D + 2 → th D s t r = true) (K : Int32 → Int32 → Int32 → gM → Option (Int32 × gM)) (x : Int32) :
    ∃ σ', fX12_scrubs_b33 n w K (nI t) x (nI b) σ = K (nI t) (x + nI (mB F D s t b)) (nI (b + 1)) σ' ∧ MS C (sB F D s t b) (σ'.1 w) 0 ∧ fr [w, 14, 15] σ σ' := by
  obtain ⟨w1, w2, w3, w4, w5, w6, w7⟩ := hE.1
  obtain ⟨h0, h1, h2, h3, h5, h6⟩ := hE.2.1
  unfold fX12_scrubs_b33
  rw [h2, if_neg (by simp (disch := first | omega | assumption) only [fa_lit, nLE, nLT, nEQ, nI_add, nSA, nSUB, pk_mul, nDIV, nREM, nCL, fa_and, nx_xor, fa_or, nSHL, nSHR, nUS, n31, n255, Nat.and_one_is_mod, b_I, b_V, b_L, not_or, Nat.not_lt_zero, Nat.not_le, Nat.not_lt, not_false_eq_true, true_and, and_true, false_or, or_false, Classical.not_not, if_true, if_false, if_pos, if_neg] <;> omega)]
  refine lp (L := fun m k a => fX12_scrubs_L47 n w K m (nI t) x (nI b) (nI k) a) (I := fun k a => MS C (s.w_rd (bk s.rd k)) (a.1 w) 0 ∧ fr [w, 14, 15] σ a) (Q := fun o => ∃ σ', o = K (nI t) (x + nI (mB F D s t b)) (nI (b + 1)) σ' ∧ MS C (sB F D s t b) (σ'.1 w) 0 ∧ fr [w, 14, 15] σ σ') (N := D + 2) ?_ ?_ (D + 2) n 0 σ (by omega) (by omega) ⟨?_, fr_refl _ _⟩
  · intro m k a hk ha
    have hEa := ME_fr hE ha.2 (by simp; omega) (by simp; omega) (by simp; omega) (by simp; omega)
    obtain ⟨g0, g1, g2, g3, g5, g6⟩ := hEa.2.1
    obtain ⟨σ', e, X', f', _⟩ := M_countsR (d := k) w6 ha.1 (by omega)
    refine Or.inl ⟨σ', ?_, ?_, fr_trans ha.2 (fr_mono f' (by simp))⟩
    · show fX12_scrubs_b47 n w K (fX12_scrubs_L47 n w K m) _ _ _ _ _ = _
      unfold fX12_scrubs_b47
      rw [g5, if_neg (by simp (disch := first | omega | assumption) only [fa_lit, nLE, nLT, nEQ, nI_add, nSA, nSUB, pk_mul, nDIV, nREM, nCL, fa_and, nx_xor, fa_or, nSHL, nSHR, nUS, n31, n255, Nat.and_one_is_mod, b_I, b_V, b_L, not_or, Nat.not_lt_zero, Nat.not_le, Nat.not_lt, not_false_eq_true, true_and, and_true, false_or, or_false, Classical.not_not, if_true, if_false, if_pos, if_neg] <;> omega), e, b_V, show nI k + 1 = nI (k + 1) from nI_add k 1]
    · rw [wrd_rd, bk_up] at X'
      exact X'
  · intro m a ha
    have hEa := ME_fr hE ha.2 (by simp; omega) (by simp; omega) (by simp; omega) (by simp; omega)
    obtain ⟨g0, g1, g2, g3, g5, g6⟩ := hEa.2.1
    have Xa := ha.1
    rw [bk_cn s.rd D t] at Xa
    have hO' : Ok D S C (s.w_rd (cn D t (fun _ => true) s.rd)) := ⟨hO.how, hO.h0, hO.h1, hO.h2, hO.byt, hO.two, hO.sp, hO.nx, hO.di⟩
    obtain ⟨σ', e, X', f'⟩ := M_mends hn hEa hO' Xa hw1 hw2 ht hb hT
    refine ⟨σ', ?_, ?_, fr_trans ha.2 f'⟩
    · show fX12_scrubs_b47 n w K (fX12_scrubs_L47 n w K m) _ _ _ _ _ = _
      unfold fX12_scrubs_b47
      rw [g5, if_pos (by simp (disch := first | omega | assumption) only [fa_lit, nLE, nLT, nEQ, nI_add, nSA, nSUB, pk_mul, nDIV, nREM, nCL, fa_and, nx_xor, fa_or, nSHL, nSHR, nUS, n31, n255, Nat.and_one_is_mod, b_I, b_V, b_L, not_or, Nat.not_lt_zero, Nat.not_le, Nat.not_lt, not_false_eq_true, true_and, and_true, false_or, or_false, Classical.not_not, if_true, if_false, if_pos, if_neg] <;> omega), e, b_I, show nI b + 1 = nI (b + 1) from nI_add b 1]
      rfl
    · rw [sB_sB1]; exact X'
  · have : bk s.rd 0 = s.rd := by
      funext e
      unfold bk
      rw [if_neg (by omega)]
    rw [this]; exact hX
def sS (F D C : Nat) (s : Sh) (t : Nat) : Sh := if alB D s t = true ∧ dtB s t = false then sC F D s t C else s.w_ps (s.ps + 1)
def mS (F D C : Nat) (s : Sh) (t : Nat) : Nat := if alB D s t = true ∧ dtB s t = false then mC F D s t C else 0
theorem M_scrubs {D S C F n w t : Nat} {s : Sh} {σ : gM} (hn : 20 ≤ n) (hE : ME D S C F σ) (hO : Ok D S C s) (hd : s.di < 4096) (hX : MS C s (σ.1 w) 0) (hw1 : 10 ≤ w) (hw2 : w ≤ 13) (ht : t < S) :
    ∃ σ', fX12_scrubs n w (nI t) σ = some (nI (mS F D C s t), σ') ∧ MS C (sS F D C s t) (σ'.1 w) 0 ∧ fr [w, 14, 15] σ σ' := by
  obtain ⟨w1, w2, w3, w4, w5, w6, w7⟩ := hE.1
  have ep := hX.ps
  rw [Nat.zero_add] at ep
  have no : ¬ (alB D s t = true ∧ dtB s t = false) → ∃ σ', fX12_scrubs_b17 n w σ = some (nI (mS F D C s t), σ') ∧ MS C (sS F D C s t) (σ'.1 w) 0 ∧ fr [w, 14, 15] σ σ' := by
    intro c
    unfold fX12_scrubs_b17
    rw [mS, if_neg c, sS, if_neg c, b_L, ep, show nI s.ps + 1 = nI (s.ps + 1) from nI_add _ 1]
    exact ⟨_, rfl, MS_ps w6 hX, fr_put _ _ _ (by simp)⟩
  unfold fX12_scrubs
  rw [M_isAll hn hE hO hX ht, b_I]
  by_cases c1 : alB D s t = true
  · rw [if_pos c1, if_neg (by decide), M_isDirty hX hd (by omega), b_I]
    by_cases c2 : dtB s t = true
    · rw [if_pos c2, if_neg (by decide)]
      exact no (fun z => by rw [c2] at z; exact absurd z.2 (by decide))
    · have c2' : dtB s t = false := by simpa using c2
      rw [if_neg c2, if_pos (show nI 0 = 0 from rfl), mS, if_pos ⟨c1, c2'⟩, sS, if_pos ⟨c1, c2'⟩]
      have hT := al_r.mp c1
      refine lp (L := fun m k (a : Int32 × gM) => fX12_scrubs_L33 n w m (nI t) a.1 (nI k) a.2) (I := fun k a => a.1 = nI (mC F D s t k) ∧ MS C (sC F D s t k) (a.2.1 w) 0 ∧ fr [w, 14, 15] σ a.2) (Q := fun o => ∃ σ', o = some (nI (mC F D s t C), σ') ∧ MS C (sC F D s t C) (σ'.1 w) 0 ∧ fr [w, 14, 15] σ σ') (N := C) ?_ ?_ C n 0 (0, σ) (by omega) (by omega) ⟨rfl, hX, fr_refl _ _⟩
      · intro m k a hk ha
        obtain ⟨a1, a2, a3⟩ := ha
        have hEa := ME_fr hE a3 (by simp; omega) (by simp; omega) (by simp; omega) (by simp; omega)
        obtain ⟨σ', e, X', f'⟩ := M_scrubByte hn hEa (sC_ok (by omega) w1 w7 (by omega) hO k) a2 hw1 hw2 ht hk (fun r hr => by
          have := hT r hr
          unfold th at this ⊢
          rw [sC_don]; exact this) (fX12_scrubs_L33 n w m) a.1
        refine Or.inl ⟨(a.1 + nI (mB F D (sC F D s t k) t k), σ'), e, ?_, X', fr_trans a3 f'⟩
        rw [a1, nI_add]; rfl
      · intro m a ha
        obtain ⟨a1, a2, a3⟩ := ha
        have hEa := ME_fr hE a3 (by simp; omega) (by simp; omega) (by simp; omega) (by simp; omega)
        obtain ⟨g0, g1, g2, g3, g5, g6⟩ := hEa.2.1
        refine ⟨a.2, ?_, a2, a3⟩
        show fX12_scrubs_b33 n w (fX12_scrubs_L33 n w m) _ _ _ _ = _
        unfold fX12_scrubs_b33
        rw [g2, if_pos (by simp (disch := first | omega | assumption) only [fa_lit, nLE, nLT, nEQ, nI_add, nSA, nSUB, pk_mul, nDIV, nREM, nCL, fa_and, nx_xor, fa_or, nSHL, nSHR, nUS, n31, n255, Nat.and_one_is_mod, b_I, b_V, b_L, not_or, Nat.not_lt_zero, Nat.not_le, Nat.not_lt, not_false_eq_true, true_and, and_true, false_or, or_false, Classical.not_not, if_true, if_false, if_pos, if_neg] <;> omega), a1]
  · rw [if_neg c1, if_pos (show nI 0 = 0 from rfl)]
    exact no (fun z => c1 z.1)
