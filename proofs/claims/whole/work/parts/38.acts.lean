/-! lose, replace, spoil -/
def nw (D : Nat) (s : Sh) : Nat → Bool := fun d => decide (s.how d ≠ 0)
theorem X_notWhole {D S C F n i : Nat} {s : Sh} {σ : gM} (hn : 20 ≤ n) (hE : XE D S C F σ) (hh : ∀ d, d < 8 → s.how d ≤ 2) (hX : XS C s (σ.1 (11 + 5 * i))) : fX8_notWhole n i σ = some (nI (bm (nw D s) (D + 2)), σ) := by
  obtain ⟨⟨w1, w2, w3, w4, w5, w6, w7⟩, ⟨h0, h1, h2, h3, h5, h6, h7, h8, h9⟩, hf⟩ := hE
  unfold fX8_notWhole
  refine lp (L := fun m k a => fX8_notWhole_L4 n i m a (nI k) σ) (I := fun k a => a = nI (bm (nw D s) k)) (Q := fun o => o = some (nI (bm (nw D s) (D + 2)), σ)) (N := D + 2) ?_ ?_ (D + 2) n 0 0 (by omega) (by omega) rfl
  · intro m k a hk ha
    subst ha
    have hb := hh k (by omega)
    refine Or.inl ⟨_, ?_, rfl⟩
    show fX8_notWhole_b4 n i (fX8_notWhole_L4 n i m) _ _ _ = _
    unfold fX8_notWhole_b4 fX8_notWhole_b35
    rw [h5, if_neg (by simp (disch := first | omega | assumption) only [fa_lit, nLE, nLT, nEQ, nI_add, nSA, nSUB, pk_mul, nDIV, nREM, nCL, fa_and, nx_xor, fa_or, nSHL, nSHR, nUS, n31, n255, Nat.and_one_is_mod, b_I, b_V, b_L, not_or, Nat.not_lt_zero, Nat.not_le, Nat.not_lt, not_false_eq_true, true_and, and_true, false_or, or_false, Classical.not_not, if_true, if_false, if_pos, if_neg] <;> omega), show (96 : Int32) + nI k = nI (96 + k) from nI_add 96 k, X_get (by omega), b_I, hX.how k (by omega), bm_up, show nI k + 1 = nI (k + 1) from nI_add k 1, sh1 (by omega), fa_or]
    by_cases c : s.how k = 0
    · rw [if_pos (by rw [c]; rfl)]
      simp [nw, c]
    · rw [if_neg (nI_ne0 (by omega) (by omega))]
      simp [nw, c]
  · intro m a ha
    subst ha
    show fX8_notWhole_b4 n i (fX8_notWhole_L4 n i m) _ _ _ = _
    unfold fX8_notWhole_b4
    rw [h5, if_pos (by simp (disch := first | omega | assumption) only [fa_lit, nLE, nLT, nEQ, nI_add, nSA, nSUB, pk_mul, nDIV, nREM, nCL, fa_and, nx_xor, fa_or, nSHL, nSHR, nUS, n31, n255, Nat.and_one_is_mod, b_I, b_V, b_L, not_or, Nat.not_lt_zero, Nat.not_le, Nat.not_lt, not_false_eq_true, true_and, and_true, false_or, or_false, Classical.not_not, if_true, if_false, if_pos, if_neg] <;> omega)]
theorem M_lost {D S C F n w : Nat} {s : Sh} {σ : gM} (hn : 20 ≤ n) (hE : ME D S C F σ) (hh : ∀ d, d < 8 → s.how d ≤ 2) (hX : MS C s (σ.1 w) 0) : fX12_lost n w σ = some (nI (ct (nw D s) (D + 2)), σ) := by
  obtain ⟨⟨w1, w2, w3, w4, w5, w6, w7⟩, ⟨h0, h1, h2, h3, h5, h6⟩, hf⟩ := hE
  unfold fX12_lost
  refine lp (L := fun m k a => fX12_lost_L4 n w m a (nI k) σ) (I := fun k a => a = nI (ct (nw D s) k)) (Q := fun o => o = some (nI (ct (nw D s) (D + 2)), σ)) (N := D + 2) ?_ ?_ (D + 2) n 0 0 (by omega) (by omega) rfl
  · intro m k a hk ha
    subst ha
    have hb := hh k (by omega)
    have e := hX.how k (by omega)
    rw [Nat.zero_add] at e
    refine Or.inl ⟨_, ?_, rfl⟩
    show fX12_lost_b4 n w (fX12_lost_L4 n w m) _ _ _ = _
    unfold fX12_lost_b4 fX12_lost_b28
    rw [h5, if_neg (by simp (disch := first | omega | assumption) only [fa_lit, nLE, nLT, nEQ, nI_add, nSA, nSUB, pk_mul, nDIV, nREM, nCL, fa_and, nx_xor, fa_or, nSHL, nSHR, nUS, n31, n255, Nat.and_one_is_mod, b_I, b_V, b_L, not_or, Nat.not_lt_zero, Nat.not_le, Nat.not_lt, not_false_eq_true, true_and, and_true, false_or, or_false, Classical.not_not, if_true, if_false, if_pos, if_neg] <;> omega), show (384 : Int32) + nI k = nI (384 + k) from nI_add 384 k, nCL (by omega), if_pos (by simp (disch := first | omega | assumption) only [fa_lit, nLE, nLT, nEQ, nI_add, nSA, nSUB, pk_mul, nDIV, nREM, nCL, fa_and, nx_xor, fa_or, nSHL, nSHR, nUS, n31, n255, Nat.and_one_is_mod, b_I, b_V, b_L, not_or, Nat.not_lt_zero, Nat.not_le, Nat.not_lt, not_false_eq_true, true_and, and_true, false_or, or_false, Classical.not_not, if_true, if_false, if_pos, if_neg] <;> omega), e, show nI k + 1 = nI (k + 1) from nI_add k 1, ct, show (0 : Int32) = nI 0 from rfl, show (1 : Int32) = nI 1 from rfl, nI_add, nI_add]
    by_cases c : s.how k = 0
    · rw [if_pos (by rw [c])]
      simp [nw, c]
    · rw [if_neg (by rw [nEQ _ _ (by omega) (by omega)]; exact c)]
      simp [nw, c]
  · intro m a ha
    subst ha
    show fX12_lost_b4 n w (fX12_lost_L4 n w m) _ _ _ = _
    unfold fX12_lost_b4
    rw [h5, if_pos (by simp (disch := first | omega | assumption) only [fa_lit, nLE, nLT, nEQ, nI_add, nSA, nSUB, pk_mul, nDIV, nREM, nCL, fa_and, nx_xor, fa_or, nSHL, nSHR, nUS, n31, n255, Nat.and_one_is_mod, b_I, b_V, b_L, not_or, Nat.not_lt_zero, Nat.not_le, Nat.not_lt, not_false_eq_true, true_and, and_true, false_or, or_false, Classical.not_not, if_true, if_false, if_pos, if_neg] <;> omega)]
def loS (s : Sh) (d : Nat) : Sh := (s.w_how (ud s.how d 1)).w_don (ud s.don d 0)
theorem loS_how {s : Sh} {d : Nat} (h : ∀ d, d < 8 → s.how d ≤ 2) : ∀ e, e < 8 → (loS s d).how e ≤ 2 := by
  intro e he
  show ud s.how d 1 e ≤ 2
  unfold ud
  split
  · omega
  · exact h e he
theorem X_doLose {D S C F n i d : Nat} {s : Sh} {σ : gM} (hn : 20 ≤ n) (hE : XE D S C F σ) (hO : Ok D S C s) (hX : XS C s (σ.1 (11 + 5 * i))) (hd : d < 8) :
    ∃ σ', fX8_doLose n i (nI d) σ = some (nI (ct (nw D (loS s d)) (D + 2)), σ') ∧ XS C (loS s d) (σ'.1 (11 + 5 * i)) ∧ fr [11 + 5 * i] σ σ' := by
  obtain ⟨w1, w2, w3, w4, w5, w6, w7⟩ := hE.1
  have X1 := XS_how (x := 1) hX hd
  have X2 := XS_don (x := 0) X1 hd (fun t b _ _ h => absurd h (Nat.not_lt_zero _))
  have f : fr [11 + 5 * i] σ (g_put (g_put σ (11 + 5 * i) (96 + d) (nI 1)) (11 + 5 * i) (104 + d) (nI 0)) := fr_trans (fr_put _ _ _ (by simp)) (fr_put _ _ _ (by simp))
  have hE2 := XE_fr hE f (by simp <;> omega) (by simp <;> omega) (by simp <;> omega) (by simp <;> omega)
  refine ⟨_, ?_, X2, f⟩
  unfold fX8_doLose
  rw [show (96 : Int32) + nI d = nI (96 + d) from nI_add 96 d, show (104 : Int32) + nI d = nI (104 + d) from nI_add 104 d, X_set (by omega), b_V, X_set (by omega), b_V, show (1 : Int32) = nI 1 from rfl, show (0 : Int32) = nI 0 from rfl, X_notWhole hn hE2 (loS_how hO.how) X2, b_I, bc_bm (by omega), b_I]
theorem M_loses {D S C F n w d : Nat} {s : Sh} {σ : gM} (hn : 100 ≤ n) (hE : ME D S C F σ) (hX : MS C s (σ.1 w) 0) (hd : d < 8) :
    ∃ σ', fX12_loses n w (nI d) σ = some σ' ∧ MS C (loS s d) (σ'.1 w) 0 ∧ fr [w] σ σ' := by
  obtain ⟨w1, w2, w3, w4, w5, w6, w7⟩ := hE.1
  have X2 := MS_los w6 hX hd
  have f : fr [w] σ (g_put (g_put σ w (384 + d) (nI 1)) w (392 + d) (nI 0)) := fr_trans (fr_put _ _ _ (by simp)) (fr_put _ _ _ (by simp))
  have z : (loS s d).don d = 0 := ud_eq
  unfold fX12_loses
  rw [show (384 : Int32) + nI d = nI (384 + d) from nI_add 384 d, show (392 : Int32) + nI d = nI (392 + d) from nI_add 392 d, nCL (by omega), nCL (by omega), if_pos (by simp (disch := first | omega | assumption) only [fa_lit, nLE, nLT, nEQ, nI_add, nSA, nSUB, pk_mul, nDIV, nREM, nCL, fa_and, nx_xor, fa_or, nSHL, nSHR, nUS, n31, n255, Nat.and_one_is_mod, b_I, b_V, b_L, not_or, Nat.not_lt_zero, Nat.not_le, Nat.not_lt, not_false_eq_true, true_and, and_true, false_or, or_false, Classical.not_not, if_true, if_false, if_pos, if_neg] <;> omega), b_L, if_pos (by simp (disch := first | omega | assumption) only [fa_lit, nLE, nLT, nEQ, nI_add, nSA, nSUB, pk_mul, nDIV, nREM, nCL, fa_and, nx_xor, fa_or, nSHL, nSHR, nUS, n31, n255, Nat.and_one_is_mod, b_I, b_V, b_L, not_or, Nat.not_lt_zero, Nat.not_le, Nat.not_lt, not_false_eq_true, true_and, and_true, false_or, or_false, Classical.not_not, if_true, if_false, if_pos, if_neg] <;> omega), b_L]
  refine lp (L := fun m k a => fX12_loses_L18 n w m (nI d) (nI k) a) (I := fun k a => MS C (loS s d) (a.1 w) 0 ∧ fr [w] σ a) (Q := fun o => ∃ σ', o = some σ' ∧ MS C (loS s d) (σ'.1 w) 0 ∧ fr [w] σ σ') (N := 48) ?_ ?_ 48 n 0 _ (by omega) (by omega) ⟨X2, f⟩
  · intro m k a hk ha
    refine Or.inl ⟨g_put a w (48 * d + k) 0, ?_, MS_dead w6 ha.1 hd hk z, fr_trans ha.2 (fr_put _ _ _ (by simp))⟩
    show fX12_loses_b18 n w (fX12_loses_L18 n w m) _ _ _ = _
    unfold fX12_loses_b18
    have e : 48 * nI d + nI k = nI (48 * d + k) := by simp (disch := first | omega | assumption) only [fa_lit, nLE, nLT, nEQ, nI_add, nSA, nSUB, pk_mul, nDIV, nREM, nCL, fa_and, nx_xor, fa_or, nSHL, nSHR, nUS, n31, n255, Nat.and_one_is_mod, b_I, b_V, b_L, not_or, Nat.not_lt_zero, Nat.not_le, Nat.not_lt, not_false_eq_true, true_and, and_true, false_or, or_false, Classical.not_not, if_true, if_false, if_pos, if_neg]
    rw [if_neg (by simp (disch := first | omega | assumption) only [fa_lit, nLE, nLT, nEQ, nI_add, nSA, nSUB, pk_mul, nDIV, nREM, nCL, fa_and, nx_xor, fa_or, nSHL, nSHR, nUS, n31, n255, Nat.and_one_is_mod, b_I, b_V, b_L, not_or, Nat.not_lt_zero, Nat.not_le, Nat.not_lt, not_false_eq_true, true_and, and_true, false_or, or_false, Classical.not_not, if_true, if_false, if_pos, if_neg] <;> omega), e, nCL (by omega), if_pos (by simp (disch := first | omega | assumption) only [fa_lit, nLE, nLT, nEQ, nI_add, nSA, nSUB, pk_mul, nDIV, nREM, nCL, fa_and, nx_xor, fa_or, nSHL, nSHR, nUS, n31, n255, Nat.and_one_is_mod, b_I, b_V, b_L, not_or, Nat.not_lt_zero, Nat.not_le, Nat.not_lt, not_false_eq_true, true_and, and_true, false_or, or_false, Classical.not_not, if_true, if_false, if_pos, if_neg] <;> omega), b_L, show nI k + 1 = nI (k + 1) from nI_add k 1]
  · intro m a ha
    refine ⟨a, ?_, ha.1, ha.2⟩
    show fX12_loses_b18 n w (fX12_loses_L18 n w m) _ _ _ = _
    unfold fX12_loses_b18
    rw [if_pos (by simp (disch := first | omega | assumption) only [fa_lit, nLE, nLT, nEQ, nI_add, nSA, nSUB, pk_mul, nDIV, nREM, nCL, fa_and, nx_xor, fa_or, nSHL, nSHR, nUS, n31, n255, Nat.and_one_is_mod, b_I, b_V, b_L, not_or, Nat.not_lt_zero, Nat.not_le, Nat.not_lt, not_false_eq_true, true_and, and_true, false_or, or_false, Classical.not_not, if_true, if_false, if_pos, if_neg] <;> omega)]
def rpS (s : Sh) (d : Nat) : Sh := (s.w_how (ud s.how d 2)).w_sp (s.sp - 1)
theorem X_doReplace {C i d : Nat} {s : Sh} {σ : gM} (hX : XS C s (σ.1 (11 + 5 * i))) (hd : d < 8) (hs : 0 < s.sp) :
    ∃ σ', fX8_doReplace i (nI d) σ = some (nI (s.sp - 1), σ') ∧ XS C (rpS s d) (σ'.1 (11 + 5 * i)) ∧ fr [11 + 5 * i] σ σ' := by
  have X1 := XS_how (x := 2) hX hd
  have X2 := XS_sp (x := s.sp - 1) X1
  have f : fr [11 + 5 * i] σ (g_put (g_put σ (11 + 5 * i) (96 + d) (nI 2)) (11 + 5 * i) 136 (nI (s.sp - 1))) := fr_trans (fr_put _ _ _ (by simp)) (fr_put _ _ _ (by simp))
  refine ⟨_, ?_, X2, f⟩
  have e : nI s.sp + (-1) = nI (s.sp - 1) := by
    have := nS1 (nI s.sp) 0
    rw [show nI s.sp - nI 0 = nI s.sp from pk_sub (Nat.zero_le _), Nat.zero_add] at this
    rw [this, pk_sub (by omega)]
  unfold fX8_doReplace
  rw [show (96 : Int32) + nI d = nI (96 + d) from nI_add 96 d, X_set (by omega), b_V, show (136 : Int32) = nI 136 from rfl, X_add (by omega), b_V, show (2 : Int32) = nI 2 from rfl, gp_k, if_neg (by omega), hX.sp, e, X_get (by omega), b_I, gp_s]
def sbS (s : Sh) (d t b x : Nat) : Sh := s.w_byt (fun e t1 b1 => if e = d ∧ t1 = t ∧ b1 = b then s.byt d t b ^^^ x else s.byt e t1 b1)
theorem X_doSpoil {C i d t b x : Nat} {s : Sh} {σ : gM} (hX : XS C s (σ.1 (11 + 5 * i))) (hC : C ≤ 4) (hy : ∀ d t b, s.byt d t b < 256) (hd : d < 8) (ht : t < 12) (hb : b < C) (h : t < s.don d) (hx : x < 256) :
    ∃ σ', fX8_doSpoil i (nI d) (nI t) (nI b) (nI x) σ = some (nI (s.byt d t b ^^^ x), σ') ∧ XS C (sbS s d t b x) (σ'.1 (11 + 5 * i)) ∧ fr [11 + 5 * i] σ σ' := by
  unfold fX8_doSpoil
  rw [X_byteAt hd ht (by omega), b_I, hX.byt d t b hd ht hb h, nx_xor, X_putByte hd ht (by omega), b_V]
  refine ⟨_, rfl, ?_, fr_put _ _ _ (by simp)⟩
  refine XS_byt hX (fun k hk => by rw [gp_k, if_neg (by omega)]) ?_
  intro e t1 b1 he ht1 hb1 hn1
  rw [rb_put ht (by omega) ht1 (by omega)]
  by_cases c : e = d ∧ t1 = t ∧ b1 = b
  · rw [if_pos c, if_pos c, fa_and, n255 (x8 (hy _ _ _) hx)]
  · rw [if_neg c, if_neg c]
    exact hX.byt e t1 b1 he ht1 hb1 hn1
