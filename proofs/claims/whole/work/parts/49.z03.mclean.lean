/-! the reference cleans -/
theorem M_toClean {D S C F n w : Nat} {s : Sh} {σ : gM} (hn : 20 ≤ n) (hE : ME D S C F σ) (hO : Ok D S C s) (hX : MS C s (σ.1 w) 0) : fX12_toClean n w σ = some (nI (bm (cq D s) S), σ) := by
  obtain ⟨w1, w2, w3, w4, w5, w6, w7⟩ := hE.1
  obtain ⟨h0, h1, h2, h3, h5, h6⟩ := hE.2.1
  unfold fX12_toClean
  refine lp (L := fun m k (q : Int32) => fX12_toClean_L4 n w m q (nI k) σ) (I := fun k q => q = nI (bm (cq D s) k)) (Q := fun o => o = some (nI (bm (cq D s) S), σ)) (N := S) ?_ ?_ S n 0 0 (by omega) (by omega) rfl
  · intro m k q hk hq
    subst hq
    have hp := p12 (show k < 12 by omega)
    left
    show ∃ a', fX12_toClean_b4 n w (fX12_toClean_L4 n w m) (nI (bm (cq D s) k)) (nI k) σ = _ ∧ _
    unfold fX12_toClean_b4 fX12_toClean_b38 fX12_toClean_b39
    rw [h1, if_neg (by simp (disch := first | omega | assumption) only [fa_lit, nLE, nLT, nEQ, nI_add, nSA, nSUB, pk_mul, nDIV, nREM, nCL, fa_and, nx_xor, fa_or, nSHL, nSHR, nUS, n31, n255, Nat.and_one_is_mod, b_I, b_V, b_L, not_or, Nat.not_lt_zero, Nat.not_le, Nat.not_lt, not_false_eq_true, true_and, and_true, false_or, or_false, Classical.not_not, if_true, if_false, if_pos, if_neg] <;> omega), M_isDirty hX (Ok_di hO w4) (by omega), b_I, M_isAll hn hE hO hX hk, b_I, show nI k + 1 = nI (k + 1) from nI_add k 1, bm_up]
    by_cases c1 : dtB s k = true
    · rw [if_pos c1, if_neg (by decide)]
      by_cases c2 : alB D s k = true
      · have c : cq D s k = true := by rw [cq, c1, c2]; rfl
        rw [if_pos c2, if_neg (by decide), sh1 (by omega), fa_or, if_pos c]
        exact ⟨_, rfl, rfl⟩
      · have c : ¬ cq D s k = true := by rw [cq, Bool.eq_false_iff.mpr c2]; simp
        rw [if_neg c2, if_pos (show nI 0 = 0 from rfl), if_neg c, show (0 : Int32) = nI 0 from rfl, fa_or]
        exact ⟨_, rfl, rfl⟩
    · have c : ¬ cq D s k = true := by rw [cq, Bool.eq_false_iff.mpr c1]; simp
      rw [if_neg c1, if_pos (show nI 0 = 0 from rfl), if_neg c, show (0 : Int32) = nI 0 from rfl, fa_or]
      exact ⟨_, rfl, rfl⟩
  · intro m q hq
    subst hq
    show fX12_toClean_b4 n w (fX12_toClean_L4 n w m) (nI (bm (cq D s) S)) (nI S) σ = _
    unfold fX12_toClean_b4
    rw [h1, if_pos (by simp (disch := first | omega | assumption) only [fa_lit, nLE, nLT, nEQ, nI_add, nSA, nSUB, pk_mul, nDIV, nREM, nCL, fa_and, nx_xor, fa_or, nSHL, nSHR, nUS, n31, n255, Nat.and_one_is_mod, b_I, b_V, b_L, not_or, Nat.not_lt_zero, Nat.not_le, Nat.not_lt, not_false_eq_true, true_and, and_true, false_or, or_false, Classical.not_not, if_true, if_false, if_pos, if_neg] <;> omega)]
theorem M_cleanByte {D S C F n w t b : Nat} {s : Sh} {σ : gM} (hn : 20 ≤ n) (hE : ME D S C F σ) (hO : Ok D S C s) (hX : MS C s (σ.1 w) 0) (hw1 : 10 ≤ w) (hw2 : w ≤ 13) (ht : t < S) (hb : b < C) (hT : ∀ r, r < D + 2 → th D s t r = true) (K16 : Int32 → Int32 → Int32 → gM → Option (Int32 × gM)) (K42 : Int32 → Int32 → Int32 → Int32 → gM → Option (Int32 × gM)) (x : Int32) :
    ∃ σ', fX12_cleans_b42 n w K16 K42 x (nI D) (nI t) (nI b) σ = K42 x (nI D) (nI t) (nI (b + 1)) σ' ∧ MS C (clB F D s t b) (σ'.1 w) 0 ∧ fr [w, 14, 15] σ σ' := by
  obtain ⟨w1, w2, w3, w4, w5, w6, w7⟩ := hE.1
  obtain ⟨h0, h1, h2, h3, h5, h6⟩ := hE.2.1
  have ht12 : t < 12 := by omega
  obtain ⟨σ1, e1, V0, I1, f1⟩ := M_laysOne hn hE hO hX (by omega) (by omega) ht hb
  have V1 : MV D (va D s t b) σ1 := by
    intro r hr
    rw [V0 r hr]
    unfold va vl
    rw [if_pos (hT r hr), if_pos rfl]
  have hv : ∀ r, r < D + 2 → va D s t b r < 256 := fun r _ => va_lt hO.byt r
  have hE1 := ME_fr hE f1 (by simp) (by simp) (by simp) (by simp)
  have wf : ∀ {σa σb : gM}, ME D S C F σa → fr [w] σa σb → ME D S C F σb := fun h f => ME_fr h f (by simp; omega) (by simp; omega) (by simp; omega) (by simp; omega)
  have X1 : MS C s (σ1.1 w) 0 := by rw [f1.1 w (by simp; omega)]; exact hX
  unfold fX12_cleans_b42
  rw [h2, if_neg (by simp (disch := first | omega | assumption) only [fa_lit, nLE, nLT, nEQ, nI_add, nSA, nSUB, pk_mul, nDIV, nREM, nCL, fa_and, nx_xor, fa_or, nSHL, nSHR, nUS, n31, n255, Nat.and_one_is_mod, b_I, b_V, b_L, not_or, Nat.not_lt_zero, Nat.not_le, Nat.not_lt, not_false_eq_true, true_and, and_true, false_or, or_false, Classical.not_not, if_true, if_false, if_pos, if_neg] <;> omega), e1, b_V]
  refine lp (L := fun m k a => fX12_cleans_L67 n w K16 K42 m x (nI D) (nI t) (nI b) (nI k) a) (I := fun k a => MS C (s.w_rd (cn D t (fun r => decide (r < k)) s.rd)) (a.1 w) 0 ∧ fr [w] σ1 a) (Q := fun o => ∃ σ', o = K42 x (nI D) (nI t) (nI (b + 1)) σ' ∧ MS C (clB F D s t b) (σ'.1 w) 0 ∧ fr [w, 14, 15] σ σ') (N := D) ?_ ?_ D n 0 σ1 (by omega) (by omega) ⟨?_, fr_refl _ _⟩
  · intro m k a hk ha
    obtain ⟨a1, a2⟩ := ha
    have hEa := wf hE1 a2
    obtain ⟨σ', e, X', f'⟩ := M_countS (q := fun r => decide (r < k + 1)) hEa a1 ht12 (show k < D + 2 by omega) (by simp) (by simp) (by
      intro r _ hne
      apply decide_eq_decide.mpr; omega)
    refine Or.inl ⟨σ', ?_, X', fr_trans a2 f'⟩
    show fX12_cleans_b67 n w K16 K42 (fX12_cleans_L67 n w K16 K42 m) x (nI D) (nI t) (nI b) (nI k) a = _
    unfold fX12_cleans_b67
    rw [if_neg (by simp (disch := first | omega | assumption) only [fa_lit, nLE, nLT, nEQ, nI_add, nSA, nSUB, pk_mul, nDIV, nREM, nCL, fa_and, nx_xor, fa_or, nSHL, nSHR, nUS, n31, n255, Nat.and_one_is_mod, b_I, b_V, b_L, not_or, Nat.not_lt_zero, Nat.not_le, Nat.not_lt, not_false_eq_true, true_and, and_true, false_or, or_false, Classical.not_not, if_true, if_false, if_pos, if_neg] <;> omega), e, b_V, show nI k + 1 = nI (k + 1) from nI_add k 1]
  · intro m a ha
    obtain ⟨a1, a2⟩ := ha
    have hEa := wf hE1 a2
    have Va := MV_fr V1 a2 (by simp; omega)
    have X2 : MS C (((s.w_rd (cn D t (fun r => decide (r < D)) s.rd)).w_byt (bs D t b (fun _ => false) (cv F D (va D s t b)) (s.w_rd (cn D t (fun r => decide (r < D)) s.rd)).byt)).w_wr (cn D t (fun _ => false) (s.w_rd (cn D t (fun r => decide (r < D)) s.rd)).wr)) (a.1 w) 0 := by
      rw [cn_none (p := fun _ => false) (by omega) w1 ht12 (fun _ _ => rfl), bs_none (by omega) w1 ht12 (fun _ _ => rfl)]
      exact a1
    obtain ⟨σ3, e3, X3, f3, _⟩ := M_putsS (q := fun r => decide (r = D)) (k := D) hEa X2 ht12 hb (by omega) rfl (by simp) (by intro r _ hne; simp [hne])
    have hE3 := wf hEa f3
    have V3 := MV_fr Va f3 (by simp; omega)
    obtain ⟨σ4, e4, X4, f4, _⟩ := M_putsS (q := pPQ D) (k := D + 1) hE3 X3 ht12 hb (by omega) (by simp) (by simp [pPQ]) (by intro r _ hne; simp [pPQ, hne])
    have cD : cv F D (va D s t b) D = sp (va D s t b) D := by unfold cv; rw [ud_ne (by omega), ud_eq]
    have cQ : cv F D (va D s t b) (D + 1) = sq F (va D s t b) D := by unfold cv; rw [ud_eq]
    rw [cD] at e3
    rw [cQ] at e4
    refine ⟨σ4, ?_, X4, fr_trans (fr_mono f1 (by simp)) (fr_mono (fr_trans a2 (fr_trans f3 f4)) (by simp))⟩
    show fX12_cleans_b67 n w K16 K42 (fX12_cleans_L67 n w K16 K42 m) x (nI D) (nI t) (nI b) (nI D) a = _
    unfold fX12_cleans_b67
    rw [if_pos (by simp (disch := first | omega | assumption) only [fa_lit, nLE, nLT, nEQ, nI_add, nSA, nSUB, pk_mul, nDIV, nREM, nCL, fa_and, nx_xor, fa_or, nSHL, nSHR, nUS, n31, n255, Nat.and_one_is_mod, b_I, b_V, b_L, not_or, Nat.not_lt_zero, Nat.not_le, Nat.not_lt, not_false_eq_true, true_and, and_true, false_or, or_false, Classical.not_not, if_true, if_false, if_pos, if_neg] <;> omega), M_sum0 hn hEa Va (fun r hr e => absurd e (nM1' (by omega))), b_I, e3, b_V, M_sum1 hn hE3 V3 hv (fun r hr e => absurd e (nM1' (by omega))), b_I, show nI D + 1 = nI (D + 1) from nI_add D 1, e4, b_V, show nI b + 1 = nI (b + 1) from nI_add b 1]
  · rw [cn_none (by omega) w1 ht12 (by intro r hr; simp)]
    exact X1
theorem M_cleanStripe {D S C F n w t : Nat} {s : Sh} {σ : gM} (hn : 20 ≤ n) (hE : ME D S C F σ) (hO : Ok D S C s) (hX : MS C s (σ.1 w) 0) (hw1 : 10 ≤ w) (hw2 : w ≤ 13) (ht : t < S) (hT : ∀ r, r < D + 2 → th D s t r = true) (K16 : Int32 → Int32 → Int32 → gM → Option (Int32 × gM)) (x : Int32) :
    ∃ σ', fX12_cleans_L42 n w K16 n x (nI D) (nI t) 0 σ = K16 x (nI D) (nI (t + 1)) σ' ∧ MS C (clC F D s t C) (σ'.1 w) 0 ∧ fr [w, 14, 15] σ σ' := by
  obtain ⟨w1, w2, w3, w4, w5, w6, w7⟩ := hE.1
  refine lp (L := fun m k a => fX12_cleans_L42 n w K16 m x (nI D) (nI t) (nI k) a) (I := fun k a => MS C (clC F D s t k) (a.1 w) 0 ∧ fr [w, 14, 15] σ a) (Q := fun o => ∃ σ', o = K16 x (nI D) (nI (t + 1)) σ' ∧ MS C (clC F D s t C) (σ'.1 w) 0 ∧ fr [w, 14, 15] σ σ') (N := C) ?_ ?_ C n 0 σ (by omega) (by omega) ⟨hX, fr_refl _ _⟩
  · intro m k a hk ha
    obtain ⟨a1, a2⟩ := ha
    have hEa := ME_fr hE a2 (by simp; omega) (by simp; omega) (by simp; omega) (by simp; omega)
    obtain ⟨σ', e, X', f'⟩ := M_cleanByte hn hEa (clC_ok (by omega) w1 w7 (by omega) hO k) a1 hw1 hw2 ht hk (fun r hr => by
      have := hT r hr
      unfold th at this ⊢
      rw [clC_don]; exact this) K16 (fX12_cleans_L42 n w K16 m) x
    exact Or.inl ⟨σ', e, X', fr_trans a2 f'⟩
  · intro m a ha
    obtain ⟨a1, a2⟩ := ha
    have hEa := ME_fr hE a2 (by simp; omega) (by simp; omega) (by simp; omega) (by simp; omega)
    obtain ⟨h0, h1, h2, h3, h5, h6⟩ := hEa.2.1
    refine ⟨a, ?_, a1, a2⟩
    show fX12_cleans_b42 n w K16 (fX12_cleans_L42 n w K16 m) x (nI D) (nI t) (nI C) a = _
    unfold fX12_cleans_b42 fX12_cleans_b131
    rw [h2, if_pos (by simp (disch := first | omega | assumption) only [fa_lit, nLE, nLT, nEQ, nI_add, nSA, nSUB, pk_mul, nDIV, nREM, nCL, fa_and, nx_xor, fa_or, nSHL, nSHR, nUS, n31, n255, Nat.and_one_is_mod, b_I, b_V, b_L, not_or, Nat.not_lt_zero, Nat.not_le, Nat.not_lt, not_false_eq_true, true_and, and_true, false_or, or_false, Classical.not_not, if_true, if_false, if_pos, if_neg] <;> omega), show nI t + 1 = nI (t + 1) from nI_add t 1]
theorem M_cleans {D S C F n w : Nat} {s : Sh} {σ : gM} (hn : 40 ≤ n) (hE : ME D S C F σ) (hO : Ok D S C s) (hX : MS C s (σ.1 w) 0) (hw1 : 10 ≤ w) (hw2 : w ≤ 13) :
    ∃ σ', fX12_cleans n w σ = some (nI (ct (cq D s) S), σ') ∧ MS C ((cK F D C s S).w_di (dd s.di (cq D s) S)) (σ'.1 w) 0 ∧ fr [w, 14, 15] σ σ' := by
  obtain ⟨w1, w2, w3, w4, w5, w6, w7⟩ := hE.1
  obtain ⟨h0, h1, h2, h3, h5, h6⟩ := hE.2.1
  have hbl := bm_lt12 (p := cq D s) w4
  unfold fX12_cleans
  rw [M_toClean (by omega) hE hO hX, b_I, h0]
  refine lp (L := fun m k a => fX12_cleans_L16 n w m (nI (bm (cq D s) S)) (nI D) (nI k) a) (I := fun k a => MS C (cK F D C s k) (a.1 w) 0 ∧ fr [w, 14, 15] σ a) (Q := fun o => ∃ σ', o = some (nI (ct (cq D s) S), σ') ∧ MS C ((cK F D C s S).w_di (dd s.di (cq D s) S)) (σ'.1 w) 0 ∧ fr [w, 14, 15] σ σ') (N := S) ?_ ?_ S n 0 σ (by omega) (by omega) ⟨hX, fr_refl _ _⟩
  · intro m k a hk ha
    obtain ⟨a1, a2⟩ := ha
    have hEa := ME_fr hE a2 (by simp; omega) (by simp; omega) (by simp; omega) (by simp; omega)
    obtain ⟨g0, g1, g2, g3, g5, g6⟩ := hEa.2.1
    have hbit := bm_bit (p := cq D s) hk
    left
    show ∃ a', fX12_cleans_b16 n w (fX12_cleans_L16 n w m) (nI (bm (cq D s) S)) (nI D) (nI k) a = _ ∧ _
    unfold fX12_cleans_b16 fX12_cleans_b131
    rw [g1, if_neg (by simp (disch := first | omega | assumption) only [fa_lit, nLE, nLT, nEQ, nI_add, nSA, nSUB, pk_mul, nDIV, nREM, nCL, fa_and, nx_xor, fa_or, nSHL, nSHR, nUS, n31, n255, Nat.and_one_is_mod, b_I, b_V, b_L, not_or, Nat.not_lt_zero, Nat.not_le, Nat.not_lt, not_false_eq_true, true_and, and_true, false_or, or_false, Classical.not_not, if_true, if_false, if_pos, if_neg] <;> omega), show nI k + 1 = nI (k + 1) from nI_add k 1]
    by_cases c : cq D s k = true
    · rw [if_pos c] at hbit
      have c2 : alB D s k = true := by unfold cq at c; simp only [Bool.and_eq_true] at c; exact c.2
      rw [if_neg (by simp (disch := first | omega | assumption) only [fa_lit, nLE, nLT, nEQ, nI_add, nSA, nSUB, pk_mul, nDIV, nREM, nCL, fa_and, nx_xor, fa_or, nSHL, nSHR, nUS, n31, n255, Nat.and_one_is_mod, b_I, b_V, b_L, not_or, Nat.not_lt_zero, Nat.not_le, Nat.not_lt, not_false_eq_true, true_and, and_true, false_or, or_false, Classical.not_not, if_true, if_false, if_pos, if_neg, hbit]; all_goals omega)]
      have hT : ∀ r, r < D + 2 → th D (cK F D C s k) k r = true := by
        rw [th_don (cK_don F D C s k)]; exact al_r.mp c2
      obtain ⟨σ', e, X', f'⟩ := M_cleanStripe (n := n) (by omega) hEa (cK_ok (F := F) (by omega) w1 w7 hO k (by omega)) a1 hw1 hw2 hk hT (fX12_cleans_L16 n w m) (nI (bm (cq D s) S))
      rw [e]
      refine ⟨σ', rfl, ?_, fr_trans a2 f'⟩
      rw [cK, if_pos c]; exact X'
    · rw [if_neg c] at hbit
      rw [if_pos (by simp (disch := first | omega | assumption) only [fa_lit, nLE, nLT, nEQ, nI_add, nSA, nSUB, pk_mul, nDIV, nREM, nCL, fa_and, nx_xor, fa_or, nSHL, nSHR, nUS, n31, n255, Nat.and_one_is_mod, b_I, b_V, b_L, not_or, Nat.not_lt_zero, Nat.not_le, Nat.not_lt, not_false_eq_true, true_and, and_true, false_or, or_false, Classical.not_not, if_true, if_false, if_pos, if_neg, hbit])]
      refine ⟨a, rfl, ?_, a2⟩
      rw [cK, if_neg c]; exact a1
  · intro m a ha
    obtain ⟨a1, a2⟩ := ha
    have hEa := ME_fr hE a2 (by simp; omega) (by simp; omega) (by simp; omega) (by simp; omega)
    obtain ⟨g0, g1, g2, g3, g5, g6⟩ := hEa.2.1
    have ed := a1.di
    rw [Nat.zero_add, cK_di] at ed
    have X2 := MS_di (x := dd s.di (cq D s) S) w6 a1
    have ec : ct (fun k => (bm (cq D s) S).testBit k) 12 = ct (cq D s) S := by
      rw [ct_ext (fun k _ => bm_tb (cq D s) S k), ct_cut 12 w4]
    show ∃ σ', fX12_cleans_b16 n w (fX12_cleans_L16 n w m) (nI (bm (cq D s) S)) (nI D) (nI S) a = _ ∧ _
    unfold fX12_cleans_b16
    rw [g1, if_pos (by simp (disch := first | omega | assumption) only [fa_lit, nLE, nLT, nEQ, nI_add, nSA, nSUB, pk_mul, nDIV, nREM, nCL, fa_and, nx_xor, fa_or, nSHL, nSHR, nUS, n31, n255, Nat.and_one_is_mod, b_I, b_V, b_L, not_or, Nat.not_lt_zero, Nat.not_le, Nat.not_lt, not_false_eq_true, true_and, and_true, false_or, or_false, Classical.not_not, if_true, if_false, if_pos, if_neg] <;> omega), ed, nANDN, b_L, M_bitsOf hn hbl, b_I, ec]
    exact ⟨_, rfl, X2, fr_trans a2 (fr_put _ _ _ (by simp))⟩
