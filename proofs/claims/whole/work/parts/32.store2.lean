/-! storing -/
theorem X_store {D S C F n i t b : Nat} {s : Sh} {σ : gM} {p : Nat → Bool} {v : Nat → Nat} (hn : 20 ≤ n) (hE : XE D S C F σ) (hX : XS C s (σ.1 (11 + 5 * i))) (hB : XB D i v σ) (hv : ∀ r, r < D + 2 → v r < 256) (ht : t < 12) (hb : b < C) :
    ∃ σ', fX8_store n i (nI t) (nI b) (nI (bm p (D + 2))) σ = some σ' ∧ XS C ((s.w_byt (bs D t b p v s.byt)).w_wr (cn D t p s.wr)) (σ'.1 (11 + 5 * i)) ∧ fr [11 + 5 * i] σ σ' ∧ ∀ e t1 b1, e < 8 → t1 < 12 → b1 < 4 → rb (σ'.1 (11 + 5 * i)) e t1 b1 = if e < D + 2 ∧ t1 = t ∧ b1 = b ∧ p (rl D t e) = true then nI (v (rl D t e)) else rb (σ.1 (11 + 5 * i)) e t1 b1 := by
  have hw := hE.1
  have hw' := hw
  obtain ⟨w1, w2, w3, w4, w5, w6, w7⟩ := hw'
  have hl := bm_lt8 (p := p) (show D + 2 ≤ 8 by omega)
  unfold fX8_store
  refine lp (L := fun m k a => fX8_store_L3 n i m (nI t) (nI b) (nI (bm p (D + 2))) (nI k) a) (I := fun k a => XS C ((s.w_byt (bs D t b (fun r => p r && decide (r < k)) v s.byt)).w_wr (cn D t (fun r => p r && decide (r < k)) s.wr)) (a.1 (11 + 5 * i)) ∧ fr [11 + 5 * i] σ a ∧ ∀ e t1 b1, e < 8 → t1 < 12 → b1 < 4 → rb (a.1 (11 + 5 * i)) e t1 b1 = if e < D + 2 ∧ t1 = t ∧ b1 = b ∧ (p (rl D t e) && decide (rl D t e < k)) = true then nI (v (rl D t e)) else rb (σ.1 (11 + 5 * i)) e t1 b1) (Q := fun o => ∃ σ', o = some σ' ∧ XS C ((s.w_byt (bs D t b p v s.byt)).w_wr (cn D t p s.wr)) (σ'.1 (11 + 5 * i)) ∧ fr [11 + 5 * i] σ σ' ∧ ∀ e t1 b1, e < 8 → t1 < 12 → b1 < 4 → rb (σ'.1 (11 + 5 * i)) e t1 b1 = if e < D + 2 ∧ t1 = t ∧ b1 = b ∧ p (rl D t e) = true then nI (v (rl D t e)) else rb (σ.1 (11 + 5 * i)) e t1 b1) (N := D + 2) ?_ ?_ (D + 2) n 0 σ (by omega) (by omega) ⟨?_, fr_refl _ _, ?_⟩
  · intro m k a hk ha
    obtain ⟨a1, a2, a3⟩ := ha
    have hE' := XE_fr hE a2 (by simp <;> omega) (by simp <;> omega) (by simp <;> omega) (by simp <;> omega)
    have hB' := XB_fr hB a2 (by simp <;> omega)
    have hR := hE'.2.1
    have hR' := hR
    obtain ⟨h0, h1, h2, h3, h5, h6, h7, h8, h9⟩ := hR'
    have hd := dk_ok D (by omega) w1 t ht k hk
    have hbit := bm_bit (p := p) hk
    have hq : ∀ r, r < D + 2 → r ≠ k → (p r && decide (r < k + 1)) = (p r && decide (r < k)) := by
      intro r hr hne
      have : decide (r < k + 1) = decide (r < k) := by apply decide_eq_decide.mpr; omega
      rw [this]
    by_cases c : p k = true
    · simp only [c, if_true] at hbit
      have e1 : fX8_store_L3 n i (m + 1) (nI t) (nI b) (nI (bm p (D + 2))) (nI k) a = fX8_store_L3 n i m (nI t) (nI b) (nI (bm p (D + 2))) (nI (k + 1)) (g_put (g_put a (11 + 5 * i) (dk D t k * 12 + t) ((a.1 (11 + 5 * i) (dk D t k * 12 + t) &&& ((nI 255 <<< nI (8 * b)) ^^^ -1)) ||| ((nI (v k) &&& nI 255) <<< nI (8 * b)))) (11 + 5 * i) (120 + dk D t k) (nI (cn D t (fun r => p r && decide (r < k)) s.wr (dk D t k) + 1))) := by
        show fX8_store_b3 n i (fX8_store_L3 n i m) _ _ _ _ _ = _
        unfold fX8_store_b3 fX8_store_b69
        rw [h5, if_neg (by simp (disch := first | omega | assumption) only [fa_lit, nLE, nLT, nEQ, nI_add, nSA, nSUB, pk_mul, nDIV, nREM, nCL, fa_and, nx_xor, fa_or, nSHL, nSHR, nUS, n31, n255, Nat.and_one_is_mod, b_I, b_V, b_L, not_or, Nat.not_lt_zero, Nat.not_le, Nat.not_lt, not_false_eq_true, true_and, and_true, false_or, or_false, Classical.not_not, if_true, if_false, if_pos, if_neg] <;> omega), if_neg (by simp (disch := first | omega | assumption) only [fa_lit, nLE, nLT, nEQ, nI_add, nSA, nSUB, pk_mul, nDIV, nREM, nCL, fa_and, nx_xor, fa_or, nSHL, nSHR, nUS, n31, n255, Nat.and_one_is_mod, b_I, b_V, b_L, not_or, Nat.not_lt_zero, Nat.not_le, Nat.not_lt, not_false_eq_true, true_and, and_true, false_or, or_false, Classical.not_not, if_true, if_false, if_pos, if_neg, hbit] <;> omega), X_diskOf hw hR hk ht, b_I, X_rget (by omega), b_I, hB' k hk, X_putByte (by omega) ht (by omega), b_V, show (120 : Int32) + nI (dk D t k) = nI (120 + dk D t k) from nI_add 120 _, X_add (by omega), b_V, gp_k, if_neg (by omega), a1.wr _ (by omega), show nI k + 1 = nI (k + 1) from nI_add k 1]
        rw [wwr_wr, show (1 : Int32) = nI 1 from rfl, nI_add]
      have raw : ∀ e t1 b1, e < 8 → t1 < 12 → b1 < 4 → rb ((g_put a (11 + 5 * i) (dk D t k * 12 + t) ((a.1 (11 + 5 * i) (dk D t k * 12 + t) &&& ((nI 255 <<< nI (8 * b)) ^^^ -1)) ||| ((nI (v k) &&& nI 255) <<< nI (8 * b)))).1 (11 + 5 * i)) e t1 b1 = if e < D + 2 ∧ t1 = t ∧ b1 = b ∧ (p (rl D t e) && decide (rl D t e < k + 1)) = true then nI (v (rl D t e)) else rb (σ.1 (11 + 5 * i)) e t1 b1 := by
        intro e t1 b1 he ht1 hb1
        rw [rb_put ht (by omega) ht1 hb1, a3 e t1 b1 he ht1 hb1]
        by_cases z : e = dk D t k
        · subst z
          rw [hd.2]
          by_cases y : t1 = t ∧ b1 = b
          · rw [if_pos ⟨rfl, y⟩, if_pos ⟨hd.1, y.1, y.2, by simp [c]⟩, fa_and, n255 (hv k hk)]
          · rw [if_neg (fun q => y q.2), if_neg (fun q => y ⟨q.2.1, q.2.2.1⟩), if_neg (fun q => y ⟨q.2.1, q.2.2.1⟩)]
        · rw [if_neg (fun q => z q.1)]
          by_cases z2 : e < D + 2
          · have hr := rl_ok D (by omega) w1 t ht e z2
            rw [hq _ hr.1 (fun q => z (by rw [← q, hr.2]))]
          · rw [if_neg (fun q => z2 q.1), if_neg (fun q => z2 q.1)]
      refine Or.inl ⟨_, e1, ?_, fr_trans a2 (fr_trans (fr_put _ _ _ (by simp)) (fr_put _ _ _ (by simp))), ?_⟩
      · have h1 := XS_byt (B := bs D t b (fun r => p r && decide (r < k + 1)) v s.byt) (A' := (g_put a (11 + 5 * i) (dk D t k * 12 + t) ((a.1 (11 + 5 * i) (dk D t k * 12 + t) &&& ((nI 255 <<< nI (8 * b)) ^^^ -1)) ||| ((nI (v k) &&& nI 255) <<< nI (8 * b)))).1 (11 + 5 * i)) a1 (fun j hj => by rw [gp_k, if_neg (by omega)]) (by
          intro e t1 b1 he ht1 hb1 hn1
          rw [raw e t1 b1 he ht1 (by omega), bs]
          by_cases q : e < D + 2 ∧ t1 = t ∧ b1 = b ∧ (p (rl D t e) && decide (rl D t e < k + 1)) = true
          · rw [if_pos q, if_pos q]
          · rw [if_neg q, if_neg q]
            exact hX.byt e t1 b1 he ht1 hb1 hn1)
        have h := XS_wr (d := dk D t k) (x := cn D t (fun r => p r && decide (r < k)) s.wr (dk D t k) + 1) h1 (by omega)
        rw [wbyt_wr, wwr_wr, ← bump_ud, cn_bump (q := fun r => p r && decide (r < k + 1)) (by omega) w1 ht hk (by simp) (by simp [c]) hq] at h
        exact h
      · intro e t1 b1 he ht1 hb1
        rw [← raw e t1 b1 he ht1 hb1]
        unfold rb
        rw [gp_k, if_neg (by omega)]
    · simp only [c] at hbit
      have hq2 : ∀ r, r < D + 2 → (p r && decide (r < k + 1)) = (p r && decide (r < k)) := by
        intro r hr
        by_cases e : r = k
        · rw [e]; simp [c]
        · exact hq r hr e
      refine Or.inl ⟨a, ?_, ?_, a2, ?_⟩
      · show fX8_store_b3 n i (fX8_store_L3 n i m) _ _ _ _ _ = _
        unfold fX8_store_b3 fX8_store_b69
        rw [h5, if_neg (by simp (disch := first | omega | assumption) only [fa_lit, nLE, nLT, nEQ, nI_add, nSA, nSUB, pk_mul, nDIV, nREM, nCL, fa_and, nx_xor, fa_or, nSHL, nSHR, nUS, n31, n255, Nat.and_one_is_mod, b_I, b_V, b_L, not_or, Nat.not_lt_zero, Nat.not_le, Nat.not_lt, not_false_eq_true, true_and, and_true, false_or, or_false, Classical.not_not, if_true, if_false, if_pos, if_neg] <;> omega), if_pos (by simp (disch := first | omega | assumption) only [fa_lit, nLE, nLT, nEQ, nI_add, nSA, nSUB, pk_mul, nDIV, nREM, nCL, fa_and, nx_xor, fa_or, nSHL, nSHR, nUS, n31, n255, Nat.and_one_is_mod, b_I, b_V, b_L, not_or, Nat.not_lt_zero, Nat.not_le, Nat.not_lt, not_false_eq_true, true_and, and_true, false_or, or_false, Classical.not_not, if_true, if_false, if_pos, if_neg, hbit] <;> rfl), show nI k + 1 = nI (k + 1) from nI_add k 1]
      · rw [cn_ext (q := fun r => p r && decide (r < k)) (by omega) w1 ht hq2, bs_ext (q := fun r => p r && decide (r < k)) (w := v) (by omega) w1 ht hq2 (fun _ _ _ => rfl)]
        exact a1
      · intro e t1 b1 he ht1 hb1
        rw [a3 e t1 b1 he ht1 hb1]
        by_cases z2 : e < D + 2
        · have hr := rl_ok D (by omega) w1 t ht e z2
          rw [hq2 _ hr.1]
        · rw [if_neg (fun q => z2 q.1), if_neg (fun q => z2 q.1)]
  · intro m a ha
    obtain ⟨a1, a2, a3⟩ := ha
    have hE' := XE_fr hE a2 (by simp <;> omega) (by simp <;> omega) (by simp <;> omega) (by simp <;> omega)
    obtain ⟨h0, h1, h2, h3, h5, h6, h7, h8, h9⟩ := hE'.2.1
    have hq2 : ∀ r, r < D + 2 → p r = (p r && decide (r < D + 2)) := by intro r hr; simp [hr]
    refine ⟨a, ?_, ?_, a2, ?_⟩
    · show fX8_store_b3 n i (fX8_store_L3 n i m) _ _ _ _ _ = _
      unfold fX8_store_b3
      rw [h5, if_pos (by simp (disch := first | omega | assumption) only [fa_lit, nLE, nLT, nEQ, nI_add, nSA, nSUB, pk_mul, nDIV, nREM, nCL, fa_and, nx_xor, fa_or, nSHL, nSHR, nUS, n31, n255, Nat.and_one_is_mod, b_I, b_V, b_L, not_or, Nat.not_lt_zero, Nat.not_le, Nat.not_lt, not_false_eq_true, true_and, and_true, false_or, or_false, Classical.not_not, if_true, if_false, if_pos, if_neg] <;> omega)]
    · rw [cn_ext (q := fun r => p r && decide (r < D + 2)) (by omega) w1 ht hq2, bs_ext (q := fun r => p r && decide (r < D + 2)) (w := v) (by omega) w1 ht hq2 (fun _ _ _ => rfl)]
      exact a1
    · intro e t1 b1 he ht1 hb1
      rw [a3 e t1 b1 he ht1 hb1]
      by_cases z2 : e < D + 2
      · have hr := rl_ok D (by omega) w1 t ht e z2
        rw [← hq2 _ hr.1]
      · rw [if_neg (fun q => z2 q.1), if_neg (fun q => z2 q.1)]
  · rw [cn_none (by omega) w1 ht (by intro r hr; simp), bs_none (by omega) w1 ht (by intro r hr; simp)]
    exact hX
  · intro e t1 b1 he ht1 hb1
    rw [if_neg (by simp)]
/-! the reference's -/
theorem M_countsR {C w d : Nat} {s : Sh} {σ : gM} (hC : C ≤ 4) (hX : MS C s (σ.1 w) 0) (hd : d < 8) :
    ∃ σ', fX12_counts w (nI d) 0 σ = some σ' ∧ MS C (s.w_rd (bump s.rd d)) (σ'.1 w) 0 ∧ fr [w] σ σ' ∧ ∀ k, k < 384 → σ'.1 w k = σ.1 w k := by
  have e1 := hX.rd d hd
  rw [Nat.zero_add] at e1
  have e2 := hX.rds
  rw [Nat.zero_add] at e2
  refine ⟨g_put (g_put σ w (400 + d) (nI (s.rd d + 1))) w 427 (nI (s8 s.rd + 1)), ?_, MS_rd hC hX hd, fr_trans (fr_put _ _ _ (by simp)) (fr_put _ _ _ (by simp)), fun k hk => by rw [gp_k, if_neg (by omega), gp_k, if_neg (by omega)]⟩
  unfold fX12_counts fX12_counts_b14 fX12_counts_b35
  rw [if_pos rfl, show (400 : Int32) + nI d = nI (400 + d) from nI_add 400 d, nCL (by omega), if_pos (by simp (disch := first | omega | assumption) only [fa_lit, nLE, nLT, nEQ, nI_add, nSA, nSUB, pk_mul, nDIV, nREM, nCL, fa_and, nx_xor, fa_or, nSHL, nSHR, nUS, n31, n255, Nat.and_one_is_mod, b_I, b_V, b_L, not_or, Nat.not_lt_zero, Nat.not_le, Nat.not_lt, not_false_eq_true, true_and, and_true, false_or, or_false, Classical.not_not, if_true, if_false, if_pos, if_neg] <;> omega), if_pos (by simp (disch := first | omega | assumption) only [fa_lit, nLE, nLT, nEQ, nI_add, nSA, nSUB, pk_mul, nDIV, nREM, nCL, fa_and, nx_xor, fa_or, nSHL, nSHR, nUS, n31, n255, Nat.and_one_is_mod, b_I, b_V, b_L, not_or, Nat.not_lt_zero, Nat.not_le, Nat.not_lt, not_false_eq_true, true_and, and_true, false_or, or_false, Classical.not_not, if_true, if_false, if_pos, if_neg] <;> omega), b_L, if_pos rfl, show (427 : Int32) = nI 427 from rfl, nCL (by omega), if_pos (by simp (disch := first | omega | assumption) only [fa_lit, nLE, nLT, nEQ, nI_add, nSA, nSUB, pk_mul, nDIV, nREM, nCL, fa_and, nx_xor, fa_or, nSHL, nSHR, nUS, n31, n255, Nat.and_one_is_mod, b_I, b_V, b_L, not_or, Nat.not_lt_zero, Nat.not_le, Nat.not_lt, not_false_eq_true, true_and, and_true, false_or, or_false, Classical.not_not, if_true, if_false, if_pos, if_neg] <;> omega), if_pos (by simp (disch := first | omega | assumption) only [fa_lit, nLE, nLT, nEQ, nI_add, nSA, nSUB, pk_mul, nDIV, nREM, nCL, fa_and, nx_xor, fa_or, nSHL, nSHR, nUS, n31, n255, Nat.and_one_is_mod, b_I, b_V, b_L, not_or, Nat.not_lt_zero, Nat.not_le, Nat.not_lt, not_false_eq_true, true_and, and_true, false_or, or_false, Classical.not_not, if_true, if_false, if_pos, if_neg] <;> omega), b_L, gp_k, if_neg (by omega), e1, e2, show (1 : Int32) = nI 1 from rfl, nI_add, nI_add]
theorem M_countsW {C w d : Nat} {s : Sh} {σ : gM} (hC : C ≤ 4) (hX : MS C s (σ.1 w) 0) (hd : d < 8) :
    ∃ σ', fX12_counts w (nI d) 1 σ = some σ' ∧ MS C (s.w_wr (bump s.wr d)) (σ'.1 w) 0 ∧ fr [w] σ σ' ∧ ∀ k, k < 384 → σ'.1 w k = σ.1 w k := by
  have e1 := hX.wr d hd
  rw [Nat.zero_add] at e1
  have e2 := hX.wrs
  rw [Nat.zero_add] at e2
  refine ⟨g_put (g_put σ w (408 + d) (nI (s.wr d + 1))) w 428 (nI (s8 s.wr + 1)), ?_, MS_wr hC hX hd, fr_trans (fr_put _ _ _ (by simp)) (fr_put _ _ _ (by simp)), fun k hk => by rw [gp_k, if_neg (by omega), gp_k, if_neg (by omega)]⟩
  unfold fX12_counts fX12_counts_b14 fX12_counts_b35
  rw [if_neg (by decide), show (408 : Int32) + nI d = nI (408 + d) from nI_add 408 d, nCL (by omega), if_pos (by simp (disch := first | omega | assumption) only [fa_lit, nLE, nLT, nEQ, nI_add, nSA, nSUB, pk_mul, nDIV, nREM, nCL, fa_and, nx_xor, fa_or, nSHL, nSHR, nUS, n31, n255, Nat.and_one_is_mod, b_I, b_V, b_L, not_or, Nat.not_lt_zero, Nat.not_le, Nat.not_lt, not_false_eq_true, true_and, and_true, false_or, or_false, Classical.not_not, if_true, if_false, if_pos, if_neg] <;> omega), if_pos (by simp (disch := first | omega | assumption) only [fa_lit, nLE, nLT, nEQ, nI_add, nSA, nSUB, pk_mul, nDIV, nREM, nCL, fa_and, nx_xor, fa_or, nSHL, nSHR, nUS, n31, n255, Nat.and_one_is_mod, b_I, b_V, b_L, not_or, Nat.not_lt_zero, Nat.not_le, Nat.not_lt, not_false_eq_true, true_and, and_true, false_or, or_false, Classical.not_not, if_true, if_false, if_pos, if_neg] <;> omega), b_L, if_neg (by decide), show (428 : Int32) = nI 428 from rfl, nCL (by omega), if_pos (by simp (disch := first | omega | assumption) only [fa_lit, nLE, nLT, nEQ, nI_add, nSA, nSUB, pk_mul, nDIV, nREM, nCL, fa_and, nx_xor, fa_or, nSHL, nSHR, nUS, n31, n255, Nat.and_one_is_mod, b_I, b_V, b_L, not_or, Nat.not_lt_zero, Nat.not_le, Nat.not_lt, not_false_eq_true, true_and, and_true, false_or, or_false, Classical.not_not, if_true, if_false, if_pos, if_neg] <;> omega), if_pos (by simp (disch := first | omega | assumption) only [fa_lit, nLE, nLT, nEQ, nI_add, nSA, nSUB, pk_mul, nDIV, nREM, nCL, fa_and, nx_xor, fa_or, nSHL, nSHR, nUS, n31, n255, Nat.and_one_is_mod, b_I, b_V, b_L, not_or, Nat.not_lt_zero, Nat.not_le, Nat.not_lt, not_false_eq_true, true_and, and_true, false_or, or_false, Classical.not_not, if_true, if_false, if_pos, if_neg] <;> omega), b_L, gp_k, if_neg (by omega), e1, e2, show (1 : Int32) = nI 1 from rfl, nI_add, nI_add]
theorem M_countsRole {D S C F w t r : Nat} {s : Sh} {σ : gM} (hE : ME D S C F σ) (hX : MS C s (σ.1 w) 0) (ht : t < 12) (hr : r < D + 2) :
    ∃ σ', fX12_countsRole w (nI t) (nI r) 0 σ = some σ' ∧ MS C (s.w_rd (bump s.rd (dk D t r))) (σ'.1 w) 0 ∧ fr [w] σ σ' ∧ ∀ k, k < 384 → σ'.1 w k = σ.1 w k := by
  have hw := hE.1
  have hw' := hw
  obtain ⟨w1, w2, w3, w4, w5, w6, w7⟩ := hw'
  have hd := dk_ok D (by omega) w1 t ht r hr
  obtain ⟨σ', e1, h1, h2, h3⟩ := M_countsR w6 hX (show dk D t r < 8 by omega)
  refine ⟨σ', ?_, h1, h2, h3⟩
  unfold fX12_countsRole
  rw [M_diskOf hw hE.2.1 hr ht, b_I, e1, b_V]
theorem M_puts {D S C F w t b r x : Nat} {s : Sh} {σ : gM} (hE : ME D S C F σ) (hX : MS C s (σ.1 w) 0) (ht : t < 12) (hb : b < C) (hr : r < D + 2) :
    ∃ σ', fX12_puts w (nI t) (nI b) (nI r) (nI x) σ = some σ' ∧ MS C ((s.w_byt (fun e t1 b1 => if e = dk D t r ∧ t1 = t ∧ b1 = b then x else s.byt e t1 b1)).w_wr (bump s.wr (dk D t r))) (σ'.1 w) 0 ∧ fr [w] σ σ' ∧ ∀ k, k < 384 → σ'.1 w k = if k = 48 * dk D t r + 4 * t + b then nI x else σ.1 w k := by
  have hw := hE.1
  have hw' := hw
  obtain ⟨w1, w2, w3, w4, w5, w6, w7⟩ := hw'
  have hd := dk_ok D (by omega) w1 t ht r hr
  have h0 := MS_byt (d := dk D t r) (t := t) (b := b) (x := x) w6 hX (by omega) ht (by omega)
  obtain ⟨σ', e1, h1, h2, h3⟩ := M_countsW w6 h0 (show dk D t r < 8 by omega)
  refine ⟨σ', ?_, h1, fr_trans (fr_put _ _ _ (by simp)) h2, fun k hk => by rw [h3 k hk, gp_k]⟩
  unfold fX12_puts
  rw [M_diskOf hw hE.2.1 hr ht, b_I, M_spot (by omega) ht (by omega), b_I, nCL (by omega), if_pos (by simp (disch := first | omega | assumption) only [fa_lit, nLE, nLT, nEQ, nI_add, nSA, nSUB, pk_mul, nDIV, nREM, nCL, fa_and, nx_xor, fa_or, nSHL, nSHR, nUS, n31, n255, Nat.and_one_is_mod, b_I, b_V, b_L, not_or, Nat.not_lt_zero, Nat.not_le, Nat.not_lt, not_false_eq_true, true_and, and_true, false_or, or_false, Classical.not_not, if_true, if_false, if_pos, if_neg] <;> omega), b_L, e1, b_V]
