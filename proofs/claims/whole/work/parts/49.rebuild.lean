/-! a byte rebuilt -/
def rbB (F D : Nat) (s : Sh) (t b k : Nat) : Sh := ((s.w_rd (cn D t (th D s t) s.rd)).w_byt (bs D t b (fun r => decide (r = k)) (gv F D s t b) s.byt)).w_wr (cn D t (fun r => decide (r = k)) s.wr)
theorem X_rebByte {D S C F n i t b d : Nat} {s : Sh} {σ : gM} (hn : 20 ≤ n) (hE : XE D S C F σ) (hO : Ok D S C s) (hX : XS C s (σ.1 (11 + 5 * i))) (ht : t < S) (hb : b < C) (hd : d < D + 2) (K30 : Int32 → Int32 → Int32 → gM → Option (Int32 × gM)) (K48 : Int32 → Int32 → Int32 → Int32 → Int32 → gM → Option (Int32 × gM)) (x : Int32) :
    ∃ σ', fX8_doRebuild_b48 n i K30 K48 (nI d) x (nI t) (nI (bm (fun r => !th D s t r) (D + 2))) (nI b) σ = K48 (nI d) x (nI t) (nI (bm (fun r => !th D s t r) (D + 2))) (nI (b + 1)) σ' ∧ XS C (rbB F D s t b (rl D t d)) (σ'.1 (11 + 5 * i)) ∧ fr [11 + 5 * i, 13 + 5 * i] σ σ' ∧ ∀ e t1 b1, e < 8 → t1 < 12 → b1 < 4 → rb (σ'.1 (11 + 5 * i)) e t1 b1 = if e = d ∧ t1 = t ∧ b1 = b then nI (gv F D s t b (rl D t d)) else rb (σ.1 (11 + 5 * i)) e t1 b1 := by
  have hw := hE.1
  have hw' := hw
  obtain ⟨w1, w2, w3, w4, w5, w6, w7⟩ := hw'
  have ht12 : t < 12 := by omega
  have h2 := th_two (by omega) w1 w4 ht hO
  have hr := rl_ok D (by omega) w1 t ht12 d hd
  obtain ⟨σ1, e1, B1, f1⟩ := X_gather (is := th D s t) hn hE hX hO.byt ht12 hb (fun r _ h => h) h2
  have hE1 := XE_fr hE f1 (by simp <;> omega) (by simp <;> omega) (by simp <;> omega) (by simp <;> omega)
  have hv : ∀ r, r < D + 2 → gv F D s t b r < 256 := so_lt w7 (fun r _ => th_lt hO.byt r)
  have X1 : XS C s (σ1.1 (11 + 5 * i)) := by rw [f1.1 _ (by simp <;> omega)]; exact hX
  have em : nI (2 ^ (D + 2) - 1) &&& (nI (bm (fun r => !th D s t r) (D + 2)) ^^^ -1) = nI (bm (th D s t) (D + 2)) := by
    rw [nANDN, bm_all, bm_not]
    congr 1
    exact bm_ext fun r _ => by simp
  obtain ⟨σ2, e2, X2, f2, r2⟩ := X_countReads (p := th D s t) hn hE1 X1 ht12
  have hE2 := XE_fr hE1 f2 (by simp <;> omega) (by simp <;> omega) (by simp <;> omega) (by simp <;> omega)
  have B2 := XB_fr B1 f2 (by simp <;> omega)
  obtain ⟨σ3, e3, X3, f3, r3⟩ := X_store (p := fun r => decide (r = rl D t d)) (t := t) (b := b) hn hE2 X2 B2 hv ht12 hb
  rw [← bm_one hr.1] at e3
  obtain ⟨h0, h1, h2', h3, h5, h6, h7, h8, h9⟩ := hE.2.1
  obtain ⟨g0, g1, g2, g3, g5, g6, g7, g8, g9⟩ := hE1.2.1
  refine ⟨σ3, ?_, X3, fr_trans (fr_mono f1 (by simp)) (fr_trans (fr_mono f2 (by simp)) (fr_mono f3 (by simp))), ?_⟩
  · unfold fX8_doRebuild_b48
    rw [h2', if_neg (by simp (disch := first | omega | assumption) only [fa_lit, nLE, nLT, nEQ, nI_add, nSA, nSUB, pk_mul, nDIV, nREM, nCL, fa_and, nx_xor, fa_or, nSHL, nSHR, nUS, n31, n255, Nat.and_one_is_mod, b_I, b_V, b_L, not_or, Nat.not_lt_zero, Nat.not_le, Nat.not_lt, not_false_eq_true, true_and, and_true, false_or, or_false, Classical.not_not, if_true, if_false, if_pos, if_neg] <;> omega), e1, b_V, g9, em, e2, b_V, X_partOn hw hE2.2.1 hd ht12, b_I, sh1 (by omega), e3, b_V, show nI b + 1 = nI (b + 1) from nI_add b 1]
  · intro e t1 b1 he ht1 hb1
    rw [r3 e t1 b1 he ht1 hb1]
    have er : rb (σ2.1 (11 + 5 * i)) e t1 b1 = rb (σ.1 (11 + 5 * i)) e t1 b1 := by
      unfold rb
      rw [r2 _ (by omega), f1.1 _ (by simp <;> omega)]
    rw [er]
    by_cases c : e = d ∧ t1 = t ∧ b1 = b
    · rw [if_pos c, if_pos ⟨by omega, c.2.1, c.2.2, by rw [c.1]; simp⟩, c.1]
      rfl
    · rw [if_neg c, if_neg]
      intro z
      apply c
      refine ⟨?_, z.2.1, z.2.2.1⟩
      have q : rl D t e = rl D t d := by simpa using z.2.2.2
      rw [← (rl_ok D (by omega) w1 t ht12 e z.1).2, q, hr.2]
theorem M_rebByte {D S C F n w t b d : Nat} {s : Sh} {σ : gM} (hn : 20 ≤ n) (hE : ME D S C F σ) (hO : Ok D S C s) (hX : MS C s (σ.1 w) 0) (hw1 : 10 ≤ w) (hw2 : w ≤ 13) (ht : t < S) (hb : b < C) (hd : d < D + 2) (K19 : Int32 → Int32 → Int32 → Int32 → gM → Option gM) (x : Int32) :
    ∃ σ', fX12_rebuilds_b19 n w K19 x (nI t) (nI (rl D t d)) (nI b) σ = K19 x (nI t) (nI (rl D t d)) (nI (b + 1)) σ' ∧ MS C (rbB F D s t b (rl D t d)) (σ'.1 w) 0 ∧ fr [w, 14, 15] σ σ' ∧ ∀ j, j < 384 → σ'.1 w j = if j = 48 * d + 4 * t + b then nI (gv F D s t b (rl D t d)) else σ.1 w j := by
  obtain ⟨w1, w2, w3, w4, w5, w6, w7⟩ := hE.1
  have ht12 : t < 12 := by omega
  have h2 := th_two (by omega) w1 w4 ht hO
  have hr := rl_ok D (by omega) w1 t ht12 d hd
  obtain ⟨σ1, e1, V1, I1, f1⟩ := M_laysOne hn hE hO hX (by omega) (by omega) ht hb
  have hE1 := ME_fr hE f1 (by simp) (by simp) (by simp) (by simp)
  have X1 : MS C s (σ1.1 w) 0 := by rw [f1.1 w (by simp; omega)]; exact hX
  have wf2 : ∀ {σa σb : gM}, ME D S C F σa → fr [w] σa σb → ME D S C F σb := fun h f => ME_fr h f (by simp; omega) (by simp; omega) (by simp; omega) (by simp; omega)
  obtain ⟨h0, h1, h2', h3, h5, h6⟩ := hE.2.1
  unfold fX12_rebuilds_b19
  rw [h2', if_neg (by simp (disch := first | omega | assumption) only [fa_lit, nLE, nLT, nEQ, nI_add, nSA, nSUB, pk_mul, nDIV, nREM, nCL, fa_and, nx_xor, fa_or, nSHL, nSHR, nUS, n31, n255, Nat.and_one_is_mod, b_I, b_V, b_L, not_or, Nat.not_lt_zero, Nat.not_le, Nat.not_lt, not_false_eq_true, true_and, and_true, false_or, or_false, Classical.not_not, if_true, if_false, if_pos, if_neg] <;> omega), e1, b_V]
  refine lp (L := fun m k a => fX12_rebuilds_L43 n w K19 m x (nI t) (nI (rl D t d)) (nI b) (nI k) a) (I := fun k a => MS C (s.w_rd (cn D t (fun r => th D s t r && decide (r < k)) s.rd)) (a.1 w) 0 ∧ fr [w] σ1 a ∧ ∀ j, j < 384 → a.1 w j = σ.1 w j) (Q := fun o => ∃ σ', o = K19 x (nI t) (nI (rl D t d)) (nI (b + 1)) σ' ∧ MS C (rbB F D s t b (rl D t d)) (σ'.1 w) 0 ∧ fr [w, 14, 15] σ σ' ∧ ∀ j, j < 384 → σ'.1 w j = if j = 48 * d + 4 * t + b then nI (gv F D s t b (rl D t d)) else σ.1 w j) (N := D + 2) ?_ ?_ (D + 2) n 0 σ1 (by omega) (by omega) ⟨?_, fr_refl _ _, fun j _ => by rw [f1.1 w (by simp; omega)]⟩
  · intro m k a hk ha
    obtain ⟨a1, a2, a3⟩ := ha
    have hEa := wf2 hE1 a2
    have Ia := MI_fr I1 a2 (by simp; omega)
    obtain ⟨g0, g1, g2, g3, g5, g6⟩ := hEa.2.1
    have hp : ∀ r, r < D + 2 → r ≠ k → (th D s t r && decide (r < k + 1)) = (th D s t r && decide (r < k)) := by
      intro r hr hne
      have : decide (r < k + 1) = decide (r < k) := by apply decide_eq_decide.mpr; omega
      rw [this]
    left
    show ∃ a', fX12_rebuilds_b43 n w K19 (fX12_rebuilds_L43 n w K19 m) x (nI t) (nI (rl D t d)) (nI b) (nI k) a = _ ∧ _
    unfold fX12_rebuilds_b43 fX12_rebuilds_b71
    rw [g5, if_neg (by simp (disch := first | omega | assumption) only [fa_lit, nLE, nLT, nEQ, nI_add, nSA, nSUB, pk_mul, nDIV, nREM, nCL, fa_and, nx_xor, fa_or, nSHL, nSHR, nUS, n31, n255, Nat.and_one_is_mod, b_I, b_V, b_L, not_or, Nat.not_lt_zero, Nat.not_le, Nat.not_lt, not_false_eq_true, true_and, and_true, false_or, or_false, Classical.not_not, if_true, if_false, if_pos, if_neg] <;> omega), nCL (by omega), if_pos (by simp (disch := first | omega | assumption) only [fa_lit, nLE, nLT, nEQ, nI_add, nSA, nSUB, pk_mul, nDIV, nREM, nCL, fa_and, nx_xor, fa_or, nSHL, nSHR, nUS, n31, n255, Nat.and_one_is_mod, b_I, b_V, b_L, not_or, Nat.not_lt_zero, Nat.not_le, Nat.not_lt, not_false_eq_true, true_and, and_true, false_or, or_false, Classical.not_not, if_true, if_false, if_pos, if_neg] <;> omega), Ia k hk, show nI k + 1 = nI (k + 1) from nI_add k 1]
    by_cases c : th D s t k = true
    · obtain ⟨σ', e, X', f', r'⟩ := M_countsRole hEa a1 ht12 hk
      rw [if_pos c, if_neg (by decide), e, b_V]
      refine ⟨σ', rfl, ?_, fr_trans a2 f', fun j hj => by rw [r' j hj, a3 j hj]⟩
      rw [wrd_rd, cn_bump (q := fun r => th D s t r && decide (r < k + 1)) (by omega) w1 ht12 hk (by simp) (by simp [c]) hp] at X'
      exact X'
    · rw [if_neg c, if_pos (show nI 0 = 0 from rfl)]
      refine ⟨a, rfl, ?_, a2, a3⟩
      rw [cn_ext (q := fun r => th D s t r && decide (r < k)) (by omega) w1 ht12 (by
        intro r hr
        by_cases e : r = k
        · rw [e]; simp [c]
        · exact hp r hr e)]
      exact a1
  · intro m a ha
    obtain ⟨a1, a2, a3⟩ := ha
    have hEa := wf2 hE1 a2
    have Ia := MI_fr I1 a2 (by simp; omega)
    have Va := MV_fr V1 a2 (by simp; omega)
    obtain ⟨g0, g1, g2, g3, g5, g6⟩ := hEa.2.1
    obtain ⟨σ2, e2, V2, f2⟩ := M_solves hn hEa Va Ia (fun r _ => th_lt hO.byt r) (fun r _ h => vl_0 h) h2
    have hE2 := ME_fr hEa f2 (by simp) (by simp) (by simp) (by simp)
    have X2 : MS C (((s.w_rd (cn D t (th D s t) s.rd)).w_byt (bs D t b (fun _ => false) (gv F D s t b) (s.w_rd (cn D t (th D s t) s.rd)).byt)).w_wr (cn D t (fun _ => false) (s.w_rd (cn D t (th D s t) s.rd)).wr)) (σ2.1 w) 0 := by
      rw [cn_none (p := fun _ => false) (by omega) w1 ht12 (fun _ _ => rfl), bs_none (by omega) w1 ht12 (fun _ _ => rfl), f2.1 w (by simp; omega)]
      rw [cn_ext (q := fun r => th D s t r && decide (r < D + 2)) (by omega) w1 ht12 (by intro r hr; simp [hr])]
      exact a1
    obtain ⟨σ3, e3, X3, f3, r3⟩ := M_putsS (q := fun r => decide (r = rl D t d)) (k := rl D t d) hE2 X2 ht12 hb hr.1 rfl (by simp) (by intro r _ hne; simp [hne])
    rw [hr.2] at r3
    refine ⟨σ3, ?_, X3, fr_trans (fr_mono f1 (by simp)) (fr_trans (fr_mono a2 (by simp)) (fr_trans (fr_mono f2 (by simp)) (fr_mono f3 (by simp)))), ?_⟩
    · show fX12_rebuilds_b43 n w K19 (fX12_rebuilds_L43 n w K19 m) x (nI t) (nI (rl D t d)) (nI b) (nI (D + 2)) a = _
      unfold fX12_rebuilds_b43
      rw [g5, if_pos (by simp (disch := first | omega | assumption) only [fa_lit, nLE, nLT, nEQ, nI_add, nSA, nSUB, pk_mul, nDIV, nREM, nCL, fa_and, nx_xor, fa_or, nSHL, nSHR, nUS, n31, n255, Nat.and_one_is_mod, b_I, b_V, b_L, not_or, Nat.not_lt_zero, Nat.not_le, Nat.not_lt, not_false_eq_true, true_and, and_true, false_or, or_false, Classical.not_not, if_true, if_false, if_pos, if_neg] <;> omega), e2, b_V, nCL (by omega), if_pos (by simp (disch := first | omega | assumption) only [fa_lit, nLE, nLT, nEQ, nI_add, nSA, nSUB, pk_mul, nDIV, nREM, nCL, fa_and, nx_xor, fa_or, nSHL, nSHR, nUS, n31, n255, Nat.and_one_is_mod, b_I, b_V, b_L, not_or, Nat.not_lt_zero, Nat.not_le, Nat.not_lt, not_false_eq_true, true_and, and_true, false_or, or_false, Classical.not_not, if_true, if_false, if_pos, if_neg] <;> omega), V2 _ hr.1]
      have eg : so F D (th D s t) (vl D s t b (th D s t)) (rl D t d) = gv F D s t b (rl D t d) := rfl
      rw [eg, e3, b_V, show nI b + 1 = nI (b + 1) from nI_add b 1]
    · intro j hj
      rw [r3 j hj, f2.1 w (by simp; omega), a3 j hj]
  · rw [cn_none (by omega) w1 ht12 (by intro r hr; simp)]
    exact X1
