/-! the reference tears -/
theorem M_countS {D S C F w t k : Nat} {s : Sh} {σ : gM} {p q : Nat → Bool} (hE : ME D S C F σ) (hX : MS C (s.w_rd (cn D t p s.rd)) (σ.1 w) 0) (ht : t < 12) (hk : k < D + 2) (hp : p k = false) (hq : q k = true) (h : ∀ r, r < D + 2 → r ≠ k → q r = p r) :
    ∃ σ', fX12_countsRole w (nI t) (nI k) 0 σ = some σ' ∧ MS C (s.w_rd (cn D t q s.rd)) (σ'.1 w) 0 ∧ fr [w] σ σ' := by
  obtain ⟨w1, w2, w3, w4, w5, w6, w7⟩ := hE.1
  obtain ⟨σ', e1, h1, h2, _⟩ := M_countsRole hE hX ht hk
  refine ⟨σ', e1, ?_, h2⟩
  rw [wrd_rd, cn_bump (by omega) w1 ht hk hp hq h] at h1
  exact h1
theorem M_tears {D S C F n w a x how : Nat} {s : Sh} {σ : gM} (hn : 40 ≤ n) (hE : ME D S C F σ) (hO : Ok D S C s) (hX : MS C s (σ.1 w) 0) (hw1 : 10 ≤ w) (hw2 : w ≤ 13) (ha : a < D * S * C) (hx : x < 256) (hh : how < 3) (tp : th D s (a / C / D) (a / C % D) = true) (tD : th D s (a / C / D) D = true) (tQ : th D s (a / C / D) (D + 1) = true) :
    ∃ σ', fX12_tears n w (nI a) (nI x) (nI how) σ = some σ' ∧ MS C (teS F D s (a / C / D) (a % C) (a / C % D) x how) (σ'.1 w) 0 ∧ fr [w, 14, 15] σ σ' := by
  have hw := hE.1
  have hw' := hw
  obtain ⟨w1, w2, w3, w4, w5, w6, w7⟩ := hw'
  have hR := hE.2.1
  have ha' := ad_1000 w2 w4 w6 ha
  obtain ⟨at1, at2, at3⟩ := ad_lt w5 w1 ha
  obtain ⟨σ1, e1, V1, I1, f1⟩ := M_laysOne (n := n) (by omega) hE hO hX (by omega) (by omega) at1 at3
  generalize ht : a / C / D = t at *
  generalize hb : a % C = b at *
  generalize hp : a / C % D = part at *
  have h2 := th_two (by omega) w1 w4 at1 hO
  have ht12 : t < 12 := by omega
  have wf : ∀ {σa σb : gM}, ME D S C F σa → fr [w] σa σb → ME D S C F σb := fun h f => ME_fr h f (by simp; omega) (by simp; omega) (by simp; omega) (by simp; omega)
  have hE1 := ME_fr hE f1 (by simp) (by simp) (by simp) (by simp)
  have X1 : MS C (s.w_rd (cn D t (fun _ => false) s.rd)) (σ1.1 w) 0 := by
    rw [cn_none (by omega) w1 ht12 (fun _ _ => rfl), f1.1 w (by simp; omega)]; exact hX
  obtain ⟨σ2, e2, X2, f2⟩ := M_countS (q := fun r => decide (r = part)) hE1 X1 ht12 (show part < D + 2 by omega) rfl (by simp) (by intro r _ hne; simp [hne])
  have hE2 := wf hE1 f2
  obtain ⟨σ3, e3, X3, f3⟩ := M_countS (q := fun r => decide (r = part) || decide (r = D)) hE2 X2 ht12 (show D < D + 2 by omega) (by
    have : ¬ D = part := by omega
    simp [this]) (by simp) (by intro r _ hne; simp [hne])
  have hE3 := wf hE2 f3
  obtain ⟨σ4, e4, X4, f4⟩ := M_countS (q := wp D (th D s t) part) hE3 X3 ht12 (show D + 1 < D + 2 by omega) (by
    have : ¬ D + 1 = part := by omega
    simp [this]) (by simp [wp, tQ]) (by
    intro r _ hne
    by_cases c1 : r = part
    · rw [c1]; simp [wp, tp]
    · by_cases c2 : r = D
      · rw [c2]; simp [wp, tD]
      · simp [wp, c1, c2, hne])
  have hE4 := wf hE3 f4
  have F4 : fr [w] σ1 σ4 := fr_trans f2 (fr_trans f3 f4)
  have G4 : fr [w, 14, 15] σ σ4 := fr_trans (fr_mono f1 (by simp)) (fr_mono F4 (by simp))
  have V4 := MV_fr V1 F4 (by simp; omega)
  have nV : nr F D (gv F D s t b) part x 0 part = x := by
    show ud (ud (ud _ part x) D _) (D + 1) _ part = x
    rw [ud_ne (by omega), ud_ne (by omega), ud_eq]
  have nD : nr F D (gv F D s t b) part x 0 D = vl D s t b (th D s t) D ^^^ vl D s t b (th D s t) part ^^^ x := by
    show ud (ud (ud _ part x) D _) (D + 1) _ D = _
    rw [ud_ne (by omega), ud_eq, gv, so_is h2 tD, so_is h2 tp, Nat.xor_assoc]
  have last : ∀ σ5, MS C (((s.w_rd (cn D t (wp D (th D s t) part) s.rd)).w_byt (bs D t b (pT D part how) (nr F D (gv F D s t b) part x 0) s.byt)).w_wr (cn D t (pT D part how) s.wr)) (σ5.1 w) 0 → fr [w, 14, 15] σ σ5 → ∃ σ', fX12_tears_b123 n w (nI t) σ5 = some σ' ∧ MS C (teS F D s t b part x how) (σ'.1 w) 0 ∧ fr [w, 14, 15] σ σ' := by
    intro σ5 X5 f5
    have X6 := MS_di (x := s.di ||| 2 ^ t) w6 X5
    have ed := X5.di
    rw [Nat.zero_add] at ed
    have ed' : σ5.1 w 425 = nI s.di := ed
    unfold fX12_tears_b123
    rw [ed', sh1 (by omega), fa_or, b_L]
    exact ⟨_, rfl, X6, fr_trans f5 (fr_put _ _ _ (by simp))⟩
  unfold fX12_tears
  rw [M_stripeOf hw hR ha', b_I, M_byteOf hw hR ha', b_I, M_partOf hw hR ha', b_I, ht, hb, hp, e1, b_V, e2, b_V, hR.1, e3, b_V, show nI D + 1 = nI (D + 1) from nI_add D 1, e4, b_V]
  by_cases c0 : how = 0
  · rw [if_pos (by rw [c0]; decide)]
    unfold fX12_tears_b89
    rw [if_pos (by rw [c0]; decide)]
    refine last σ4 ?_ G4
    have hq : ∀ r, r < D + 2 → pT D part how r = false := by intro r _; simp [pT, c0]
    rw [cn_none (by omega) w1 ht12 hq, bs_none (by omega) w1 ht12 hq]
    exact X4
  · rw [if_neg (by simp (disch := first | omega | assumption) only [fa_lit, nLE, nLT, nEQ, nI_add, nSA, nSUB, pk_mul, nDIV, nREM, nCL, fa_and, nx_xor, fa_or, nSHL, nSHR, nUS, n31, n255, Nat.and_one_is_mod, b_I, b_V, b_L, not_or, Nat.not_lt_zero, Nat.not_le, Nat.not_lt, not_false_eq_true, true_and, and_true, false_or, or_false, Classical.not_not, if_true, if_false, if_pos, if_neg] <;> omega)]
    have X40 : MS C (((s.w_rd (cn D t (wp D (th D s t) part) s.rd)).w_byt (bs D t b (fun _ => false) (nr F D (gv F D s t b) part x 0) (s.w_rd (cn D t (wp D (th D s t) part) s.rd)).byt)).w_wr (cn D t (fun _ => false) (s.w_rd (cn D t (wp D (th D s t) part) s.rd)).wr)) (σ4.1 w) 0 := by
      rw [cn_none (by omega) w1 ht12 (fun _ _ => rfl), bs_none (by omega) w1 ht12 (fun _ _ => rfl)]
      exact X4
    obtain ⟨σ5, e5, X5, f5, _⟩ := M_putsS (q := fun r => decide (r = part)) (k := part) hE4 X40 ht12 at3 (by omega) rfl (by simp) (by intro r _ hne; simp [hne])
    rw [nV] at e5
    have hE5 := wf hE4 f5
    have V5 := MV_fr V4 f5 (by simp; omega)
    have G5 := fr_trans G4 (fr_mono (L' := [w, 14, 15]) f5 (by simp))
    rw [e5, b_V]
    unfold fX12_tears_b89
    by_cases c1 : how = 1
    · rw [if_pos (by rw [c1]; decide)]
      refine last σ5 ?_ G5
      have hq : ∀ r, r < D + 2 → pT D part how r = decide (r = part) := by intro r _; simp [pT, c1]
      rw [cn_ext (by omega) w1 ht12 hq, bs_ext (w := nr F D (gv F D s t b) part x 0) (by omega) w1 ht12 hq (fun _ _ _ => rfl)]
      exact X5
    · have c2 : how = 2 := by omega
      rw [if_neg (by rw [c2]; decide), nCL (by omega), nCL (by omega), if_pos (by simp (disch := first | omega | assumption) only [fa_lit, nLE, nLT, nEQ, nI_add, nSA, nSUB, pk_mul, nDIV, nREM, nCL, fa_and, nx_xor, fa_or, nSHL, nSHR, nUS, n31, n255, Nat.and_one_is_mod, b_I, b_V, b_L, not_or, Nat.not_lt_zero, Nat.not_le, Nat.not_lt, not_false_eq_true, true_and, and_true, false_or, or_false, Classical.not_not, if_true, if_false, if_pos, if_neg] <;> omega), if_pos (by simp (disch := first | omega | assumption) only [fa_lit, nLE, nLT, nEQ, nI_add, nSA, nSUB, pk_mul, nDIV, nREM, nCL, fa_and, nx_xor, fa_or, nSHL, nSHR, nUS, n31, n255, Nat.and_one_is_mod, b_I, b_V, b_L, not_or, Nat.not_lt_zero, Nat.not_le, Nat.not_lt, not_false_eq_true, true_and, and_true, false_or, or_false, Classical.not_not, if_true, if_false, if_pos, if_neg] <;> omega), V5 D (by omega), V5 part (by omega), nx_xor, nx_xor, ← nD]
      obtain ⟨σ6, e6, X6, f6, _⟩ := M_putsS (q := fun r => decide (r = part) || decide (r = D)) (k := D) hE5 X5 ht12 at3 (by omega) (by
        have : ¬ D = part := by omega
        simp [this]) (by simp) (by intro r _ hne; simp [hne])
      rw [e6, b_V]
      refine last σ6 ?_ (fr_trans G5 (fr_mono f6 (by simp)))
      have hq : ∀ r, r < D + 2 → pT D part how r = (decide (r = part) || decide (r = D)) := by intro r _; simp [pT, c2]
      rw [cn_ext (by omega) w1 ht12 hq, bs_ext (w := nr F D (gv F D s t b) part x 0) (by omega) w1 ht12 hq (fun _ _ _ => rfl)]
      exact X6
