/-! the reference's write, whole -/
theorem wy_0 {D part : Nat} {is : Nat → Bool} (h : wy D is part = 0) : is part = true := by
  unfold wy at h
  by_cases c : is part = true
  · exact c
  · rw [if_neg c] at h
    split at h <;> omega
theorem M_writes {D S C F n w a x : Nat} {s : Sh} {σ : gM} (hn : 20 ≤ n) (hE : ME D S C F σ) (hO : Ok D S C s) (hX : MS C s (σ.1 w) 0) (hw1 : 10 ≤ w) (hw2 : w ≤ 13) (ha : a < D * S * C) (hx : x < 256) :
    ∃ σ', fX12_writes n w (nI a) (nI x) σ = some σ' ∧ MS C (wS F D s (a / C / D) (a % C) (a / C % D) x) (σ'.1 w) 0 ∧ gj [w, 14, 15] [26, 27, 28] σ σ' := by
  have hw := hE.1
  have hw' := hw
  obtain ⟨w1, w2, w3, w4, w5, w6, w7⟩ := hw'
  have ha' := ad_1000 w2 w4 w6 ha
  obtain ⟨at1, at2, at3⟩ := ad_lt w5 w1 ha
  obtain ⟨σ1, e1, V1, I1, f1⟩ := M_laysOne hn hE hO hX (by omega) (by omega) at1 at3
  have hE1 := ME_fr hE f1 (by simp) (by simp) (by simp) (by simp)
  have h2 := th_two (by omega) w1 w4 at1 hO
  generalize ht : a / C / D = t at *
  generalize hb : a % C = b at *
  generalize hp : a / C % D = part at *
  obtain ⟨σ2, e2, q26, _, _, g2⟩ := M_chooses hn hE1 I1 at2 h2
  have hE2 := ME_gj hE1 g2 (by simp) (by simp) (by simp) (by simp) (by simp)
  have X2 : MS C s (σ2.1 w) 0 := by
    rw [g2.1 w (by simp) (by omega), f1.1 w (by simp; omega)]; exact hX
  have V2 := MV_gj V1 g2 (by simp)
  have I2 := MI_gj I1 g2 (by simp)
  have hv0 : ∀ r, r < D + 2 → vl D s t b (th D s t) r < 256 := fun r _ => th_lt hO.byt r
  have hv : ∀ r, r < D + 2 → gv F D s t b r < 256 := so_lt w7 hv0
  have G2 : gj [w, 14, 15] [26, 27, 28] σ σ2 := gj_trans (gj_mono (gj_fr (J := []) f1 (by simp)) (by simp) (by simp)) (gj_mono g2 (by simp) (by simp))
  have h014 : (0 : Nat) ∉ [w, 14, 15] := by simp; omega
  have eV : nr F D (gv F D s t b) part x (wy D (th D s t) part) part = x := by
    unfold nr
    split
    · rw [ud_ne (by omega), ud_ne (by omega), ud_eq]
    · rw [ud_ne (by omega), ud_ne (by omega), ud_eq]
  -- after the counting
  have fin : ∀ m a0, ME D S C F a0 → fr [w] σ2 a0 → MS C (s.w_rd (cn D t (rp D (th D s t) part (wy D (th D s t) part)) s.rd)) (a0.1 w) 0 → ∃ σ', fX12_writes_b49 n w (fX12_writes_L49 n w m) (nI x) (nI t) (nI b) (nI part) (nI D) (nI (D + 2)) a0 = some σ' ∧ MS C (wS F D s t b part x) (σ'.1 w) 0 ∧ gj [w, 14, 15] [26, 27, 28] σ σ' := by
    intro m a0 hEa fa Xa
    have Va := MV_fr V2 fa (by simp; omega)
    have Ia := MI_fr I2 fa (by simp; omega)
    have q26a : a0.1 0 26 = nI (wy D (th D s t) part) := by rw [fa.1 0 (by simp; omega)]; exact q26
    have Ga : gj [w, 14, 15] [26, 27, 28] σ a0 := gj_trans G2 (gj_fr (fr_mono fa (by simp)) h014)
    obtain ⟨g0, g1, g2', g3, g5, g6⟩ := hEa.2.1
    have eQ : nI D + 1 = nI (D + 1) := nI_add D 1
    unfold fX12_writes_b49
    rw [g5, if_pos (by simp (disch := first | omega | assumption) only [fa_lit, nLE, nLT, nEQ, nI_add, nSA, nSUB, pk_mul, nDIV, nREM, nCL, fa_and, nx_xor, fa_or, nSHL, nSHR, nUS, n31, n255, Nat.and_one_is_mod, b_I, b_V, b_L, not_or, Nat.not_lt_zero, Nat.not_le, Nat.not_lt, not_false_eq_true, true_and, and_true, false_or, or_false, Classical.not_not, if_true, if_false, if_pos, if_neg] <;> omega), eQ, nCL (by omega), nCL (by omega), nCL (by omega), if_pos (by simp (disch := first | omega | assumption) only [fa_lit, nLE, nLT, nEQ, nI_add, nSA, nSUB, pk_mul, nDIV, nREM, nCL, fa_and, nx_xor, fa_or, nSHL, nSHR, nUS, n31, n255, Nat.and_one_is_mod, b_I, b_V, b_L, not_or, Nat.not_lt_zero, Nat.not_le, Nat.not_lt, not_false_eq_true, true_and, and_true, false_or, or_false, Classical.not_not, if_true, if_false, if_pos, if_neg] <;> omega), if_pos (by simp (disch := first | omega | assumption) only [fa_lit, nLE, nLT, nEQ, nI_add, nSA, nSUB, pk_mul, nDIV, nREM, nCL, fa_and, nx_xor, fa_or, nSHL, nSHR, nUS, n31, n255, Nat.and_one_is_mod, b_I, b_V, b_L, not_or, Nat.not_lt_zero, Nat.not_le, Nat.not_lt, not_false_eq_true, true_and, and_true, false_or, or_false, Classical.not_not, if_true, if_false, if_pos, if_neg] <;> omega), if_pos (by simp (disch := first | omega | assumption) only [fa_lit, nLE, nLT, nEQ, nI_add, nSA, nSUB, pk_mul, nDIV, nREM, nCL, fa_and, nx_xor, fa_or, nSHL, nSHR, nUS, n31, n255, Nat.and_one_is_mod, b_I, b_V, b_L, not_or, Nat.not_lt_zero, Nat.not_le, Nat.not_lt, not_false_eq_true, true_and, and_true, false_or, or_false, Classical.not_not, if_true, if_false, if_pos, if_neg] <;> omega), if_pos (by simp (disch := first | omega | assumption) only [fa_lit, nLE, nLT, nEQ, nI_add, nSA, nSUB, pk_mul, nDIV, nREM, nCL, fa_and, nx_xor, fa_or, nSHL, nSHR, nUS, n31, n255, Nat.and_one_is_mod, b_I, b_V, b_L, not_or, Nat.not_lt_zero, Nat.not_le, Nat.not_lt, not_false_eq_true, true_and, and_true, false_or, or_false, Classical.not_not, if_true, if_false, if_pos, if_neg] <;> omega), q26a, Ia part (by omega), Ia D (by omega), Ia (D + 1) (by omega)]
    by_cases c : wy D (th D s t) part = 0
    · have hpi := wy_0 c
      rw [if_pos (by rw [c]; rfl), if_pos (by simp (disch := first | omega | assumption) only [fa_lit, nLE, nLT, nEQ, nI_add, nSA, nSUB, pk_mul, nDIV, nREM, nCL, fa_and, nx_xor, fa_or, nSHL, nSHR, nUS, n31, n255, Nat.and_one_is_mod, b_I, b_V, b_L, not_or, Nat.not_lt_zero, Nat.not_le, Nat.not_lt, not_false_eq_true, true_and, and_true, false_or, or_false, Classical.not_not, if_true, if_false, if_pos, if_neg] <;> omega), if_pos (by simp (disch := first | omega | assumption) only [fa_lit, nLE, nLT, nEQ, nI_add, nSA, nSUB, pk_mul, nDIV, nREM, nCL, fa_and, nx_xor, fa_or, nSHL, nSHR, nUS, n31, n255, Nat.and_one_is_mod, b_I, b_V, b_L, not_or, Nat.not_lt_zero, Nat.not_le, Nat.not_lt, not_false_eq_true, true_and, and_true, false_or, or_false, Classical.not_not, if_true, if_false, if_pos, if_neg] <;> omega), b_L, if_pos (by simp (disch := first | omega | assumption) only [fa_lit, nLE, nLT, nEQ, nI_add, nSA, nSUB, pk_mul, nDIV, nREM, nCL, fa_and, nx_xor, fa_or, nSHL, nSHR, nUS, n31, n255, Nat.and_one_is_mod, b_I, b_V, b_L, not_or, Nat.not_lt_zero, Nat.not_le, Nat.not_lt, not_false_eq_true, true_and, and_true, false_or, or_false, Classical.not_not, if_true, if_false, if_pos, if_neg] <;> omega), if_pos (by simp (disch := first | omega | assumption) only [fa_lit, nLE, nLT, nEQ, nI_add, nSA, nSUB, pk_mul, nDIV, nREM, nCL, fa_and, nx_xor, fa_or, nSHL, nSHR, nUS, n31, n255, Nat.and_one_is_mod, b_I, b_V, b_L, not_or, Nat.not_lt_zero, Nat.not_le, Nat.not_lt, not_false_eq_true, true_and, and_true, false_or, or_false, Classical.not_not, if_true, if_false, if_pos, if_neg] <;> omega), Va part (by omega), Va D (by omega), nx_xor, nx_xor, gp_o (by decide), hEa.2.2.1 part (by omega)]
      have f3 : fr [14] a0 (g_put a0 14 D (nI (vl D s t b (th D s t) D ^^^ (vl D s t b (th D s t) part ^^^ x)))) := fr_put _ _ _ (by simp)
      have hE3 := ME_fr hEa f3 (by simp) (by simp) (by simp) (by simp)
      rw [M_product w7 hE3.2.2 (x8 (hv0 part (by omega)) hx) (pw_lt F w7 part (by omega)).2, b_I, if_pos (by simp (disch := first | omega | assumption) only [fa_lit, nLE, nLT, nEQ, nI_add, nSA, nSUB, pk_mul, nDIV, nREM, nCL, fa_and, nx_xor, fa_or, nSHL, nSHR, nUS, n31, n255, Nat.and_one_is_mod, b_I, b_V, b_L, not_or, Nat.not_lt_zero, Nat.not_le, Nat.not_lt, not_false_eq_true, true_and, and_true, false_or, or_false, Classical.not_not, if_true, if_false, if_pos, if_neg] <;> omega), gp_k, if_neg (by omega), Va (D + 1) (by omega), nx_xor, b_L]
      have f4 := fr_trans f3 (fr_put (k := 14) (g_put a0 14 D (nI (vl D s t b (th D s t) D ^^^ (vl D s t b (th D s t) part ^^^ x)))) (D + 1) (nI (vl D s t b (th D s t) (D + 1) ^^^ gm F (vl D s t b (th D s t) part ^^^ x) (pw F part))) (by simp))
      have hE4 := ME_fr hEa f4 (by simp) (by simp) (by simp) (by simp)
      obtain ⟨σ', e5, X5, f5⟩ := M_wr3 (n := n) (x := x) (is := th D s t) (V := nr F D (gv F D s t b) part x (wy D (th D s t) part)) hE4 (by rw [f4.1 w (by simp; omega)]; exact Xa) (by omega) (by omega) (by omega) (by omega) (by omega) (show t < 12 by omega) at3 at2 eV (by
        by_cases cD : th D s t D = true
        · left
          rw [gp_k, if_neg (by omega), gp_s, nr, if_pos c, ud_ne (by omega), ud_eq, gv, so_is h2 cD, so_is h2 hpi]
        · right; simpa using cD) (by
        by_cases cD : th D s t (D + 1) = true
        · left
          rw [gp_s, nr, if_pos c, ud_eq, gv, so_is h2 cD, so_is h2 hpi]
        · right; simpa using cD)
      refine ⟨σ', e5, X5, ?_⟩
      exact gj_trans Ga (gj_trans (gj_fr (fr_mono f4 (by simp)) h014) (gj_fr (fr_mono f5 (by simp)) h014))
    · have hwl := wy_lt D (th D s t) part
      obtain ⟨σ3, e3, V3, f3⟩ := M_solves hn hEa Va Ia hv0 (fun r _ h => vl_0 h) h2
      have hE3 := ME_fr hEa f3 (by simp) (by simp) (by simp) (by simp)
      have V3 : MV D (gv F D s t b) σ3 := V3
      have V4 := MV_put (k := part) (x := x) V3
      have f4 : fr [14] σ3 (g_put σ3 14 part (nI x)) := fr_put _ _ _ (by simp)
      have hE4 := ME_fr hE3 f4 (by simp) (by simp) (by simp) (by simp)
      have V5 := MV_put (k := D) (x := sp (ud (gv F D s t b) part x) D) V4
      have f5 : fr [14] (g_put σ3 14 part (nI x)) (g_put (g_put σ3 14 part (nI x)) 14 D (nI (sp (ud (gv F D s t b) part x) D))) := fr_put _ _ _ (by simp)
      have hE5 := ME_fr hE4 f5 (by simp) (by simp) (by simp) (by simp)
      have lt4 := ud_lt (i := part) hv hx
      have hsp : sp (ud (gv F D s t b) part x) D < 256 := sp_lt fun r hr => lt4 r (by omega)
      have e6 : sq F (ud (ud (gv F D s t b) part x) D (sp (ud (gv F D s t b) part x) D)) D = sq F (ud (gv F D s t b) part x) D := sq_ext fun r hr => ud_ne (by omega)
      have V6 := MV_put (k := D + 1) (x := sq F (ud (gv F D s t b) part x) D) V5
      have f6 : fr [14] (g_put (g_put σ3 14 part (nI x)) 14 D (nI (sp (ud (gv F D s t b) part x) D))) (g_put (g_put (g_put σ3 14 part (nI x)) 14 D (nI (sp (ud (gv F D s t b) part x) D))) 14 (D + 1) (nI (sq F (ud (gv F D s t b) part x) D))) := fr_put _ _ _ (by simp)
      have hE6 := ME_fr hE5 f6 (by simp) (by simp) (by simp) (by simp)
      rw [if_neg (nI_ne0 (by omega) (by omega)), e3, b_V, if_pos (by simp (disch := first | omega | assumption) only [fa_lit, nLE, nLT, nEQ, nI_add, nSA, nSUB, pk_mul, nDIV, nREM, nCL, fa_and, nx_xor, fa_or, nSHL, nSHR, nUS, n31, n255, Nat.and_one_is_mod, b_I, b_V, b_L, not_or, Nat.not_lt_zero, Nat.not_le, Nat.not_lt, not_false_eq_true, true_and, and_true, false_or, or_false, Classical.not_not, if_true, if_false, if_pos, if_neg] <;> omega), b_L, M_sum0 hn hE4 V4 (fun r hr e => absurd e (nM1' (by omega))), b_I, if_pos (by simp (disch := first | omega | assumption) only [fa_lit, nLE, nLT, nEQ, nI_add, nSA, nSUB, pk_mul, nDIV, nREM, nCL, fa_and, nx_xor, fa_or, nSHL, nSHR, nUS, n31, n255, Nat.and_one_is_mod, b_I, b_V, b_L, not_or, Nat.not_lt_zero, Nat.not_le, Nat.not_lt, not_false_eq_true, true_and, and_true, false_or, or_false, Classical.not_not, if_true, if_false, if_pos, if_neg] <;> omega), b_L, M_sum1 hn hE5 V5 (ud_lt lt4 hsp) (fun r hr e => absurd e (nM1' (by omega))), b_I, if_pos (by simp (disch := first | omega | assumption) only [fa_lit, nLE, nLT, nEQ, nI_add, nSA, nSUB, pk_mul, nDIV, nREM, nCL, fa_and, nx_xor, fa_or, nSHL, nSHR, nUS, n31, n255, Nat.and_one_is_mod, b_I, b_V, b_L, not_or, Nat.not_lt_zero, Nat.not_le, Nat.not_lt, not_false_eq_true, true_and, and_true, false_or, or_false, Classical.not_not, if_true, if_false, if_pos, if_neg] <;> omega), b_L, e6]
      have fA := fr_trans f3 (fr_trans f4 (fr_trans f5 f6))
      have eN : nr F D (gv F D s t b) part x (wy D (th D s t) part) = ud (ud (ud (gv F D s t b) part x) D (sp (ud (gv F D s t b) part x) D)) (D + 1) (sq F (ud (gv F D s t b) part x) D) := by rw [nr, if_neg c]
      obtain ⟨σ', e7, X7, f7⟩ := M_wr3 (n := n) (x := x) (is := th D s t) (V := nr F D (gv F D s t b) part x (wy D (th D s t) part)) hE6 (by rw [fA.1 w (by simp; omega)]; exact Xa) (by omega) (by omega) (by omega) (by omega) (by omega) (show t < 12 by omega) at3 at2 eV (by left; rw [eN]; exact V6 D (by omega)) (by left; rw [eN]; exact V6 (D + 1) (by omega))
      refine ⟨σ', e7, X7, ?_⟩
      exact gj_trans Ga (gj_trans (gj_fr (fr_mono fA (by simp)) h014) (gj_fr (fr_mono f7 (by simp)) h014))
  unfold fX12_writes
  rw [M_stripeOf hw hE.2.1 ha', b_I, M_byteOf hw hE.2.1 ha', b_I, M_partOf hw hE.2.1 ha', b_I, ht, hb, hp, e1, b_V, e2, b_V, hE.2.1.1]
  refine lp (L := fun m k a => fX12_writes_L49 n w m (nI x) (nI t) (nI b) (nI part) (nI D) (nI k) a) (I := fun k a => MS C (s.w_rd (cn D t (fun r => rp D (th D s t) part (wy D (th D s t) part) r && decide (r < k)) s.rd)) (a.1 w) 0 ∧ fr [w] σ2 a) (Q := fun o => ∃ σ', o = some σ' ∧ MS C (wS F D s t b part x) (σ'.1 w) 0 ∧ gj [w, 14, 15] [26, 27, 28] σ σ') (N := D + 2) ?_ ?_ (D + 2) n 0 σ2 (by omega) (by omega) ⟨?_, fr_refl _ _⟩
  · intro m k a0 hk ha
    obtain ⟨Xa, fa⟩ := ha
    have hEa := ME_fr hE2 fa (by simp; omega) (by simp; omega) (by simp; omega) (by simp; omega)
    have Ia := MI_fr I2 fa (by simp; omega)
    have q26a : a0.1 0 26 = nI (wy D (th D s t) part) := by rw [fa.1 0 (by simp; omega)]; exact q26
    obtain ⟨g0, g1, g2', g3, g5, g6⟩ := hEa.2.1
    have hq : ∀ r, r < D + 2 → r ≠ k → (rp D (th D s t) part (wy D (th D s t) part) r && decide (r < k + 1)) = (rp D (th D s t) part (wy D (th D s t) part) r && decide (r < k)) := by
      intro r hr hne
      have : decide (r < k + 1) = decide (r < k) := by apply decide_eq_decide.mpr; omega
      rw [this]
    have no : rp D (th D s t) part (wy D (th D s t) part) k = false → MS C (s.w_rd (cn D t (fun r => rp D (th D s t) part (wy D (th D s t) part) r && decide (r < k + 1)) s.rd)) (a0.1 w) 0 := by
      intro z
      rw [cn_ext (q := fun r => rp D (th D s t) part (wy D (th D s t) part) r && decide (r < k)) (by omega) w1 (by omega) (by
        intro r hr
        by_cases e : r = k
        · rw [e]; simp [z]
        · exact hq r hr e)]
      exact Xa
    left
    show ∃ a', fX12_writes_b49 n w (fX12_writes_L49 n w m) (nI x) (nI t) (nI b) (nI part) (nI D) (nI k) a0 = _ ∧ _
    unfold fX12_writes_b49 fX12_writes_b89
    rw [g5, if_neg (by simp (disch := first | omega | assumption) only [fa_lit, nLE, nLT, nEQ, nI_add, nSA, nSUB, pk_mul, nDIV, nREM, nCL, fa_and, nx_xor, fa_or, nSHL, nSHR, nUS, n31, n255, Nat.and_one_is_mod, b_I, b_V, b_L, not_or, Nat.not_lt_zero, Nat.not_le, Nat.not_lt, not_false_eq_true, true_and, and_true, false_or, or_false, Classical.not_not, if_true, if_false, if_pos, if_neg] <;> omega), nCL (by omega), if_pos (by simp (disch := first | omega | assumption) only [fa_lit, nLE, nLT, nEQ, nI_add, nSA, nSUB, pk_mul, nDIV, nREM, nCL, fa_and, nx_xor, fa_or, nSHL, nSHR, nUS, n31, n255, Nat.and_one_is_mod, b_I, b_V, b_L, not_or, Nat.not_lt_zero, Nat.not_le, Nat.not_lt, not_false_eq_true, true_and, and_true, false_or, or_false, Classical.not_not, if_true, if_false, if_pos, if_neg] <;> omega), Ia k hk, show nI k + 1 = nI (k + 1) from nI_add k 1]
    by_cases c : th D s t k = true
    · rw [if_pos c, if_neg (by decide), M_isRead (is := th D s t) hEa q26a (wy_lt _ _ _) at2 hk c, b_I]
      by_cases c2 : rp D (th D s t) part (wy D (th D s t) part) k = true
      · rw [if_pos c2, if_neg (by decide)]
        obtain ⟨σ3, e3, X3, f3, _⟩ := M_countsRole hEa Xa (show t < 12 by omega) hk
        rw [e3, b_V]
        refine ⟨σ3, rfl, ?_, fr_trans fa f3⟩
        rw [wrd_rd, cn_bump (q := fun r => rp D (th D s t) part (wy D (th D s t) part) r && decide (r < k + 1)) (by omega) w1 (by omega) hk (by simp) (by simp [c2]) hq] at X3
        exact X3
      · rw [if_neg c2, if_pos (show nI 0 = 0 from rfl)]
        exact ⟨a0, rfl, no (by simpa using c2), fa⟩
    · rw [if_neg c, if_pos (show nI 0 = 0 from rfl)]
      refine ⟨a0, rfl, no ?_, fa⟩
      have cf : th D s t k = false := by simpa using c
      unfold rp wp
      rw [cf]
      split
      · simp
      · split <;> simp
  · intro m a0 ha
    obtain ⟨Xa, fa⟩ := ha
    have hEa := ME_fr hE2 fa (by simp; omega) (by simp; omega) (by simp; omega) (by simp; omega)
    refine fin m a0 hEa fa ?_
    rw [cn_ext (q := fun r => rp D (th D s t) part (wy D (th D s t) part) r && decide (r < D + 2)) (by omega) w1 (by omega) (by intro r hr; simp [hr])]
    exact Xa
  · rw [cn_none (by omega) w1 (by omega) (by intro r hr; simp)]
    exact X2
