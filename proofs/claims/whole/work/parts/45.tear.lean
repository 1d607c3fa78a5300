/-! the act: tear -/
theorem ct_hi {x : Nat} (h : x < 4096) : ∀ m, ct (fun k => x.testBit k) (12 + m) = ct (fun k => x.testBit k) 12
  | 0 => rfl
  | m + 1 => by
    have z : x.testBit (12 + m) = false := by
      apply Nat.testBit_lt_two_pow
      exact Nat.lt_of_lt_of_le h (Nat.pow_le_pow_right (by decide) (by omega) : 2 ^ 12 ≤ 2 ^ (12 + m))
    rw [show 12 + (m + 1) = 12 + m + 1 from rfl, ct, ct_hi h m, z]
    rfl
theorem M_bitsOf {n x : Nat} {σ : gM} (hn : 40 ≤ n) (hx : x < 4096) : fX12_bitsOf n (nI x) σ = some (nI (ct (fun k => x.testBit k) 12), σ) := by
  unfold fX12_bitsOf
  refine lp (L := fun m k a => fX12_bitsOf_L4 n m (nI x) a (nI k) σ) (I := fun k a => a = nI (ct (fun k => x.testBit k) k)) (Q := fun o => o = some (nI (ct (fun k => x.testBit k) 12), σ)) (N := 31) ?_ ?_ 31 n 0 0 (by omega) (by omega) rfl
  · intro m k a hk ha
    subst ha
    refine Or.inl ⟨_, ?_, rfl⟩
    show fX12_bitsOf_b4 n (fX12_bitsOf_L4 n m) _ _ _ _ = _
    unfold fX12_bitsOf_b4
    rw [if_neg (by simp (disch := first | omega | assumption) only [fa_lit, nLE, nLT, nEQ, nI_add, nSA, nSUB, pk_mul, nDIV, nREM, nCL, fa_and, nx_xor, fa_or, nSHL, nSHR, nUS, n31, n255, Nat.and_one_is_mod, b_I, b_V, b_L, not_or, Nat.not_lt_zero, Nat.not_le, Nat.not_lt, not_false_eq_true, true_and, and_true, false_or, or_false, Classical.not_not, if_true, if_false, if_pos, if_neg] <;> omega), show nI k + 1 = nI (k + 1) from nI_add k 1, ct]
    have h2 : x / 2 ^ k % 2 < 2 := Nat.mod_lt _ (by decide)
    have e : (nI x >>> (nI k &&& 31)) &&& 1 = nI (x / 2 ^ k % 2) := by simp (disch := first | omega | assumption) only [fa_lit, nLE, nLT, nEQ, nI_add, nSA, nSUB, pk_mul, nDIV, nREM, nCL, fa_and, nx_xor, fa_or, nSHL, nSHR, nUS, n31, n255, Nat.and_one_is_mod, b_I, b_V, b_L, not_or, Nat.not_lt_zero, Nat.not_le, Nat.not_lt, not_false_eq_true, true_and, and_true, false_or, or_false, Classical.not_not, if_true, if_false, if_pos, if_neg]
    rw [e, nI_add, Nat.testBit_eq_decide_div_mod_eq]
    by_cases c : x / 2 ^ k % 2 = 1
    · simp [c]
    · have : x / 2 ^ k % 2 = 0 := by omega
      simp [this]
  · intro m a ha
    subst ha
    show fX12_bitsOf_b4 n (fX12_bitsOf_L4 n m) _ _ _ _ = _
    unfold fX12_bitsOf_b4
    rw [if_pos (by simp (disch := first | omega | assumption) only [fa_lit, nLE, nLT, nEQ, nI_add, nSA, nSUB, pk_mul, nDIV, nREM, nCL, fa_and, nx_xor, fa_or, nSHL, nSHR, nUS, n31, n255, Nat.and_one_is_mod, b_I, b_V, b_L, not_or, Nat.not_lt_zero, Nat.not_le, Nat.not_lt, not_false_eq_true, true_and, and_true, false_or, or_false, Classical.not_not, if_true, if_false, if_pos, if_neg] <;> omega), show (31 : Nat) = 12 + 19 from rfl, ct_hi hx 19]
def pT (D part how : Nat) (r : Nat) : Bool := (decide (r = part) && decide (0 < how)) || (decide (r = D) && decide (1 < how))
def teS (F D : Nat) (s : Sh) (t b part x how : Nat) : Sh := (((s.w_rd (cn D t (wp D (th D s t) part) s.rd)).w_byt (bs D t b (pT D part how) (nr F D (gv F D s t b) part x 0) s.byt)).w_wr (cn D t (pT D part how) s.wr)).w_di (s.di ||| 2 ^ t)
def bits (x : Nat) : Nat := ct (fun k => x.testBit k) 12
theorem or_lt {a t S : Nat} (ha : a < 2 ^ S) (ht : t < S) : a ||| 2 ^ t < 2 ^ S := Nat.or_lt_two_pow ha (Nat.pow_lt_pow_right (by decide) ht)
theorem X_doTear {D S C F n i a x how : Nat} {s : Sh} {σ : gM} (hn : 20 ≤ n) (hE : XE D S C F σ) (hO : Ok D S C s) (hX : XS C s (σ.1 (11 + 5 * i))) (ha : a < D * S * C) (hx : x < 256) (hh : how < 3) :
    ∃ σ', fX8_doTear n i (nI a) (nI x) (nI how) σ = some (nI (bits (s.di ||| 2 ^ (a / C / D))), σ') ∧ XS C (teS F D s (a / C / D) (a % C) (a / C % D) x how) (σ'.1 (11 + 5 * i)) ∧ fr [11 + 5 * i, 13 + 5 * i] σ σ' := by
  have hw := hE.1
  have hw' := hw
  obtain ⟨w1, w2, w3, w4, w5, w6, w7⟩ := hw'
  have hR := hE.2.1
  have ha' := ad_1000 w2 w4 w6 ha
  obtain ⟨at1, at2, at3⟩ := ad_lt w5 w1 ha
  have hdon := Ok_don hO w4
  generalize ht : a / C / D = t at *
  generalize hb : a % C = b at *
  generalize hp : a / C % D = part at *
  have h2 := th_two (by omega) w1 w4 at1 hO
  obtain ⟨σ1, e1, B1, f1⟩ := X_gather (is := th D s t) hn hE hX hO.byt (by omega) at3 (fun r _ h => h) h2
  have hE1 := XE_fr hE f1 (by simp <;> omega) (by simp <;> omega) (by simp <;> omega) (by simp <;> omega)
  have hv : ∀ r, r < D + 2 → gv F D s t b r < 256 := so_lt w7 (fun r _ => th_lt hO.byt r)
  have X1 : XS C s (σ1.1 (11 + 5 * i)) := by rw [f1.1 _ (by simp <;> omega)]; exact hX
  obtain ⟨σ2, e2, B2, f2⟩ := X_change hE1 B1 hv at2 hx
  have hE2 := XE_fr hE1 f2 (by simp <;> omega) (by simp <;> omega) (by simp <;> omega) (by simp <;> omega)
  have X2 : XS C s (σ2.1 (11 + 5 * i)) := by rw [f2.1 _ (by simp <;> omega)]; exact X1
  have B2 : XB D i (nr F D (gv F D s t b) part x 0) σ2 := B2
  have hV : ∀ r, r < D + 2 → nr F D (gv F D s t b) part x 0 r < 256 := ud_lt (ud_lt (ud_lt hv hx) (x8 (hv D (by omega)) (x8 (hv part (by omega)) hx))) (x8 (hv (D + 1) (by omega)) (gm_lt w7))
  obtain ⟨σ3, e3, X3, f3, _⟩ := X_countReads (p := wp D (th D s t) part) hn hE2 X2 (show t < 12 by omega)
  have hE3 := XE_fr hE2 f3 (by simp <;> omega) (by simp <;> omega) (by simp <;> omega) (by simp <;> omega)
  have B3 := XB_fr B2 f3 (by simp <;> omega)
  have F3 : fr [11 + 5 * i, 13 + 5 * i] σ σ3 := fr_trans (fr_mono f1 (by simp)) (fr_trans (fr_mono f2 (by simp)) (fr_mono f3 (by simp)))
  have hdi := Ok_di hO w4
  have p12 := p12 (show t < 12 by omega)
  have hor : s.di ||| 2 ^ t < 4096 := or_lt (S := 12) hdi (by omega)
  have last : ∀ σ4, XS C (((s.w_rd (cn D t (wp D (th D s t) part) s.rd)).w_byt (bs D t b (pT D part how) (nr F D (gv F D s t b) part x 0) s.byt)).w_wr (cn D t (pT D part how) s.wr)) (σ4.1 (11 + 5 * i)) → fr [11 + 5 * i, 13 + 5 * i] σ σ4 → ∃ σ', fX8_doTear_b117 n i (nI t) σ4 = some (nI (bits (s.di ||| 2 ^ t)), σ') ∧ XS C (teS F D s t b part x how) (σ'.1 (11 + 5 * i)) ∧ fr [11 + 5 * i, 13 + 5 * i] σ σ' := by
    intro σ4 X4 f4
    unfold fX8_doTear_b117
    have X5 := XS_di (x := s.di ||| 2 ^ t) X4
    rw [show (140 : Int32) = nI 140 from rfl, X_get (by omega), b_I, X4.di, sh1 (by omega), show nI (((s.w_rd (cn D t (wp D (th D s t) part) s.rd)).w_byt (bs D t b (pT D part how) (nr F D (gv F D s t b) part x 0) s.byt)).w_wr (cn D t (pT D part how) s.wr)).di ||| nI (2 ^ t) = nI (s.di ||| 2 ^ t) from fa_or _ _, X_set (by omega), b_V, X_get (by omega), b_I, gp_s, bcI_ok, b_I, bc_all _ hor]
    exact ⟨_, rfl, X5, fr_trans f4 (fr_put _ _ _ (by simp))⟩
  unfold fX8_doTear
  rw [X_stripeOf hw hR ha', b_I, X_partOf hw hR ha', b_I, X_byteOf hw hR ha', b_I, ht, hb, hp, X_missing hn hE hdon hX (by omega), b_I, e1, b_V, e2, b_V, X_writeBits hE2 at2, b_I, e3, b_V]
  by_cases c0 : how = 0
  · rw [if_pos (by rw [c0]; decide)]
    refine last σ3 ?_ F3
    have hq : ∀ r, r < D + 2 → pT D part how r = false := by intro r _; simp [pT, c0]
    rw [cn_none (by omega) w1 (by omega) hq, bs_none (by omega) w1 (by omega) hq]
    exact X3
  · rw [if_neg (by simp (disch := first | omega | assumption) only [fa_lit, nLE, nLT, nEQ, nI_add, nSA, nSUB, pk_mul, nDIV, nREM, nCL, fa_and, nx_xor, fa_or, nSHL, nSHR, nUS, n31, n255, Nat.and_one_is_mod, b_I, b_V, b_L, not_or, Nat.not_lt_zero, Nat.not_le, Nat.not_lt, not_false_eq_true, true_and, and_true, false_or, or_false, Classical.not_not, if_true, if_false, if_pos, if_neg] <;> omega)]
    have hX3 := X_store (p := pT D part how) (t := t) (b := b) hn hE3 X3 B3 hV (show t < 12 by omega) at3
    obtain ⟨σ4, e4, X4, f4, _⟩ := hX3
    have F4 := fr_trans F3 (fr_mono f4 (by simp))
    obtain ⟨j0, j1, j2, j3, j5, j6, j7, j8, j9⟩ := hE3.2.1
    unfold fX8_doTear_b114
    by_cases c1 : how = 1
    · have em : bm (pT D part how) (D + 2) = 2 ^ part := by
        rw [bm_one (show part < D + 2 by omega)]
        exact bm_ext fun r _ => by simp [pT, c1]
      rw [em] at e4
      rw [if_pos (by rw [c1]; rfl), sh1 (by omega), e4, b_V]
      exact last σ4 X4 F4
    · have c2 : how = 2 := by omega
      have em : bm (pT D part how) (D + 2) = 2 ^ part ||| 2 ^ D := by
        rw [bm_one (show part < D + 2 by omega), bm_one (show D < D + 2 by omega), bm_or]
        exact bm_ext fun r _ => by simp [pT, c2]
      rw [em, ← fa_or] at e4
      rw [if_neg (by rw [c2]; decide), j6, sh1 (by omega), sh1 (by omega), e4, b_V]
      exact last σ4 X4 F4
