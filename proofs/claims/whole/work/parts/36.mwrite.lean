/-! the reference's write -/
theorem dk_lt (D t r : Nat) : dk D t r < D + 2 := Nat.mod_lt _ (by omega)
theorem thx_m1 {D t : Nat} {s : Sh} (hD : D < 7) : thx D s t (-1) (-1) = th D s t := by
  funext r
  have := dk_lt D t r
  have z : nI (dk D t r) ≠ -1 := nM1 (by omega)
  simp [thx, z]
theorem vl_0 {D t b r : Nat} {s : Sh} {is : Nat → Bool} (h : is r = false) : vl D s t b is r = 0 := by simp [vl, h]
theorem MS_gj {C w : Nat} {s : Sh} {σ σ' : gM} {L J : List Nat} (h : MS C s (σ.1 w) 0) (hf : gj L J σ σ') (hL : w ∉ L) (h0 : w ≠ 0) : MS C s (σ'.1 w) 0 := by rw [hf.1 w hL h0]; exact h
theorem M_laysOne {D S C F n w t b : Nat} {s : Sh} {σ : gM} (hn : 20 ≤ n) (hE : ME D S C F σ) (hO : Ok D S C s) (hX : MS C s (σ.1 w) 0) (hw14 : w ≠ 14) (hw15 : w ≠ 15) (ht : t < S) (hb : b < C) :
    ∃ σ', fX12_lays n w (nI t) (nI b) (-1) (-1) σ = some σ' ∧ MV D (vl D s t b (th D s t)) σ' ∧ MI D (th D s t) σ' ∧ fr [14, 15] σ σ' := by
  have := M_lays (x := -1) (y := -1) hn hE hO hX hw14 hw15 ht hb
  rwa [thx_m1 (by have := hE.1.2.1; omega)] at this
theorem M_reads {D S C F n w a : Nat} {s : Sh} {σ : gM} (hn : 20 ≤ n) (hE : ME D S C F σ) (hO : Ok D S C s) (hX : MS C s (σ.1 w) 0) (hw14 : w ≠ 14) (hw15 : w ≠ 15) (ha : a < D * S * C) :
    ∃ σ', fX12_reads n w (nI a) σ = some (nI (gv F D s (a / C / D) (a % C) (a / C % D)), σ') ∧ fr [14, 15] σ σ' := by
  have hw := hE.1
  have hw' := hw
  obtain ⟨w1, w2, w3, w4, w5, w6, w7⟩ := hw'
  have ha' := ad_1000 w2 w4 w6 ha
  obtain ⟨at1, at2, at3⟩ := ad_lt w5 w1 ha
  obtain ⟨σ1, e1, V1, I1, f1⟩ := M_laysOne hn hE hO hX hw14 hw15 at1 at3
  have hE1 := ME_fr hE f1 (by simp) (by simp) (by simp) (by simp)
  obtain ⟨σ2, e2, V2, f2⟩ := M_solves hn hE1 V1 I1 (fun r _ => th_lt hO.byt r) (fun r _ h => vl_0 h) (th_two (by omega) w1 w4 at1 hO)
  have hE2 := ME_fr hE1 f2 (by simp) (by simp) (by simp) (by simp)
  refine ⟨σ2, ?_, fr_trans f1 (fr_mono f2 (by simp))⟩
  unfold fX12_reads
  rw [M_stripeOf hw hE.2.1 ha', b_I, M_byteOf hw hE.2.1 ha', b_I, e1, b_V, e2, b_V, M_partOf hw hE2.2.1 ha', b_I, nCL (by omega), if_pos (by simp (disch := first | omega | assumption) only [fa_lit, nLE, nLT, nEQ, nI_add, nSA, nSUB, pk_mul, nDIV, nREM, nCL, fa_and, nx_xor, fa_or, nSHL, nSHR, nUS, n31, n255, Nat.and_one_is_mod, b_I, b_V, b_L, not_or, Nat.not_lt_zero, Nat.not_le, Nat.not_lt, not_false_eq_true, true_and, and_true, false_or, or_false, Classical.not_not, if_true, if_false, if_pos, if_neg] <;> omega), V2 _ (by omega)]
  rfl
theorem M_putsS {D S C F w t b k : Nat} {s : Sh} {σ : gM} {p q : Nat → Bool} {v : Nat → Nat} (hE : ME D S C F σ) (hX : MS C ((s.w_byt (bs D t b p v s.byt)).w_wr (cn D t p s.wr)) (σ.1 w) 0) (ht : t < 12) (hb : b < C) (hk : k < D + 2) (hp : p k = false) (hq : q k = true) (h : ∀ r, r < D + 2 → r ≠ k → q r = p r) :
    ∃ σ', fX12_puts w (nI t) (nI b) (nI k) (nI (v k)) σ = some σ' ∧ MS C ((s.w_byt (bs D t b q v s.byt)).w_wr (cn D t q s.wr)) (σ'.1 w) 0 ∧ fr [w] σ σ' ∧ ∀ j, j < 384 → σ'.1 w j = if j = 48 * dk D t k + 4 * t + b then nI (v k) else σ.1 w j := by
  obtain ⟨w1, w2, w3, w4, w5, w6, w7⟩ := hE.1
  obtain ⟨σ', e1, h1, h2, h3⟩ := M_puts (x := v k) hE hX ht hb hk
  refine ⟨σ', e1, ?_, h2, h3⟩
  rw [wwr_wr, cn_bump (by omega) w1 ht hk hp hq h] at h1
  rw [wwr_byt, wbyt_byt, bs_put (by omega) w1 ht hk hq h] at h1
  exact h1
theorem M_wr3 {D S C F n w t b part x : Nat} {s : Sh} {σ : gM} {is : Nat → Bool} {V : Nat → Nat} (hE : ME D S C F σ) (hX : MS C s (σ.1 w) 0) (hw0 : w ≠ 0) (hw3 : w ≠ 3) (hw8 : w ≠ 8) (hw9 : w ≠ 9) (hw14 : w ≠ 14) (ht : t < 12) (hb : b < C) (hp : part < D) (hx : V part = x) (hD : σ.1 14 D = nI (V D) ∨ is D = false) (hQ : σ.1 14 (D + 1) = nI (V (D + 1)) ∨ is (D + 1) = false) :
    ∃ σ', fX12_writes_b226 n w (nI x) (nI t) (nI b) (nI part) (nI D) (nI (if is part then 1 else 0)) (nI (if is D then 1 else 0)) (nI (if is (D + 1) then 1 else 0)) σ = some σ' ∧ MS C ((s.w_byt (bs D t b (wp D is part) V s.byt)).w_wr (cn D t (wp D is part) s.wr)) (σ'.1 w) 0 ∧ fr [w] σ σ' := by
  obtain ⟨w1, w2, w3, w4, w5, w6, w7⟩ := hE.1
  have eQ : nI D + 1 = nI (D + 1) := nI_add D 1
  have q3 : ∀ σ2, ME D S C F σ2 → fr [w] σ σ2 → MS C ((s.w_byt (bs D t b (fun r => (decide (r = part) || decide (r = D)) && is r) V s.byt)).w_wr (cn D t (fun r => (decide (r = part) || decide (r = D)) && is r) s.wr)) (σ2.1 w) 0 → ∃ σ', fX12_writes_b266 n w (nI t) (nI b) (nI D) (nI (if is (D + 1) then 1 else 0)) σ2 = some σ' ∧ MS C ((s.w_byt (bs D t b (wp D is part) V s.byt)).w_wr (cn D t (wp D is part) s.wr)) (σ'.1 w) 0 ∧ fr [w] σ2 σ' := by
    intro σ2 hE2 f2 X2
    unfold fX12_writes_b266
    by_cases c : is (D + 1) = true
    · rw [if_pos c, if_neg (by decide), eQ, nCL (by omega), if_pos (by simp (disch := first | omega | assumption) only [fa_lit, nLE, nLT, nEQ, nI_add, nSA, nSUB, pk_mul, nDIV, nREM, nCL, fa_and, nx_xor, fa_or, nSHL, nSHR, nUS, n31, n255, Nat.and_one_is_mod, b_I, b_V, b_L, not_or, Nat.not_lt_zero, Nat.not_le, Nat.not_lt, not_false_eq_true, true_and, and_true, false_or, or_false, Classical.not_not, if_true, if_false, if_pos, if_neg] <;> omega), f2.1 14 (by simp; exact fun e => hw14 e.symm), hQ.resolve_right (by rw [c]; decide)]
      obtain ⟨σ3, e3, X3, f3, _⟩ := M_putsS (q := wp D is part) (k := D + 1) hE2 X2 ht hb (by omega) (by
        have a : ¬ D + 1 = part := by omega
        simp [a]) (by simp [wp, c]) (by
        intro r hr hne
        simp [wp, hne])
      rw [e3, b_V]
      exact ⟨σ3, rfl, X3, f3⟩
    · rw [if_neg c, if_pos (show nI 0 = 0 from rfl)]
      refine ⟨σ2, rfl, ?_, fr_refl _ _⟩
      have hq : ∀ r, r < D + 2 → wp D is part r = ((decide (r = part) || decide (r = D)) && is r) := by
        intro r hr
        by_cases e : r = D + 1
        · rw [e]; simp [wp, c]
        · simp [wp, e]
      rw [cn_ext (by omega) w1 ht hq, bs_ext (w := V) (by omega) w1 ht hq (fun _ _ _ => rfl)]
      exact X2
  have q2 : ∀ σ2, ME D S C F σ2 → fr [w] σ σ2 → MS C ((s.w_byt (bs D t b (fun r => decide (r = part) && is r) V s.byt)).w_wr (cn D t (fun r => decide (r = part) && is r) s.wr)) (σ2.1 w) 0 → ∃ σ', fX12_writes_b243 n w (nI t) (nI b) (nI D) (nI (if is D then 1 else 0)) (nI (if is (D + 1) then 1 else 0)) σ2 = some σ' ∧ MS C ((s.w_byt (bs D t b (wp D is part) V s.byt)).w_wr (cn D t (wp D is part) s.wr)) (σ'.1 w) 0 ∧ fr [w] σ2 σ' := by
    intro σ2 hE2 f2 X2
    unfold fX12_writes_b243
    by_cases c : is D = true
    · rw [if_pos c, if_neg (by decide), nCL (by omega), if_pos (by simp (disch := first | omega | assumption) only [fa_lit, nLE, nLT, nEQ, nI_add, nSA, nSUB, pk_mul, nDIV, nREM, nCL, fa_and, nx_xor, fa_or, nSHL, nSHR, nUS, n31, n255, Nat.and_one_is_mod, b_I, b_V, b_L, not_or, Nat.not_lt_zero, Nat.not_le, Nat.not_lt, not_false_eq_true, true_and, and_true, false_or, or_false, Classical.not_not, if_true, if_false, if_pos, if_neg] <;> omega), f2.1 14 (by simp; exact fun e => hw14 e.symm), hD.resolve_right (by rw [c]; decide)]
      obtain ⟨σ3, e3, X3, f3, _⟩ := M_putsS (q := fun r => (decide (r = part) || decide (r = D)) && is r) (k := D) hE2 X2 ht hb (by omega) (by
        have a : ¬ D = part := by omega
        simp [a]) (by simp [c]) (by
        intro r hr hne
        simp [hne])
      rw [e3, b_V]
      obtain ⟨σ4, e4, X4, f4⟩ := q3 σ3 (ME_fr hE2 f3 (by simp; exact fun e => hw0 e.symm) (by simp; exact fun e => hw3 e.symm) (by simp; exact fun e => hw8 e.symm) (by simp; exact fun e => hw9 e.symm)) (fr_trans f2 f3) X3
      exact ⟨σ4, e4, X4, fr_trans f3 f4⟩
    · rw [if_neg c, if_pos (show nI 0 = 0 from rfl)]
      refine q3 σ2 hE2 f2 ?_
      have hq : ∀ r, r < D + 2 → ((decide (r = part) || decide (r = D)) && is r) = (decide (r = part) && is r) := by
        intro r hr
        by_cases e : r = D
        · rw [e]; simp [c]
        · simp [e]
      rw [cn_ext (by omega) w1 ht hq, bs_ext (w := V) (by omega) w1 ht hq (fun _ _ _ => rfl)]
      exact X2
  have X0 : MS C ((s.w_byt (bs D t b (fun _ => false) V s.byt)).w_wr (cn D t (fun _ => false) s.wr)) (σ.1 w) 0 := by
    rw [cn_none (by omega) w1 ht (fun _ _ => rfl), bs_none (by omega) w1 ht (fun _ _ => rfl)]
    exact hX
  unfold fX12_writes_b226
  by_cases c : is part = true
  · rw [if_pos c, if_neg (by decide), ← hx]
    obtain ⟨σ3, e3, X3, f3, _⟩ := M_putsS (q := fun r => decide (r = part) && is r) (k := part) hE X0 ht hb (by omega) rfl (by simp [c]) (by
      intro r hr hne
      simp [hne])
    rw [e3, b_V]
    obtain ⟨σ4, e4, X4, f4⟩ := q2 σ3 (ME_fr hE f3 (by simp; exact fun e => hw0 e.symm) (by simp; exact fun e => hw3 e.symm) (by simp; exact fun e => hw8 e.symm) (by simp; exact fun e => hw9 e.symm)) f3 X3
    exact ⟨σ4, e4, X4, fr_trans f3 f4⟩
  · rw [if_neg c, if_pos (show nI 0 = 0 from rfl)]
    refine q2 σ hE (fr_refl _ _) ?_
    have hq : ∀ r, r < D + 2 → (decide (r = part) && is r) = false := by
      intro r hr
      by_cases e : r = part
      · rw [e]; simp [c]
      · simp [e]
    rw [cn_none (by omega) w1 ht hq, bs_none (by omega) w1 ht hq]
    exact hX
theorem M_isRead {D S C F r part w : Nat} {is : Nat → Bool} {σ : gM} (hE : ME D S C F σ) (h26 : σ.1 0 26 = nI w) (hw : w < 3) (hp : part < D) (hr : r < D + 2) (hi : is r = true) : fX12_isRead (nI r) (nI part) σ = some (nI (if rp D is part w r then 1 else 0), σ) := by
  obtain ⟨w1, w2, w3, w4, w5, w6, w7⟩ := hE.1
  obtain ⟨h0, h1, h2', h3, h5, h6⟩ := hE.2.1
  unfold fX12_isRead fX12_isRead_b15 fX12_isRead_b32 fX12_isRead_b61
  rw [h0, h26]
  rcases (show w = 0 ∨ w = 1 ∨ w = 2 by omega) with rfl | rfl | rfl
  · rw [if_pos (show nI 0 = 0 from rfl), if_pos (show nI 0 = 0 from rfl)]
    by_cases c : D ≤ r
    · have e : rp D is part 0 r = true := by
        have : r = D ∨ r = D + 1 := by omega
        simp [rp, wp, hi, this]
        omega
      rw [if_pos (by simp (disch := first | omega | assumption) only [fa_lit, nLE, nLT, nEQ, nI_add, nSA, nSUB, pk_mul, nDIV, nREM, nCL, fa_and, nx_xor, fa_or, nSHL, nSHR, nUS, n31, n255, Nat.and_one_is_mod, b_I, b_V, b_L, not_or, Nat.not_lt_zero, Nat.not_le, Nat.not_lt, not_false_eq_true, true_and, and_true, false_or, or_false, Classical.not_not, if_true, if_false, if_pos, if_neg] <;> omega), if_pos rfl, e]; rfl
    · rw [if_neg (by simp (disch := first | omega | assumption) only [fa_lit, nLE, nLT, nEQ, nI_add, nSA, nSUB, pk_mul, nDIV, nREM, nCL, fa_and, nx_xor, fa_or, nSHL, nSHR, nUS, n31, n255, Nat.and_one_is_mod, b_I, b_V, b_L, not_or, Nat.not_lt_zero, Nat.not_le, Nat.not_lt, not_false_eq_true, true_and, and_true, false_or, or_false, Classical.not_not, if_true, if_false, if_pos, if_neg] <;> omega), if_neg (by decide)]
      by_cases c2 : r = part
      · have e : rp D is part 0 r = true := by
          rw [c2] at hi ⊢
          simp [rp, wp, hi]
        rw [if_pos (by rw [c2]), e]; rfl
      · have e : rp D is part 0 r = false := by
          have a : ¬ r = D := by omega
          have b : ¬ r = D + 1 := by omega
          simp [rp, wp, c2, a, b]
        rw [if_neg (by rw [nEQ _ _ (by omega) (by omega)]; exact c2), e]; rfl
  · have n10 : ¬ nI 1 = 0 := by decide
    rw [if_neg n10, if_neg n10, if_pos (show nI 1 = 1 from rfl), if_pos (show nI 1 = 1 from rfl)]
    by_cases c : D ≤ r
    · have e : rp D is part 1 r = false := by
        have : ¬ r < D := by omega
        simp [rp, this]
      rw [if_pos (by simp (disch := first | omega | assumption) only [fa_lit, nLE, nLT, nEQ, nI_add, nSA, nSUB, pk_mul, nDIV, nREM, nCL, fa_and, nx_xor, fa_or, nSHL, nSHR, nUS, n31, n255, Nat.and_one_is_mod, b_I, b_V, b_L, not_or, Nat.not_lt_zero, Nat.not_le, Nat.not_lt, not_false_eq_true, true_and, and_true, false_or, or_false, Classical.not_not, if_true, if_false, if_pos, if_neg] <;> omega), if_pos rfl, e]; rfl
    · rw [if_neg (by simp (disch := first | omega | assumption) only [fa_lit, nLE, nLT, nEQ, nI_add, nSA, nSUB, pk_mul, nDIV, nREM, nCL, fa_and, nx_xor, fa_or, nSHL, nSHR, nUS, n31, n255, Nat.and_one_is_mod, b_I, b_V, b_L, not_or, Nat.not_lt_zero, Nat.not_le, Nat.not_lt, not_false_eq_true, true_and, and_true, false_or, or_false, Classical.not_not, if_true, if_false, if_pos, if_neg] <;> omega), if_neg (by decide)]
      by_cases c2 : r = part
      · have e : rp D is part 1 r = false := by simp [rp, c2]
        rw [if_pos (by rw [c2]), e]; rfl
      · have e : rp D is part 1 r = true := by
          have : r < D := by omega
          simp [rp, this, c2, hi]
        rw [if_neg (by rw [nEQ _ _ (by omega) (by omega)]; exact c2), e]; rfl
  · have n20 : ¬ nI 2 = 0 := by decide
    have n21 : ¬ nI 2 = 1 := by decide
    rw [if_neg n20, if_neg n21]
    have e : rp D is part 2 r = true := by simp [rp, hi]
    rw [e]
    split <;> rfl
