/-! the face: log, undo, images, counts, reading -/
theorem M_lostBits {D S C F n : Nat} {s : Sh} {σ : gM} (hn : 20 ≤ n) (hE : ME D S C F σ) (hh : ∀ d, d < 8 → s.how d ≤ 2) (hX : MS C s (σ.1 10) 0) : fX12_lostBits n σ = some (nI (bm (nw D s) (D + 2)), σ) := by
  obtain ⟨w1, w2, w3, w4, w5, w6, w7⟩ := hE.1
  obtain ⟨h0, h1, h2, h3, h5, h6⟩ := hE.2.1
  unfold fX12_lostBits
  refine lp (L := fun m k (q : Int32) => fX12_lostBits_L4 n m q (nI k) σ) (I := fun k q => q = nI (bm (nw D s) k)) (Q := fun o => o = some (nI (bm (nw D s) (D + 2)), σ)) (N := D + 2) ?_ ?_ (D + 2) n 0 0 (by omega) (by omega) rfl
  · intro m k q hk hq
    subst hq
    have hp := p2 (show k < 8 by omega)
    have eh := hX.how k (by omega)
    rw [Nat.zero_add] at eh
    have hk2 := hh k (by omega)
    left
    show ∃ a', fX12_lostBits_b4 n (fX12_lostBits_L4 n m) (nI (bm (nw D s) k)) (nI k) σ = _ ∧ _
    unfold fX12_lostBits_b4 fX12_lostBits_b33
    rw [h5, if_neg (by simp (disch := first | omega | assumption) only [fa_lit, nLE, nLT, nEQ, nI_add, nSA, nSUB, pk_mul, nDIV, nREM, nCL, fa_and, nx_xor, fa_or, nSHL, nSHR, nUS, n31, n255, Nat.and_one_is_mod, b_I, b_V, b_L, not_or, Nat.not_lt_zero, Nat.not_le, Nat.not_lt, not_false_eq_true, true_and, and_true, false_or, or_false, Classical.not_not, if_true, if_false, if_pos, if_neg] <;> omega), show (384 : Int32) + nI k = nI (384 + k) from nI_add 384 k, nCL (by omega), if_pos (by simp (disch := first | omega | assumption) only [fa_lit, nLE, nLT, nEQ, nI_add, nSA, nSUB, pk_mul, nDIV, nREM, nCL, fa_and, nx_xor, fa_or, nSHL, nSHR, nUS, n31, n255, Nat.and_one_is_mod, b_I, b_V, b_L, not_or, Nat.not_lt_zero, Nat.not_le, Nat.not_lt, not_false_eq_true, true_and, and_true, false_or, or_false, Classical.not_not, if_true, if_false, if_pos, if_neg] <;> omega), eh, show nI k + 1 = nI (k + 1) from nI_add k 1, bm_up]
    by_cases c1 : s.how k = 0
    · have e : ¬ nw D s k = true := by unfold nw; simp [c1]
      rw [if_pos (by rw [c1]; rfl), if_neg e, show (0 : Int32) = nI 0 from rfl, fa_or]
      exact ⟨_, rfl, rfl⟩
    · have e : nw D s k = true := by unfold nw; simp [c1]
      rw [if_neg (by rw [show (0 : Int32) = nI 0 from rfl, nEQ _ _ (by omega) (by omega)]; exact c1), if_pos e, sh1 (by omega), fa_or]
      exact ⟨_, rfl, rfl⟩
  · intro m q hq
    subst hq
    show fX12_lostBits_b4 n (fX12_lostBits_L4 n m) (nI (bm (nw D s) (D + 2))) (nI (D + 2)) σ = _
    unfold fX12_lostBits_b4
    rw [h5, if_pos (by simp (disch := first | omega | assumption) only [fa_lit, nLE, nLT, nEQ, nI_add, nSA, nSUB, pk_mul, nDIV, nREM, nCL, fa_and, nx_xor, fa_or, nSHL, nSHR, nUS, n31, n255, Nat.and_one_is_mod, b_I, b_V, b_L, not_or, Nat.not_lt_zero, Nat.not_le, Nat.not_lt, not_false_eq_true, true_and, and_true, false_or, or_false, Classical.not_not, if_true, if_false, if_pos, if_neg] <;> omega)]
theorem X_byteRead {D S C F n i a : Nat} {s : Sh} {σ : gM} (hn : 20 ≤ n) (hE : XE D S C F σ) (hO : Ok D S C s) (hX : XS C s (σ.1 (11 + 5 * i))) (ha : a < D * S * C) :
    ∃ σ', fX8_byteRead n i (nI a) σ = some (nI (gv F D s (a / C / D) (a % C) (a / C % D)), σ') ∧ XB D i (gv F D s (a / C / D) (a % C)) σ' ∧ fr [13 + 5 * i] σ σ' := by
  have hw := hE.1
  obtain ⟨w1, w2, w3, w4, w5, w6, w7⟩ := hE.1
  have ha' := ad_1000 w2 w4 w6 ha
  obtain ⟨at1, at2, at3⟩ := ad_lt w5 w1 ha
  have h2 := th_two (by omega) w1 w4 at1 hO
  obtain ⟨σ', e, B', f'⟩ := X_gather (n := n) (i := i) (t := a / C / D) (b := a % C) (is := th D s (a / C / D)) hn hE hX hO.byt (by omega) at3 (fun r _ z => z) h2
  have hE' := XE_fr hE f' (by simp <;> omega) (by simp <;> omega) (by simp <;> omega) (by simp <;> omega)
  unfold fX8_byteRead
  rw [X_stripeOf hw hE.2.1 ha', b_I, X_byteOf hw hE.2.1 ha', b_I, X_missing hn hE (Ok_don hO w4) hX (by omega), b_I, e, b_V, X_partOf hw hE'.2.1 ha', b_I, X_rget (by omega), b_I, B' _ (by omega)]
  exact ⟨σ', rfl, B', f'⟩
section OPS
variable {c : Nat} {σX σM : gM}
theorem o42 (a1 : Int32) (h : Inv c σX σM) : ∃ (r : Int32) (τX τM : gM), fX11_most 1000 a1 σX = some (r, τX) ∧ fX12_most 1000 a1 σM = some (r, τM) ∧ Inv (c + 1) τX τM := by
  have h0 := Inv_0 h 0
  unfold fX11_most fX12_most
  rw [b_L]
  generalize g_put σM 0 0 0 = σ0 at *
  rcases Inv_cases h0 with hN | ⟨D, S, C, F, s, xe, me, ok, xs, ms⟩
  · rw [no_pres hN, b_I, if_pos rfl, if_pos hN.m14]
    exact ⟨_, _, _, rfl, rfl, h0⟩
  · have xs0 : XS C s (σX.1 (11 + 5 * 0)) := xs
    have k1 := ms.rds
    have k2 := ms.wrs
    have k3 := ms.mds
    have k4 := ms.op
    have k5 := ms.ps
    have k6 := ms.nx
    have k7 := ms.di
    have k8 := ms.l0
    have k9 := ms.l1
    have k10 := ms.l2
    rw [Nat.zero_add] at k1 k2 k3 k4 k5 k6 k7 k8 k9 k10
    rw [hP55 xe, b_I, if_neg n10, if_neg (hA14 me), show (112 : Int32) = nI 112 from rfl, show (120 : Int32) = nI 120 from rfl, show (128 : Int32) = nI 128 from rfl, X_sum8 (C := C) (by omega) (by omega) xs0.rd, X_sum8 (C := C) (by omega) (by omega) xs0.wr, X_sum8 (C := C) (by omega) (by omega) xs0.md, show (137 : Int32) = nI 137 from rfl, show (138 : Int32) = nI 138 from rfl, show (139 : Int32) = nI 139 from rfl, show (140 : Int32) = nI 140 from rfl, show (141 : Int32) = nI 141 from rfl, show (142 : Int32) = nI 142 from rfl, show (143 : Int32) = nI 143 from rfl, X_get (by omega), X_get (by omega), X_get (by omega), X_get (by omega), X_get (by omega), X_get (by omega), X_get (by omega), X_notWhole (by omega) xe ok.how xs0, M_lostBits (by omega) me ok.how ms, b_I, b_I, b_I, b_I, b_I, b_I, b_I, b_I, b_I, b_I, b_I, b_I, xs0.op, xs0.ps, xs0.nx, xs0.di, xs0.l0, xs0.l1, xs0.l2, k1, k2, k3, k4, k5, k6, k7]
    by_cases c0 : a1 = 0
    · rw [if_pos c0, if_pos c0]
      exact ⟨_, _, _, rfl, rfl, h0⟩
    rw [if_neg c0, if_neg c0]
    by_cases c1 : a1 = 1
    · rw [if_pos c1, if_pos c1]
      exact ⟨_, _, _, rfl, rfl, h0⟩
    rw [if_neg c1, if_neg c1]
    by_cases c2 : a1 = 2
    · rw [if_pos c2, if_pos c2]
      exact ⟨_, _, _, rfl, rfl, h0⟩
    rw [if_neg c2, if_neg c2]
    by_cases c3 : a1 = 3
    · rw [if_pos c3, if_pos c3]
      exact ⟨_, _, _, rfl, rfl, h0⟩
    rw [if_neg c3, if_neg c3]
    by_cases c4 : a1 = 4
    · rw [if_pos c4, if_pos c4]
      exact ⟨_, _, _, rfl, rfl, h0⟩
    rw [if_neg c4, if_neg c4]
    by_cases c5 : a1 = 5
    · rw [if_pos c5, if_pos c5]
      exact ⟨_, _, _, rfl, rfl, h0⟩
    rw [if_neg c5, if_neg c5]
    by_cases c6 : a1 = 6
    · rw [if_pos c6, if_pos c6]
      exact ⟨_, _, _, rfl, rfl, h0⟩
    rw [if_neg c6, if_neg c6]
    by_cases c7 : a1 = 7
    · rw [if_pos c7, if_pos c7]
      exact ⟨_, _, _, rfl, rfl, h0⟩
    rw [if_neg c7, if_neg c7]
    by_cases c8 : a1 = 8
    · subst c8
      rw [if_pos rfl, if_pos rfl, if_pos (by decide), show ((432 : Int32) + 8 - 8).toNatClampNeg = 432 from by decide, k8]
      exact ⟨_, _, _, rfl, rfl, h0⟩
    rw [if_neg c8, if_neg c8]
    by_cases c9 : a1 = 9
    · subst c9
      rw [if_pos rfl, if_pos rfl, if_pos (by decide), show ((432 : Int32) + 9 - 8).toNatClampNeg = 433 from by decide, k9]
      exact ⟨_, _, _, rfl, rfl, h0⟩
    rw [if_neg c9, if_neg c9]
    by_cases c10 : a1 = 10
    · subst c10
      rw [if_pos rfl, if_pos rfl, if_pos (by decide), show ((432 : Int32) + 10 - 8).toNatClampNeg = 434 from by decide, k10]
      exact ⟨_, _, _, rfl, rfl, h0⟩
    rw [if_neg c10, if_neg c10]
    exact ⟨_, _, _, rfl, rfl, h0⟩
theorem len_min {a : Nat} (ha : a < 1000000) : (if 60 < nI a then (60 : Int32) else nI a) = nI (min a 60) := by
  by_cases q : 60 < a
  · rw [if_pos (by simp (disch := first | omega | assumption) only [fa_lit, nLE, nLT, nEQ, nI_add, nSA, nSUB, pk_mul, nDIV, nREM, nCL, fa_and, nx_xor, fa_or, nSHL, nSHR, nUS, n31, n255, Nat.and_one_is_mod, b_I, b_V, b_L, not_or, Nat.not_lt_zero, Nat.not_le, Nat.not_lt, not_false_eq_true, true_and, and_true, false_or, or_false, Classical.not_not, if_true, if_false, if_pos, if_neg] <;> omega), show min a 60 = 60 by omega]; rfl
  · rw [if_neg (by simp (disch := first | omega | assumption) only [fa_lit, nLE, nLT, nEQ, nI_add, nSA, nSUB, pk_mul, nDIV, nREM, nCL, fa_and, nx_xor, fa_or, nSHL, nSHR, nUS, n31, n255, Nat.and_one_is_mod, b_I, b_V, b_L, not_or, Nat.not_lt_zero, Nat.not_le, Nat.not_lt, not_false_eq_true, true_and, and_true, false_or, or_false, Classical.not_not, if_true, if_false, if_pos, if_neg] <;> omega), show min a 60 = a by omega]
theorem o45 (hc : c < 512) (a1 : Int32) (h : Inv c σX σM) : ∃ (r : Int32) (τX τM : gM), fX11_count a1 σX = some (r, τX) ∧ fX12_count a1 σM = some (r, τM) ∧ Inv (c + 1) τX τM := by
  have h0 := Inv_0 h 0
  unfold fX11_count fX12_count fX10_size fX3_length fX2_size
  rw [b_L]
  generalize g_put σM 0 0 0 = σ0 at *
  obtain ⟨L, T, t1, t2, t3, t4⟩ := h0.1
  obtain ⟨m, m1, m2, m3, m4⟩ := h0.2.1
  rw [b_I, b_I, b_I, t2, t3, m2, m3]
  by_cases c1 : a1 = 1
  · have z0 : ¬ a1 = 0 := by rw [c1]; decide
    rw [if_neg z0, if_neg z0, if_pos c1, if_pos c1]
    exact ⟨_, _, _, rfl, rfl, h0⟩
  by_cases c2 : a1 = 2
  · have z0 : ¬ a1 = 0 := by rw [c2]; decide
    rw [if_neg z0, if_neg z0, if_neg c1, if_neg c1, if_pos c2, if_pos c2]
    exact ⟨_, _, _, rfl, rfl, h0⟩
  rw [if_neg c1, if_neg c1, if_neg c2, if_neg c2]
  have hB := h0.2.2.2
  rcases hB with hN | ⟨D, S, C, F, ⟨s, E, a, hh, e, g, Hs, haB, hI⟩, _⟩
  · unfold fX6_addresses
    rw [b_I, hN.x0, hN.x1, hN.x2, hN.n2, hN.m14, hN.m22, hN.mlo, show (25 + 2 * 0) = 25 from rfl, hN.l1]
    by_cases c0 : a1 = 0
    · rw [if_pos c0, if_pos c0]
      exact ⟨_, _, _, rfl, rfl, h0⟩
    rw [if_neg c0, if_neg c0]
    by_cases c3 : a1 = 3
    · rw [if_pos c3, if_pos c3]
      exact ⟨_, _, _, rfl, rfl, h0⟩
    rw [if_neg c3, if_neg c3]
    by_cases c4 : a1 = 4
    · rw [if_pos c4, if_pos c4]
      exact ⟨_, _, _, rfl, rfl, h0⟩
    rw [if_neg c4, if_neg c4]
    exact ⟨_, _, _, rfl, rfl, h0⟩
  · have elo := hI.ms.lo 0 (by omega)
    rw [Nat.zero_add, hI.lo.1] at elo
    have elo' : σ0.1 10 435 = nI (min a 60) := elo
    have exl : σX.1 25 1 = nI a := hI.xl.1
    rw [X_addresses hI.xe, b_I, hI.me.2.1.2.2.2.2.2, show (25 + 2 * 0) = 25 from rfl, exl, len_min (by omega), elo', hI.hi.sz, hI.hi.ac]
    by_cases c0 : a1 = 0
    · rw [if_pos c0, if_pos c0]
      exact ⟨_, _, _, rfl, rfl, h0⟩
    rw [if_neg c0, if_neg c0]
    by_cases c3 : a1 = 3
    · rw [if_pos c3, if_pos c3]
      exact ⟨_, _, _, rfl, rfl, h0⟩
    rw [if_neg c3, if_neg c3]
    by_cases c4 : a1 = 4
    · rw [if_pos c4, if_pos c4]
      exact ⟨_, _, _, rfl, rfl, h0⟩
    rw [if_neg c4, if_neg c4]
    exact ⟨_, _, _, rfl, rfl, h0⟩
theorem o26 (hc : c < 512) (a1 a2 : Int32) (h : Inv c σX σM) : ∃ (r : Int32) (τX τM : gM), fX11_log a1 a2 σX = some (r, τX) ∧ fX12_log a1 a2 σM = some (r, τM) ∧ Inv (c + 1) τX τM := by
  have h0 := Inv_0 h 0
  unfold fX11_log fX12_log fX3_tell fX3_length fX3_tell_b21 fX12_log_b33
  rw [b_L]
  generalize g_put σM 0 0 0 = σ0 at *
  by_cases q0 : a1 < 0
  · rw [if_pos q0, if_pos q0, b_I]
    exact ⟨_, _, _, rfl, rfl, h0⟩
  rw [if_neg q0, if_neg q0, b_I, show (25 + 2 * 0) = 25 from rfl, show (26 + 2 * 0) = 26 from rfl]
  rcases h0.2.2.2 with hN | ⟨D, S, C, F, ⟨s, E, a, hh, e, g, Hs, haB, hI⟩, _⟩
  · rw [hN.l1, hN.mlo, if_neg (by decide : ¬ (60 : Int32) < 0), if_pos (i_ge0 q0), if_pos (i_ge0 q0), b_I]
    exact ⟨_, _, _, rfl, rfl, h0⟩
  · have elo : ∀ k, k < 181 → σ0.1 10 (435 + k) = s.lo k := fun k hk => by have := hI.ms.lo k hk; rw [Nat.zero_add] at this; exact this
    have elo' : σ0.1 10 435 = nI (min a 60) := (elo 0 (by omega)).trans hI.lo.1
    have exl : σX.1 25 1 = nI a := hI.xl.1
    rw [exl, len_min (by omega), elo']
    rcases i_rng a1 (N := min a 60) (by omega) with q | q | ⟨k, hk, rfl⟩
    · exact absurd q q0
    · rw [if_pos q.2, if_pos q.2, b_I]
      exact ⟨_, _, _, rfl, rfl, h0⟩
    · have n1 : ¬ nI (min a 60) ≤ nI k := by rw [nLE _ _ (by omega) (by omega)]; omega
      rw [if_neg n1, if_neg n1]
      rcases i_rng a2 (N := 3) (by omega) with q | q | ⟨x, hx, rfl⟩
      · rw [if_pos q, b_I, l_0, l_2, M_isIn_lo q (by omega), b_I, if_pos rfl]
        exact ⟨_, _, _, rfl, rfl, h0⟩
      · rw [if_neg q.1, if_neg (by
          intro z
          have z := Int32.lt_iff_toInt_lt.mp z
          have := Int32.le_iff_toInt_le.mp q.2
          rw [nI_toInt (by omega)] at this
          have e1 : (3 : Int32).toInt = 3 := by decide
          omega), b_I, l_0, l_2, M_isIn_hi q.2 (by omega), b_I, if_pos rfl]
        exact ⟨_, _, _, rfl, rfl, h0⟩
      · have hm : (a - 1 - k) % 100 < 100 := Nat.mod_lt _ (by decide)
        have ex := hI.xl.2 (a - 1 - k) x (by omega) (by omega) hx
        have em := (elo (1 + 3 * (min a 60 - 1 - k) + x) (by omega)).trans (hI.lo.2 (min a 60 - 1 - k) x (by omega) hx)
        rw [show 435 + (1 + 3 * (min a 60 - 1 - k) + x) = 436 + 3 * (min a 60 - 1 - k) + x by omega, show a - min a 60 + (min a 60 - 1 - k) = a - 1 - k by omega] at em
        have ex' : σX.1 26 (3 * ((a - 1 - k) % 100) + x) = E (a - 1 - k) x := ex
        have e1 : nI a - 1 - nI k = nI (a - 1 - k) := by
          rw [show nI a - 1 = nI (a - 1) from pk_sub (b := 1) (by omega)]
          exact pk_sub (by omega)
        have e2 : (3 : Int32) * nI ((a - 1 - k) % 100) + nI x = nI (3 * ((a - 1 - k) % 100) + x) := by
          rw [show (3 : Int32) * nI ((a - 1 - k) % 100) = nI (3 * ((a - 1 - k) % 100)) from pk_mul 3 _, nI_add]
        have e3 : (436 : Int32) + 3 * (nI (min a 60) - 1 - nI k) + nI x = nI (436 + 3 * (min a 60 - 1 - k) + x) := by
          rw [show nI (min a 60) - 1 = nI (min a 60 - 1) from pk_sub (b := 1) (by omega), show nI (min a 60 - 1) - nI k = nI (min a 60 - 1 - k) from pk_sub (by omega), show (3 : Int32) * nI (min a 60 - 1 - k) = nI (3 * (min a 60 - 1 - k)) from pk_mul 3 _, show (436 : Int32) + nI (3 * (min a 60 - 1 - k)) = nI (436 + 3 * (min a 60 - 1 - k)) from nI_add 436 _, nI_add]
        have n2 : ¬ nI x < 0 := by rw [show (0 : Int32) = nI 0 from rfl, nLT _ _ (by omega) (by omega)]; omega
        have n3 : nI x < 3 := by rw [show (3 : Int32) = nI 3 from rfl, nLT _ _ (by omega) (by omega)]; omega
        rw [if_neg n2, if_pos n3, e1, show (100 : Int32) = nI 100 from rfl, fm_pos (by omega) (by omega) (by omega), b_I, e2, nCL (by omega), if_pos (by simp (disch := first | omega | assumption) only [fa_lit, nLE, nLT, nEQ, nI_add, nSA, nSUB, pk_mul, nDIV, nREM, nCL, fa_and, nx_xor, fa_or, nSHL, nSHR, nUS, n31, n255, Nat.and_one_is_mod, b_I, b_V, b_L, not_or, Nat.not_lt_zero, Nat.not_le, Nat.not_lt, not_false_eq_true, true_and, and_true, false_or, or_false, Classical.not_not, if_true, if_false, if_pos, if_neg] <;> omega), ex', b_I, l_0, l_2, M_isIn_yes (by omega) (by omega) (by omega), b_I, if_neg n10, elo', e3, nCL (by omega), if_pos (by simp (disch := first | omega | assumption) only [fa_lit, nLE, nLT, nEQ, nI_add, nSA, nSUB, pk_mul, nDIV, nREM, nCL, fa_and, nx_xor, fa_or, nSHL, nSHR, nUS, n31, n255, Nat.and_one_is_mod, b_I, b_V, b_L, not_or, Nat.not_lt_zero, Nat.not_le, Nat.not_lt, not_false_eq_true, true_and, and_true, false_or, or_false, Classical.not_not, if_true, if_false, if_pos, if_neg] <;> omega), em]
        exact ⟨_, _, _, rfl, rfl, h0⟩
end OPS
