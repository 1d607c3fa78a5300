/-! the face: equal, span, risk -/
def sg (f : Nat → Nat) : Nat → Nat
  | 0 => 0
  | n + 1 => sg f n + f n
section OPS
variable {c : Nat} {σX σM : gM}
theorem o34 (h : Inv c σX σM) : ∃ (r : Int32) (τX τM : gM), fX11_equal 1000 σX = some (r, τX) ∧ fX12_equal 1000 σM = some (r, τM) ∧ Inv (c + 1) τX τM := by
  have h0 := Inv_0 h 0
  unfold fX11_equal fX12_equal
  rw [b_L]
  generalize g_put σM 0 0 0 = σ0 at *
  obtain ⟨hT, hS, hU, hB⟩ := id h0
  rcases hB with hN | ⟨D, S, C, F, ⟨s, E0, a0, h0', e, g, Hs, haB, hI⟩, hM⟩
  · rw [if_pos hN.im, if_pos hN.m23]
    exact ⟨_, _, _, rfl, rfl, h0⟩
  · rcases id hM with ⟨i1, i2⟩ | ⟨i1, i2, s2, E, a, i3, i4, i5, i6, i7, i8⟩
    · rw [if_pos i1, if_pos i2]
      exact ⟨_, _, _, rfl, rfl, h0⟩
    · have xe := hI.xe
      have me := hI.me
      obtain ⟨w1, w2, w3, w4, w5, w6, w7⟩ := xe.1
      have hDSC := DSC_lt xe.1
      have z1 : ¬ σX.1 0 15 = 0 := by rw [i1]; decide
      have z2 : ¬ σ0.1 0 23 = 0 := by rw [i2]; decide
      rw [if_neg z1, if_neg z2]
      unfold fX4_sameAs
      have key : ∃ (r : Int32) (τX τM : gM), fX4_sameAs_L4 1000 2 1000 0 0 σX = some (r, τX) ∧ fX12_equal_L18 1000 1000 0 0 σ0 = some (r, τM) ∧ fr [13, 23] σX τX ∧ fr [14, 15] σ0 τM := by
        refine lp (L := fun m k (q : Int32 × gM × gM) => (fX4_sameAs_L4 1000 2 m q.1 (nI k) q.2.1, fX12_equal_L18 1000 m q.1 (nI k) q.2.2)) (I := fun k q => fr [13, 23] σX q.2.1 ∧ fr [14, 15] σ0 q.2.2) (Q := fun o => ∃ (r : Int32) (τX τM : gM), o.1 = some (r, τX) ∧ o.2 = some (r, τM) ∧ fr [13, 23] σX τX ∧ fr [14, 15] σ0 τM) (N := D * S * C) ?_ ?_ (D * S * C) 1000 0 (0, σX, σ0) (by omega) (by omega) ⟨fr_refl _ _, fr_refl _ _⟩
        · intro m k q hk hq
          obtain ⟨q1, q2⟩ := hq
          have xea := XE_fr xe q1 (by simp) (by simp) (by simp) (by simp)
          have mea := ME_fr me q2 (by simp) (by simp) (by simp) (by simp)
          have xsa : XS C s (q.2.1.1 (11 + 5 * 0)) := by rw [q1.1 (11 + 5 * 0) (by simp)]; exact hI.xs
          have msa : MS C s (q.2.2.1 10) 0 := by rw [q2.1 10 (by simp)]; exact hI.ms
          obtain ⟨X1, l1, _, g1⟩ := X_byteRead (n := 1000) (i := 0) (by omega) xea hI.ok xsa hk
          have xeb := XE_fr xea g1 (by simp) (by simp) (by simp) (by simp)
          have xsb : XS C s2 (X1.1 (11 + 5 * 2)) := by rw [g1.1 (11 + 5 * 2) (by simp), q1.1 (11 + 5 * 2) (by simp)]; exact i5
          obtain ⟨X2, l2, _, g2⟩ := X_byteRead (n := 1000) (i := 2) (by omega) xeb i4 xsb hk
          obtain ⟨M1, k1, f1⟩ := M_reads (n := 1000) (by omega) mea hI.ok msa (by omega) (by omega) hk
          have meb := ME_fr mea f1 (by simp) (by simp) (by simp) (by simp)
          have msb : MS C s2 (M1.1 12) 0 := by rw [f1.1 12 (by simp), q2.1 12 (by simp)]; exact i6
          obtain ⟨M2, k2, f2⟩ := M_reads (n := 1000) (by omega) meb i4 msb (by omega) (by omega) hk
          have m6 : q.2.2.1 0 14 = nI (D * S * C) := mea.2.1.2.2.2.2.2
          have FX : fr [13, 23] σX X2 := fr_trans q1 (fr_trans (fr_mono g1 (by simp)) (fr_mono g2 (by simp)))
          have FM : fr [14, 15] σ0 M2 := fr_trans q2 (fr_trans f1 f2)
          have n1 : ¬ nI (D * S * C) ≤ nI k := by rw [nLE _ _ (by omega) (by omega)]; omega
          left
          show ∃ a', (fX4_sameAs_b4 1000 2 (fX4_sameAs_L4 1000 2 m) q.1 (nI k) q.2.1, fX12_equal_b18 1000 (fX12_equal_L18 1000 m) q.1 (nI k) q.2.2) = _ ∧ _
          unfold fX4_sameAs_b4 fX12_equal_b18 fX4_sameAs_b34 fX12_equal_b55
          rw [X_addresses xea, b_I, if_neg n1, l1, b_I, l2, b_I, m6, if_neg n1, k1, b_I, k2, b_I, show nI k + 1 = nI (k + 1) from nI_add k 1]
          by_cases y : nI (gv F D s (k / C / D) (k % C) (k / C % D)) = nI (gv F D s2 (k / C / D) (k % C) (k / C % D))
          · rw [if_pos y, if_pos y.symm]
            exact ⟨(q.1 + 1, X2, M2), rfl, FX, FM⟩
          · rw [if_neg y, if_neg (fun z => y z.symm), Int32.add_zero]
            exact ⟨(q.1, X2, M2), rfl, FX, FM⟩
        · intro m q hq
          obtain ⟨q1, q2⟩ := hq
          have xea := XE_fr xe q1 (by simp) (by simp) (by simp) (by simp)
          have mea := ME_fr me q2 (by simp) (by simp) (by simp) (by simp)
          have m6 : q.2.2.1 0 14 = nI (D * S * C) := mea.2.1.2.2.2.2.2
          have n1 : nI (D * S * C) ≤ nI (D * S * C) := by rw [nLE _ _ (by omega) (by omega)]; omega
          refine ⟨q.1, q.2.1, q.2.2, ?_, ?_, q1, q2⟩
          · show fX4_sameAs_b4 1000 2 (fX4_sameAs_L4 1000 2 m) q.1 (nI (D * S * C)) q.2.1 = _
            unfold fX4_sameAs_b4
            rw [X_addresses xea, b_I, if_pos n1]
          · show fX12_equal_b18 1000 (fX12_equal_L18 1000 m) q.1 (nI (D * S * C)) q.2.2 = _
            unfold fX12_equal_b18
            rw [m6, if_pos n1]
      obtain ⟨r, τX, τM, k1, k2, k3, k4⟩ := key
      rw [k1, b_I, k2]
      exact ⟨_, _, _, rfl, rfl, Inv_gk h0 (gj_fr (J := []) k3 (by simp)) (gj_fr (J := []) k4 (by simp)) (by decide) (by decide) (by decide) (by decide)⟩
theorem o35 (a1 : Int32) (h : Inv c σX σM) : ∃ (r : Int32) (τX τM : gM), fX11_span 1000 a1 σX = some (r, τX) ∧ fX12_span 1000 a1 σM = some (r, τM) ∧ Inv (c + 1) τX τM := by
  have h0 := Inv_0 h 0
  unfold fX11_span fX12_span
  rw [b_L]
  generalize g_put σM 0 0 0 = σ0 at *
  rcases Inv_cases h0 with hN | ⟨D, S, C, F, s, xe, me, ok, xs, ms⟩
  · rw [no_pres hN, b_I, if_pos rfl, if_pos hN.m14]
    exact ⟨_, _, _, rfl, rfl, h0⟩
  · have hw := xe.1
    obtain ⟨w1, w2, w3, w4, w5, w6, w7⟩ := xe.1
    have hDSC := DSC_lt xe.1
    have xs0 : XS C s (σX.1 (11 + 5 * 0)) := xs
    have m6 : σ0.1 0 14 = nI (D * S * C) := me.2.1.2.2.2.2.2
    rw [hP55 xe, b_I, if_neg n10, if_neg (hA14 me)]
    rcases i_rng a1 (N := 2) (by omega) with q | q | ⟨x, hx, rfl⟩
    · rw [if_pos q, l_0, l_1, M_isIn_lo q (by omega), b_I, if_pos rfl]
      exact ⟨_, _, _, rfl, rfl, h0⟩
    · rw [if_neg q.1, if_neg (by
        intro z
        have z := Int32.le_iff_toInt_le.mp z
        have := Int32.le_iff_toInt_le.mp q.2
        rw [nI_toInt (by omega)] at this
        have e1 : (1 : Int32).toInt = 1 := by decide
        omega), l_0, l_1, M_isIn_hi q.2 (by omega), b_I, if_pos rfl]
      exact ⟨_, _, _, rfl, rfl, h0⟩
    · have y1 : ¬ nI x < 0 := by rw [show (0 : Int32) = nI 0 from rfl, nLT _ _ (by omega) (by omega)]; omega
      have y2 : nI x ≤ 1 := by rw [show (1 : Int32) = nI 1 from rfl, nLE _ _ (by omega) (by omega)]; omega
      rw [if_neg y1, if_pos y2, l_0, l_1, M_isIn_yes (by omega) (by omega) (by omega), b_I, if_neg n10]
      unfold fX4_longestHidden
      have key : ∃ r : Int32, fX4_longestHidden_L10 1000 1000 (nI x) 0 (-1) 0 0 σX = some (r, σX) ∧ fX12_span_L34 1000 1000 (nI x) 0 (-1) 0 0 σ0 = some (r, σ0) := by
        refine lp (L := fun m k (q : Int32 × Int32 × Int32) => (fX4_longestHidden_L10 1000 m (nI x) q.1 q.2.1 q.2.2 (nI k) σX, fX12_span_L34 1000 m (nI x) q.1 q.2.1 q.2.2 (nI k) σ0)) (I := fun _ _ => True) (Q := fun o => ∃ r : Int32, o.1 = some (r, σX) ∧ o.2 = some (r, σ0)) (N := D * S * C) ?_ ?_ (D * S * C) 1000 0 (0, -1, 0) (by omega) (by omega) trivial
        · intro m k q hk _
          have ha' := ad_1000 w2 w4 w6 hk
          obtain ⟨at1, at2, at3⟩ := ad_lt w5 w1 hk
          have i1 := dk_lt D (k / C / D) (k / C % D)
          have n1 : ¬ nI (D * S * C) ≤ nI k := by rw [nLE _ _ (by omega) (by omega)]; omega
          left
          show ∃ a', (fX4_longestHidden_b10 1000 (fX4_longestHidden_L10 1000 m) (nI x) q.1 q.2.1 q.2.2 (nI k) σX, fX12_span_b34 1000 (fX12_span_L34 1000 m) (nI x) q.1 q.2.1 q.2.2 (nI k) σ0) = _ ∧ _
          unfold fX4_longestHidden_b10 fX12_span_b34
          rw [X_addresses xe, b_I, if_neg n1, X_stripeOf hw xe.2.1 ha', b_I, X_partOf hw xe.2.1 ha', b_I, X_diskOf hw xe.2.1 (by omega) (by omega), b_I, X_isThere xs0 (by omega) (by omega) (Ok_don ok w4 _ (by omega)), b_I, m6, if_neg n1, M_stripeOf hw me.2.1 ha', b_I, M_partOf hw me.2.1 ha', b_I, M_diskOf hw me.2.1 (by omega) (by omega), b_I, M_stripeOf hw me.2.1 ha', b_I, M_isThere ok w4 ms (by omega) at1, b_I]
          have fin : ∀ s0 : Int32, ∃ a' : Int32 × Int32 × Int32, (fX4_longestHidden_b75 1000 (fX4_longestHidden_L10 1000 m) (nI x) q.1 q.2.1 (nI k) s0 σX, fX12_span_b83 1000 (fX12_span_L34 1000 m) (nI x) q.1 q.2.1 (nI k) s0 σ0) = (fX4_longestHidden_L10 1000 m (nI x) a'.1 a'.2.1 a'.2.2 (nI (k + 1)) σX, fX12_span_L34 1000 m (nI x) a'.1 a'.2.1 a'.2.2 (nI (k + 1)) σ0) ∧ True := by
            intro s0
            unfold fX4_longestHidden_b75 fX12_span_b83 fX4_longestHidden_b94 fX12_span_b105
            rw [show nI k + 1 = nI (k + 1) from nI_add k 1]
            by_cases y : s0 ≤ q.1
            · rw [if_pos y, if_neg (Int32.not_lt.mpr y)]
              exact ⟨(q.1, q.2.1, s0), rfl, trivial⟩
            · rw [if_neg y, if_pos (Int32.not_le.mp y)]
              exact ⟨(s0, nI k - s0 + 1, s0), rfl, trivial⟩
          by_cases y : k / C / D < s.don (dk D (k / C / D) (k / C % D))
          · rw [if_pos y, if_neg (show ¬ nI 1 = 0 by decide), if_neg (show ¬ nI 1 = 0 by decide)]
            exact fin 0
          · rw [if_neg y, if_pos (show nI 0 = 0 from rfl), if_pos (show nI 0 = 0 from rfl)]
            exact fin (q.2.2 + 1)
        · intro m q _
          have n1 : nI (D * S * C) ≤ nI (D * S * C) := by rw [nLE _ _ (by omega) (by omega)]; omega
          show ∃ r : Int32, fX4_longestHidden_b10 1000 (fX4_longestHidden_L10 1000 m) (nI x) q.1 q.2.1 q.2.2 (nI (D * S * C)) σX = some (r, σX) ∧ fX12_span_b34 1000 (fX12_span_L34 1000 m) (nI x) q.1 q.2.1 q.2.2 (nI (D * S * C)) σ0 = some (r, σ0)
          unfold fX4_longestHidden_b10 fX12_span_b34
          rw [X_addresses xe, b_I, if_pos n1, m6, if_pos n1]
          by_cases y : nI x = 0
          · rw [if_pos y, if_pos y]
            exact ⟨_, rfl, rfl⟩
          · rw [if_neg y, if_neg y]
            exact ⟨_, rfl, rfl⟩
      obtain ⟨r, k1, k2⟩ := key
      rw [k1, b_I, k2]
      exact ⟨_, _, _, rfl, rfl, h0⟩
/-- a couple that could be lost -/
def rkP (D : Nat) (s : Sh) (i j : Nat) : Bool := decide (s.how i ≠ 1) && decide (s.how j ≠ 1) && decide (ct (fun d => nw D s d || decide (d = i) || decide (d = j)) (D + 2) ≤ 2)
def rkC (D : Nat) (s : Sh) (i : Nat) : Nat → Nat := ct (fun j => decide (i < j) && rkP D s i j)
theorem rkC_0 (D : Nat) (s : Sh) (i : Nat) : ∀ k, k ≤ i + 1 → rkC D s i k = 0
  | 0, _ => rfl
  | k + 1, h => by
    unfold rkC at *
    have ih : ct (fun j => decide (i < j) && rkP D s i j) k = 0 := rkC_0 D s i k (by omega)
    rw [ct, ih]
    have : ¬ i < k := by omega
    simp [this]
theorem o36 (h : Inv c σX σM) : ∃ (r : Int32) (τX τM : gM), fX11_risk 1000 σX = some (r, τX) ∧ fX12_risk 1000 σM = some (r, τM) ∧ Inv (c + 1) τX τM := by
  have h0 := Inv_0 h 0
  unfold fX11_risk fX12_risk
  rw [b_L]
  generalize g_put σM 0 0 0 = σ0 at *
  rcases Inv_cases h0 with hN | ⟨D, S, C, F, s, xe, me, ok, xs, ms⟩
  · rw [no_pres hN, b_I, if_pos rfl, if_pos hN.m14]
    exact ⟨_, _, _, rfl, rfl, h0⟩
  · obtain ⟨w1, w2, w3, w4, w5, w6, w7⟩ := xe.1
    obtain ⟨x0, x1, x2, x3, x5, x6, x7, x8, x9⟩ := xe.2.1
    obtain ⟨m0, m1, m2, m3, m5, m6⟩ := me.2.1
    have xs0 : XS C s (σX.1 (11 + 5 * 0)) := xs
    have em : ∀ i j, i < D + 2 → j < D + 2 → (nI (bm (nw D s) (D + 2)) ||| nI (2 ^ i)) ||| nI (2 ^ j) = nI (bm (fun d => nw D s d || decide (d = i) || decide (d = j)) (D + 2)) := by
      intro i j hi hj
      rw [fa_or, fa_or, bm_one hi, bm_one hj, bm_or, bm_or]
    have ec : ∀ i j, ct (fun k => (bm (fun d => nw D s d || decide (d = i) || decide (d = j)) (D + 2)).testBit k) 12 = ct (fun d => nw D s d || decide (d = i) || decide (d = j)) (D + 2) := by
      intro i j
      rw [ct_ext (fun k _ => bm_tb _ (D + 2) k), ct_cut 12 (by omega)]
    -- the inner loop, class
    have iX : ∀ (K : Int32 → Int32 → Int32 → gM → Option (Int32 × gM)) (i : Nat) (v : Nat), i < D + 2 → fX4_losableCouples_L28 1000 K 1000 (nI v) (nI (bm (nw D s) (D + 2))) (nI i) (nI (i + 1)) σX = K (nI (v + rkC D s i (D + 2))) (nI (bm (nw D s) (D + 2))) (nI (i + 1)) σX := by
      intro K i v hi
      refine lp (L := fun m k (q : Int32) => fX4_losableCouples_L28 1000 K m q (nI (bm (nw D s) (D + 2))) (nI i) (nI (i + 1 + k)) σX) (I := fun k q => q = nI (v + rkC D s i (i + 1 + k))) (Q := fun o => o = K (nI (v + rkC D s i (D + 2))) (nI (bm (nw D s) (D + 2))) (nI (i + 1)) σX) (N := D + 2 - (i + 1)) ?_ ?_ (D + 2 - (i + 1)) 1000 0 (nI v) (by omega) (by omega) (by rw [rkC_0 D s i _ (by omega)]; rfl)
      · intro m k q hk hq
        subst hq
        have hj : i + 1 + k < D + 2 := by omega
        have hci := ct_le (fun d => nw D s d || decide (d = i) || decide (d = i + 1 + k)) (D + 2)
        left
        show ∃ a', fX4_losableCouples_b28 1000 K (fX4_losableCouples_L28 1000 K m) (nI (v + rkC D s i (i + 1 + k))) (nI (bm (nw D s) (D + 2))) (nI i) (nI (i + 1 + k)) σX = _ ∧ _
        have up : rkC D s i (i + 1 + (k + 1)) = rkC D s i (i + 1 + k) + (if rkP D s i (i + 1 + k) then 1 else 0) := by
          show ct _ (i + 1 + k + 1) = _
          rw [ct]
          have : i < i + 1 + k := by omega
          simp [this, rkC]
        unfold fX4_losableCouples_b28 fX4_losableCouples_b65 fX4_losableCouples_b70 fX4_losableCouples_b97
        rw [x5, if_neg (by simp (disch := first | omega | assumption) only [fa_lit, nLE, nLT, nEQ, nI_add, nSA, nSUB, pk_mul, nDIV, nREM, nCL, fa_and, nx_xor, fa_or, nSHL, nSHR, nUS, n31, n255, Nat.and_one_is_mod, b_I, b_V, b_L, not_or, Nat.not_lt_zero, Nat.not_le, Nat.not_lt, not_false_eq_true, true_and, and_true, false_or, or_false, Classical.not_not, if_true, if_false, if_pos, if_neg] <;> omega), show (1 : Int32) = nI 1 from rfl, X_stands xs0 (ok.how i (by omega)) (by omega) (by omega), b_I, X_stands xs0 (ok.how (i + 1 + k) (by omega)) (by omega) (by omega), b_I, show nI (i + 1 + k) + nI 1 = nI (i + 1 + (k + 1)) from nI_add _ 1, up]
        have hb2 : (nI 1 <<< (nI i &&& 31)) = nI (2 ^ i) := sh1 (by omega)
        have hb3 : (nI 1 <<< (nI (i + 1 + k) &&& 31)) = nI (2 ^ (i + 1 + k)) := sh1 (by omega)
        rw [hb2, hb3, em i (i + 1 + k) hi hj, bc_bm (by omega), b_I, if_pos (show (0 : Int32) = 0 from rfl), if_neg (show ¬ nI 1 = 0 by decide)]
        unfold rkP
        by_cases y1 : s.how i = 1
        · rw [if_pos y1, if_neg (show ¬ nI 1 = 0 by decide)]
          refine ⟨_, rfl, ?_⟩
          simp [y1]
        · rw [if_neg y1, if_pos (show nI 0 = 0 from rfl)]
          by_cases y2 : s.how (i + 1 + k) = 1
          · rw [if_pos y2, if_neg (show ¬ nI 1 = 0 by decide)]
            refine ⟨_, rfl, ?_⟩
            simp [y2]
          · rw [if_neg y2, if_pos (show nI 0 = 0 from rfl)]
            by_cases y3 : ct (fun d => nw D s d || decide (d = i) || decide (d = i + 1 + k)) (D + 2) ≤ 2
            · rw [if_neg (by simp (disch := first | omega | assumption) only [fa_lit, nLE, nLT, nEQ, nI_add, nSA, nSUB, pk_mul, nDIV, nREM, nCL, fa_and, nx_xor, fa_or, nSHL, nSHR, nUS, n31, n255, Nat.and_one_is_mod, b_I, b_V, b_L, not_or, Nat.not_lt_zero, Nat.not_le, Nat.not_lt, not_false_eq_true, true_and, and_true, false_or, or_false, Classical.not_not, if_true, if_false, if_pos, if_neg] <;> omega), nI_add]
              refine ⟨_, rfl, ?_⟩
              rw [if_pos (by simp [y1, y2, y3]), Nat.add_assoc]
            · rw [if_pos (by simp (disch := first | omega | assumption) only [fa_lit, nLE, nLT, nEQ, nI_add, nSA, nSUB, pk_mul, nDIV, nREM, nCL, fa_and, nx_xor, fa_or, nSHL, nSHR, nUS, n31, n255, Nat.and_one_is_mod, b_I, b_V, b_L, not_or, Nat.not_lt_zero, Nat.not_le, Nat.not_lt, not_false_eq_true, true_and, and_true, false_or, or_false, Classical.not_not, if_true, if_false, if_pos, if_neg] <;> omega)]
              refine ⟨_, rfl, ?_⟩
              simp [y3]
      · intro m q hq
        subst hq
        show fX4_losableCouples_b28 1000 K (fX4_losableCouples_L28 1000 K m) (nI (v + rkC D s i (i + 1 + (D + 2 - (i + 1))))) (nI (bm (nw D s) (D + 2))) (nI i) (nI (i + 1 + (D + 2 - (i + 1)))) σX = _
        rw [show i + 1 + (D + 2 - (i + 1)) = D + 2 by omega]
        unfold fX4_losableCouples_b28
        rw [x5, if_pos (by simp (disch := first | omega | assumption) only [fa_lit, nLE, nLT, nEQ, nI_add, nSA, nSUB, pk_mul, nDIV, nREM, nCL, fa_and, nx_xor, fa_or, nSHL, nSHR, nUS, n31, n255, Nat.and_one_is_mod, b_I, b_V, b_L, not_or, Nat.not_lt_zero, Nat.not_le, Nat.not_lt, not_false_eq_true, true_and, and_true, false_or, or_false, Classical.not_not, if_true, if_false, if_pos, if_neg] <;> omega), show nI i + 1 = nI (i + 1) from nI_add i 1]
    have iM : ∀ (K : Int32 → Int32 → gM → Option (Int32 × gM)) (i : Nat) (v : Nat), i < D + 2 → fX12_risk_L30 1000 K 1000 (nI v) (nI i) (nI (i + 1)) σ0 = K (nI (v + rkC D s i (D + 2))) (nI (i + 1)) σ0 := by
      intro K i v hi
      have ehi := ms.how i (by omega)
      rw [Nat.zero_add] at ehi
      have hhi := ok.how i (by omega)
      refine lp (L := fun m k (q : Int32) => fX12_risk_L30 1000 K m q (nI i) (nI (i + 1 + k)) σ0) (I := fun k q => q = nI (v + rkC D s i (i + 1 + k))) (Q := fun o => o = K (nI (v + rkC D s i (D + 2))) (nI (i + 1)) σ0) (N := D + 2 - (i + 1)) ?_ ?_ (D + 2 - (i + 1)) 1000 0 (nI v) (by omega) (by omega) (by rw [rkC_0 D s i _ (by omega)]; rfl)
      · intro m k q hk hq
        subst hq
        have hj : i + 1 + k < D + 2 := by omega
        have hci := ct_le (fun d => nw D s d || decide (d = i) || decide (d = i + 1 + k)) (D + 2)
        have ehj := ms.how (i + 1 + k) (by omega)
        rw [Nat.zero_add] at ehj
        have hhj := ok.how (i + 1 + k) (by omega)
        have hbl := bm_lt8 (p := fun d => nw D s d || decide (d = i) || decide (d = i + 1 + k)) (show D + 2 ≤ 8 by omega)
        left
        show ∃ a', fX12_risk_b30 1000 K (fX12_risk_L30 1000 K m) (nI (v + rkC D s i (i + 1 + k))) (nI i) (nI (i + 1 + k)) σ0 = _ ∧ _
        have up : rkC D s i (i + 1 + (k + 1)) = rkC D s i (i + 1 + k) + (if rkP D s i (i + 1 + k) then 1 else 0) := by
          show ct _ (i + 1 + k + 1) = _
          rw [ct]
          have : i < i + 1 + k := by omega
          simp [this, rkC]
        have n3 : ¬ nI (D + 2) ≤ nI (i + 1 + k) := by rw [nLE _ _ (by omega) (by omega)]; omega
        have n4 : ¬ (nI (384 + i) < 0 ∨ 616 ≤ 384 + i) := by rw [show (0 : Int32) = nI 0 from rfl, nLT _ _ (by omega) (by omega)]; omega
        have n5 : ¬ (nI (384 + (i + 1 + k)) < 0 ∨ 616 ≤ 384 + (i + 1 + k)) := by rw [show (0 : Int32) = nI 0 from rfl, nLT _ _ (by omega) (by omega)]; omega
        unfold fX12_risk_b30 fX12_risk_b88
        rw [m5, if_neg n3, show (384 : Int32) + nI i = nI (384 + i) from nI_add 384 i, show (384 : Int32) + nI (i + 1 + k) = nI (384 + (i + 1 + k)) from nI_add 384 _, nCL (by omega), nCL (by omega), if_pos n4, if_pos n5, ehi, ehj, M_lostBits (by omega) me ok.how ms, b_I, sh1 (by omega), sh1 (by omega), em i (i + 1 + k) hi hj, M_bitsOf (by omega) (by omega), b_I, ec, show nI (i + 1 + k) + 1 = nI (i + 1 + (k + 1)) from nI_add _ 1, up]
        unfold rkP
        by_cases y1 : s.how i = 1
        · rw [if_pos (by rw [y1]; rfl)]
          refine ⟨_, rfl, ?_⟩
          simp [y1]
        · rw [if_neg (show ¬ nI (s.how i) = 1 by rw [show (1 : Int32) = nI 1 from rfl, nEQ _ _ (by omega) (by omega)]; exact y1)]
          by_cases y2 : s.how (i + 1 + k) = 1
          · rw [if_pos (by rw [y2]; rfl)]
            refine ⟨_, rfl, ?_⟩
            simp [y2]
          · rw [if_neg (show ¬ nI (s.how (i + 1 + k)) = 1 by rw [show (1 : Int32) = nI 1 from rfl, nEQ _ _ (by omega) (by omega)]; exact y2)]
            by_cases y3 : ct (fun d => nw D s d || decide (d = i) || decide (d = i + 1 + k)) (D + 2) ≤ 2
            · rw [if_neg (by simp (disch := first | omega | assumption) only [fa_lit, nLE, nLT, nEQ, nI_add, nSA, nSUB, pk_mul, nDIV, nREM, nCL, fa_and, nx_xor, fa_or, nSHL, nSHR, nUS, n31, n255, Nat.and_one_is_mod, b_I, b_V, b_L, not_or, Nat.not_lt_zero, Nat.not_le, Nat.not_lt, not_false_eq_true, true_and, and_true, false_or, or_false, Classical.not_not, if_true, if_false, if_pos, if_neg] <;> omega), show nI (v + rkC D s i (i + 1 + k)) + 1 = nI (v + rkC D s i (i + 1 + k) + 1) from nI_add _ 1]
              refine ⟨_, rfl, ?_⟩
              rw [if_pos (by simp [y1, y2, y3]), Nat.add_assoc]
            · rw [if_pos (by simp (disch := first | omega | assumption) only [fa_lit, nLE, nLT, nEQ, nI_add, nSA, nSUB, pk_mul, nDIV, nREM, nCL, fa_and, nx_xor, fa_or, nSHL, nSHR, nUS, n31, n255, Nat.and_one_is_mod, b_I, b_V, b_L, not_or, Nat.not_lt_zero, Nat.not_le, Nat.not_lt, not_false_eq_true, true_and, and_true, false_or, or_false, Classical.not_not, if_true, if_false, if_pos, if_neg] <;> omega)]
              refine ⟨_, rfl, ?_⟩
              simp [y3]
      · intro m q hq
        subst hq
        show fX12_risk_b30 1000 K (fX12_risk_L30 1000 K m) (nI (v + rkC D s i (i + 1 + (D + 2 - (i + 1))))) (nI i) (nI (i + 1 + (D + 2 - (i + 1)))) σ0 = _
        rw [show i + 1 + (D + 2 - (i + 1)) = D + 2 by omega]
        unfold fX12_risk_b30
        rw [m5, if_pos (by simp (disch := first | omega | assumption) only [fa_lit, nLE, nLT, nEQ, nI_add, nSA, nSUB, pk_mul, nDIV, nREM, nCL, fa_and, nx_xor, fa_or, nSHL, nSHR, nUS, n31, n255, Nat.and_one_is_mod, b_I, b_V, b_L, not_or, Nat.not_lt_zero, Nat.not_le, Nat.not_lt, not_false_eq_true, true_and, and_true, false_or, or_false, Classical.not_not, if_true, if_false, if_pos, if_neg] <;> omega), show nI i + 1 = nI (i + 1) from nI_add i 1]
    have eX : fX4_losableCouples 1000 σX = some (nI (sg (fun i => rkC D s i (D + 2)) (D + 2)), σX) := by
      unfold fX4_losableCouples
      rw [X_notWhole (by omega) xe ok.how xs0, b_I]
      refine lp (L := fun m k (q : Int32) => fX4_losableCouples_L12 1000 m q (nI (bm (nw D s) (D + 2))) (nI k) σX) (I := fun k q => q = nI (sg (fun i => rkC D s i (D + 2)) k)) (Q := fun o => o = some (nI (sg (fun i => rkC D s i (D + 2)) (D + 2)), σX)) (N := D + 2) ?_ ?_ (D + 2) 1000 0 0 (by omega) (by omega) rfl
      · intro m k q hk hq
        subst hq
        refine Or.inl ⟨nI (sg (fun i => rkC D s i (D + 2)) (k + 1)), ?_, rfl⟩
        show fX4_losableCouples_b12 1000 (fX4_losableCouples_L12 1000 m) (nI (sg (fun i => rkC D s i (D + 2)) k)) (nI (bm (nw D s) (D + 2))) (nI k) σX = _
        unfold fX4_losableCouples_b12
        rw [x5, if_neg (by simp (disch := first | omega | assumption) only [fa_lit, nLE, nLT, nEQ, nI_add, nSA, nSUB, pk_mul, nDIV, nREM, nCL, fa_and, nx_xor, fa_or, nSHL, nSHR, nUS, n31, n255, Nat.and_one_is_mod, b_I, b_V, b_L, not_or, Nat.not_lt_zero, Nat.not_le, Nat.not_lt, not_false_eq_true, true_and, and_true, false_or, or_false, Classical.not_not, if_true, if_false, if_pos, if_neg] <;> omega), show nI k + 1 = nI (k + 1) from nI_add k 1, iX _ k _ hk]
        rfl
      · intro m q hq
        subst hq
        show fX4_losableCouples_b12 1000 (fX4_losableCouples_L12 1000 m) (nI (sg (fun i => rkC D s i (D + 2)) (D + 2))) (nI (bm (nw D s) (D + 2))) (nI (D + 2)) σX = _
        unfold fX4_losableCouples_b12
        rw [x5, if_pos (by simp (disch := first | omega | assumption) only [fa_lit, nLE, nLT, nEQ, nI_add, nSA, nSUB, pk_mul, nDIV, nREM, nCL, fa_and, nx_xor, fa_or, nSHL, nSHR, nUS, n31, n255, Nat.and_one_is_mod, b_I, b_V, b_L, not_or, Nat.not_lt_zero, Nat.not_le, Nat.not_lt, not_false_eq_true, true_and, and_true, false_or, or_false, Classical.not_not, if_true, if_false, if_pos, if_neg] <;> omega)]
    have eM : fX12_risk_L18 1000 1000 0 0 σ0 = some (nI (sg (fun i => rkC D s i (D + 2)) (D + 2)), σ0) := by
      refine lp (L := fun m k (q : Int32) => fX12_risk_L18 1000 m q (nI k) σ0) (I := fun k q => q = nI (sg (fun i => rkC D s i (D + 2)) k)) (Q := fun o => o = some (nI (sg (fun i => rkC D s i (D + 2)) (D + 2)), σ0)) (N := D + 2) ?_ ?_ (D + 2) 1000 0 0 (by omega) (by omega) rfl
      · intro m k q hk hq
        subst hq
        refine Or.inl ⟨nI (sg (fun i => rkC D s i (D + 2)) (k + 1)), ?_, rfl⟩
        show fX12_risk_b18 1000 (fX12_risk_L18 1000 m) (nI (sg (fun i => rkC D s i (D + 2)) k)) (nI k) σ0 = _
        unfold fX12_risk_b18
        rw [m5, if_neg (by simp (disch := first | omega | assumption) only [fa_lit, nLE, nLT, nEQ, nI_add, nSA, nSUB, pk_mul, nDIV, nREM, nCL, fa_and, nx_xor, fa_or, nSHL, nSHR, nUS, n31, n255, Nat.and_one_is_mod, b_I, b_V, b_L, not_or, Nat.not_lt_zero, Nat.not_le, Nat.not_lt, not_false_eq_true, true_and, and_true, false_or, or_false, Classical.not_not, if_true, if_false, if_pos, if_neg] <;> omega), show nI k + 1 = nI (k + 1) from nI_add k 1, iM _ k _ hk]
        rfl
      · intro m q hq
        subst hq
        show fX12_risk_b18 1000 (fX12_risk_L18 1000 m) (nI (sg (fun i => rkC D s i (D + 2)) (D + 2))) (nI (D + 2)) σ0 = _
        unfold fX12_risk_b18
        rw [m5, if_pos (by simp (disch := first | omega | assumption) only [fa_lit, nLE, nLT, nEQ, nI_add, nSA, nSUB, pk_mul, nDIV, nREM, nCL, fa_and, nx_xor, fa_or, nSHL, nSHR, nUS, n31, n255, Nat.and_one_is_mod, b_I, b_V, b_L, not_or, Nat.not_lt_zero, Nat.not_le, Nat.not_lt, not_false_eq_true, true_and, and_true, false_or, or_false, Classical.not_not, if_true, if_false, if_pos, if_neg] <;> omega)]
    rw [hP55 xe, b_I, if_neg n10, eX, b_I, if_neg (hA14 me), eM]
    exact ⟨_, _, _, rfl, rfl, h0⟩
end OPS
