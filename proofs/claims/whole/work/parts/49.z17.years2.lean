/-! the face: years, whole -/
theorem o23 {c : Nat} {σX σM : gM} (hc : c < 512) (a1 : Int32) (a2 : Int64) (h : Inv c σX σM) : ∃ (r : Int32) (τX τM : gM), fX11_years 1000 a1 a2 σX = some (r, τX) ∧ fX12_years 1000 a1 a2 σM = some (r, τM) ∧ Inv (c + 1) τX τM := by
  have g0 : gj [] [0] σM (g_put σM 0 0 0) := gj_put0 _ _ (by simp)
  have h0 : Inv c σX (g_put σM 0 0 0) := Inv_gk h (gj_refl [] [] _) g0 (by decide) (by decide) (by decide) (by decide)
  have h1 := Inv_0 h 0
  unfold fX11_years fX12_years fX0_start
  rw [b_L]
  generalize g_put σM 0 0 0 = σ0 at *
  obtain ⟨hT, hS, hU, hB⟩ := id h0
  rcases hB with hN | ⟨D, S, C, F, hB, hM⟩
  · rw [no_pres hN, b_I, if_pos rfl, if_pos hN.m14]
    exact ⟨_, _, _, rfl, rfl, h1⟩
  · have hxm : fX6_present σX = some (1, σX) ∧ ¬ σ0.1 0 14 = 0 := by
      obtain ⟨s, E, a, hh, e, g, Hs, haB, hI⟩ := id hB
      exact ⟨hP55 hI.xe, hA14 hI.me⟩
    rw [hxm.1, b_I, if_neg n10, if_neg hxm.2]
    rcases i_rng a1 (N := 41) (by omega) with q | q | ⟨N, hN, rfl⟩
    · have q1 : a1 < 1 := by
        rw [Int32.lt_iff_toInt_lt] at q ⊢
        exact Int.lt_trans q (by decide)
      rw [if_pos q1, l_1, l_40, M_isIn_lo q (by omega), b_I, if_pos rfl]
      exact ⟨_, _, _, rfl, rfl, h1⟩
    · have q1 : ¬ a1 < 1 := by
        intro z
        rw [Int32.lt_iff_toInt_lt] at z
        have := Int32.le_iff_toInt_le.mp q.2
        rw [nI_toInt (by omega)] at this
        have e1 : (1 : Int32).toInt = 1 := by decide
        omega
      have q2 : ¬ a1 ≤ 40 := by
        intro z
        have z := Int32.le_iff_toInt_le.mp z
        have := Int32.le_iff_toInt_le.mp q.2
        rw [nI_toInt (by omega)] at this
        have e1 : (40 : Int32).toInt = 40 := by decide
        omega
      rw [if_neg q1, if_neg q2, l_1, l_40, M_isIn_hi q.2 (by omega), b_I, if_pos rfl]
      exact ⟨_, _, _, rfl, rfl, h1⟩
    · by_cases z : N = 0
      · subst z
        have q1 : nI 0 < 1 := by decide
        rw [if_pos q1, l_1, l_40, M_isIn, if_neg (by decide), b_I, if_pos rfl]
        exact ⟨_, _, _, rfl, rfl, h1⟩
      · have q1 : ¬ nI N < 1 := by rw [show (1 : Int32) = nI 1 from rfl, nLT _ _ (by omega) (by omega)]; omega
        have q2 : nI N ≤ 40 := by rw [show (40 : Int32) = nI 40 from rfl, nLE _ _ (by omega) (by omega)]; omega
        rw [if_neg q1, if_pos q2, b_L, b_V, l_1, l_40, M_isIn_yes (by omega) (by omega) (by omega), b_I, if_neg n10, b_L]
        have hB0 : BIx D S C F (80 * c) (g_lng σX 31 a2) (g_lng σ0 0 a2) := hB
        have key : ∃ (r : Int32) (τX τM : gM), fX11_years_L34 1000 1000 (nI N) 0 (g_lng σX 31 a2) = some (r, τX) ∧ fX12_years_L34 1000 1000 (nI N) 0 (g_lng σ0 0 a2) = some (r, τM) ∧ BIx D S C F (80 * c + 2 * N) τX τM ∧ gw yL [14] σX τX ∧ gw yM yJ σ0 τM := by
          refine lp (L := fun m k (a : gM × gM) => (fX11_years_L34 1000 m (nI N) (nI k) a.1, fX12_years_L34 1000 m (nI N) (nI k) a.2)) (I := fun k a => BIx D S C F (80 * c + 2 * k) a.1 a.2 ∧ a.1.2 31 = a.2.2 0 ∧ gw yL [14] σX a.1 ∧ gw yM yJ σ0 a.2) (Q := fun o => ∃ (r : Int32) (τX τM : gM), o.1 = some (r, τX) ∧ o.2 = some (r, τM) ∧ BIx D S C F (80 * c + 2 * N) τX τM ∧ gw yL [14] σX τX ∧ gw yM yJ σ0 τM) (N := N) ?_ ?_ N 1000 0 (g_lng σX 31 a2, g_lng σ0 0 a2) (by omega) (by omega) ⟨hB0, rfl, gw_eq rfl, gw_eq rfl⟩
          · intro m k a hk ha
            obtain ⟨a1, a2, a3, a4⟩ := ha
            obtain ⟨y, τX, τM, t1, t2, t3, t4, t5, t6⟩ := J_happen a1 (by omega) a2
            refine Or.inl ⟨(τX, τM), ?_, ?_, t4, gw_trans a3 t5, gw_trans a4 t6⟩
            · have n1 : ¬ nI N ≤ nI k := by rw [nLE _ _ (by omega) (by omega)]; omega
              have eX : fX11_years_L34 1000 (m + 1) (nI N) (nI k) a.1 = fX11_years_L34 1000 m (nI N) (nI (k + 1)) τX := by
                show fX11_years_b34 1000 (fX11_years_L34 1000 m) (nI N) (nI k) a.1 = _
                unfold fX11_years_b34
                rw [if_neg n1]
                refine (t1 (fX11_years_b110 1000 (fX11_years_L34 1000 m) (nI N) (nI k))).trans ?_
                unfold fX11_years_b110
                rw [show nI k + 1 = nI (k + 1) from nI_add k 1]
              have eM : fX12_years_L34 1000 (m + 1) (nI N) (nI k) a.2 = fX12_years_L34 1000 m (nI N) (nI (k + 1)) τM := by
                show fX12_years_b34 1000 (fX12_years_L34 1000 m) (nI N) (nI k) a.2 = _
                unfold fX12_years_b34
                rw [if_neg n1, t2, b_I, show nI k + 1 = nI (k + 1) from nI_add k 1]
              show (fX11_years_L34 1000 (m + 1) (nI N) (nI k) a.1, fX12_years_L34 1000 (m + 1) (nI N) (nI k) a.2) = _
              rw [eX, eM]
            · rw [show 80 * c + 2 * (k + 1) = 80 * c + 2 * k + 2 by omega]
              exact t3
          · intro m a ha
            obtain ⟨a1, a2, a3, a4⟩ := ha
            obtain ⟨s, E, a', hh, e, g, Hs, haB, hI⟩ := id a1
            have xs0 : XS C s (a.1.1 (11 + 5 * 0)) := hI.xs
            have n1 : nI N ≤ nI N := by rw [nLE _ _ (by omega) (by omega)]; omega
            have eX : fX11_years_L34 1000 (m + 1) (nI N) (nI N) a.1 = some (nI (cst s), a.1) := by
              show fX11_years_b34 1000 (fX11_years_L34 1000 m) (nI N) (nI N) a.1 = _
              unfold fX11_years_b34
              rw [if_pos n1, X_cost (by omega) xs0, b_I]
            have eM : fX12_years_L34 1000 (m + 1) (nI N) (nI N) a.2 = some (nI (cst s), a.2) := by
              show fX12_years_b34 1000 (fX12_years_L34 1000 m) (nI N) (nI N) a.2 = _
              unfold fX12_years_b34
              rw [if_pos n1, M_cost hI.ms, b_I]
            exact ⟨_, _, _, eX, eM, a1, a3, a4⟩
        obtain ⟨r, τX, τM, k1, k2, k3, k4, k5⟩ := key
        have f4 := gw_gj k4
        have f5 := gw_gj k5
        have t1 := TP_gj hT f4 f5 (by decide) (by decide) (by decide)
        have t2 := SC_gj hS f4 f5 (by decide) (by decide) (by decide) (by decide)
        have t3 := ST_gj hU f4 f5 (by decide) (by decide)
        have t4 := IM_gj (B' := 80 * (c + 1)) (by omega) hM f4 f5 (by decide) (by decide) (by decide) (by decide)
        have t5 : BIx D S C F (80 * (c + 1)) τX τM := BIx_gj (by omega) k3 (gj_refl [] [] _) (gj_refl [] [] _) (by decide) (by decide) (by decide)
        exact ⟨r, τX, τM, k1, k2, t1, t2, t3, Or.inr ⟨D, S, C, F, t5, t4⟩⟩
