/-! the face: run -/
theorem J_run {D S C F j z : Nat} {v2 : Int32} (hj : j < 4) (hz : z ≤ 16) : ∀ (q mX mM k : Nat) (s : Sh) (σX σM : gM), k + q = z → q + 1 < mX → q + 1 < mM → XE D S C F σX → ME D S C F σM → Ok D S C s → XS C s (σX.1 16) → MS C s (σM.1 11) 0 → σX.1 (35 + 3 * j) 2 = nI z → σM.1 7 j = nI z → (∀ i, i < z → ∃ k, k < 9 ∧ σX.1 (36 + 3 * j) i = nI k ∧ σM.1 6 (5 * (16 * j + i)) = nI k ∧ ∀ q, q < 4 → σM.1 6 (5 * (16 * j + i) + 1 + q) = if q < nmb k then σX.1 (37 + 3 * j) (4 * i + q) else -1) →
    ∃ (r : Int32) (s' : Sh) (τX τM : gM), fX8_doneOf_L2 1000 1 j mX (nI k) σX = some (r, τX) ∧ fX12_run_L52 1000 mM (nI j) v2 (nI k) 1 σM = fX12_run_b150 1000 (nI j) v2 r τM ∧ XS C s' (τX.1 16) ∧ MS C s' (τM.1 11) 0 ∧ fr [16, 18] σX τX ∧ gj [11, 14, 15] [26, 27, 28, 29, 30] σM τM := by
  intro q
  induction q with
  | zero =>
    intro mX mM k s σX σM hk hX hM xe me ok xs ms s1 s2 s3
    obtain ⟨mX, rfl⟩ : ∃ m', mX = m' + 1 := ⟨mX - 1, by omega⟩
    obtain ⟨mM, rfl⟩ : ∃ m', mM = m' + 1 := ⟨mM - 1, by omega⟩
    show ∃ (r : Int32) (s' : Sh) (τX τM : gM), fX8_doneOf_b2 1000 1 j (fX8_doneOf_L2 1000 1 j mX) (nI k) σX = some (r, τX) ∧ fX12_run_b52 1000 (fX12_run_L52 1000 mM) (nI j) v2 (nI k) 1 σM = _ ∧ _
    unfold fX8_doneOf_b2 fX12_run_b52 fX7_size
    have y1 : nI z ≤ nI k := by rw [nLE _ _ (by omega) (by omega)]; omega
    have z0 : ¬ (nI j < 0 ∨ 5 ≤ j) := by rw [show (0 : Int32) = nI 0 from rfl, nLT _ _ (by omega) (by omega)]; omega
    rw [s1, b_I, b_I, s1, if_pos y1, if_neg n10, nCL (by omega), if_pos z0, s2, if_pos y1, show k = z by omega]
    exact ⟨_, s, σX, σM, rfl, rfl, xs, ms, fr_refl _ _, gj_refl _ _ _⟩
  | succ q ih =>
    intro mX mM k s σX σM hk hX hM xe me ok xs ms s1 s2 s3
    obtain ⟨mX, rfl⟩ : ∃ m', mX = m' + 1 := ⟨mX - 1, by omega⟩
    obtain ⟨mM, rfl⟩ : ∃ m', mM = m' + 1 := ⟨mM - 1, by omega⟩
    obtain ⟨kk, k1, k2, k3, k4⟩ := s3 k (by omega)
    have kn := st_nums k1 k4
    have xs1 : XS C s (σX.1 (11 + 5 * 1)) := xs
    have hA := AR_any (n := 1000) (i := 1) (w := 11) (by omega) xe me ok xs1 ms (by omega) (by omega) k1 (a := σX.1 (37 + 3 * j) (4 * k + 0)) (b := σX.1 (37 + 3 * j) (4 * k + 1)) (c := σX.1 (37 + 3 * j) (4 * k + 2)) (d := σX.1 (37 + 3 * j) (4 * k + 3)) (kn 0) (kn 1) (kn 2) (kn 3)
    show ∃ (r : Int32) (s' : Sh) (τX τM : gM), fX8_doneOf_b2 1000 1 j (fX8_doneOf_L2 1000 1 j mX) (nI k) σX = some (r, τX) ∧ fX12_run_b52 1000 (fX12_run_L52 1000 mM) (nI j) v2 (nI k) 1 σM = _ ∧ _
    have y1 : ¬ nI z ≤ nI k := by rw [nLE _ _ (by omega) (by omega)]; omega
    have eX : fX8_doneOf_b2 1000 1 j (fX8_doneOf_L2 1000 1 j mX) (nI k) σX = g_bI (fX8_refusal 1000 1 (nI kk) (σX.1 (37 + 3 * j) (4 * k + 0)) (σX.1 (37 + 3 * j) (4 * k + 1)) (σX.1 (37 + 3 * j) (4 * k + 2)) (σX.1 (37 + 3 * j) (4 * k + 3)) σX) (fun r57 σ56 => if r57 = (-1) then (g_bI (fX7_sort j (nI k) σ56) (fun r61 σ60 => g_bI (fX8_carryOut 1000 1 r61 (σX.1 (37 + 3 * j) (4 * k + 0)) (σX.1 (37 + 3 * j) (4 * k + 1)) (σX.1 (37 + 3 * j) (4 * k + 2)) (σX.1 (37 + 3 * j) (4 * k + 3)) σ60) (fun r64 σ63 => fX8_doneOf_L2 1000 1 j mX (nI (k + 1)) σ63))) else (some (nI k, σ56))) := by
      unfold fX8_doneOf_b2 fX7_size
      rw [s1, b_I, if_neg y1, show (0 : Int32) = nI 0 from rfl, show (1 : Int32) = nI 1 from rfl, show (2 : Int32) = nI 2 from rfl, show (3 : Int32) = nI 3 from rfl, X_number s1 (by omega) hz (by omega), b_I, X_number s1 (by omega) hz (by omega), b_I, X_number s1 (by omega) hz (by omega), b_I, X_number s1 (by omega) hz (by omega), b_I, X_sort s1 (by omega) hz, b_I, k2, nI_add]
    have eM : fX12_run_b52 1000 (fX12_run_L52 1000 mM) (nI j) v2 (nI k) 1 σM = g_bI (fX12_does 1000 11 (nI kk) (σM.1 6 (5 * (16 * j + k) + 1)) (σM.1 6 (5 * (16 * j + k) + 2)) (σM.1 6 (5 * (16 * j + k) + 3)) (σM.1 6 (5 * (16 * j + k) + 4)) σM) (fun r56 σ55 => if r56 = (-1) then fX12_run_L52 1000 mM (nI j) v2 (nI (k + 1)) 1 σ55 else fX12_run_L52 1000 mM (nI j) v2 (nI k) 0 σ55) := by
      unfold fX12_run_b52 fX12_run_b137
      have z0 : ¬ (nI j < 0 ∨ 5 ≤ j) := by rw [show (0 : Int32) = nI 0 from rfl, nLT _ _ (by omega) (by omega)]; omega
      have zz : ∀ x, x < 5 → ¬ (nI (5 * (16 * j + k) + x) < 0 ∨ 400 ≤ 5 * (16 * j + k) + x) := by
        intro x hx
        rw [show (0 : Int32) = nI 0 from rfl, nLT _ _ (by omega) (by omega)]; omega
      have zz0 := zz 0 (by omega)
      rw [Nat.add_zero] at zz0
      rw [if_neg n10, nCL (by omega), if_pos z0, s2, if_neg y1, show (1 : Int32) = nI 1 from rfl, show (2 : Int32) = nI 2 from rfl, show (3 : Int32) = nI 3 from rfl, show (4 : Int32) = nI 4 from rfl, ix5, ix5, ix5, ix5, ix50, nCL (by omega), nCL (by omega), nCL (by omega), nCL (by omega), nCL (by omega), if_pos zz0, if_pos (zz 1 (by omega)), if_pos (zz 2 (by omega)), if_pos (zz 3 (by omega)), if_pos (zz 4 (by omega)), k3]
      simp only [if_neg (show ¬ nI 1 = 0 from n10), if_true, nI_add]
    rw [eX, eM]
    rcases hA with ⟨y, hy, r1, d1⟩ | ⟨r1, s', r0, τX, τM, r2, d2, q4, q5, q6, q7, q8, q9, _⟩
    · rw [r1, b_I, if_neg (nM1 (by omega)), d1, b_I, if_neg (nM1 (by omega))]
      obtain ⟨mM, rfl⟩ : ∃ m', mM = m' + 1 := ⟨mM - 1, by omega⟩
      refine ⟨nI k, s, σX, σM, rfl, ?_, xs, ms, fr_refl _ _, gj_refl _ _ _⟩
      show fX12_run_b52 1000 (fX12_run_L52 1000 mM) (nI j) v2 (nI k) 0 σM = _
      unfold fX12_run_b52
      rw [if_pos rfl]
    · have f8 : fr [16, 18] σX τX := q8
      have g9 : gj [11, 14, 15] [26, 27, 28, 29, 30] σM τM := q9
      obtain ⟨r', s'', υX, υM, f1, f2, f3, f4, f5, f6⟩ := ih mX mM (k + 1) s' τX τM (by omega) (by omega) (by omega) (XE_fr xe f8 (by simp) (by simp) (by simp) (by simp)) (ME_gj me g9 (by simp) (by simp) (by simp) (by simp) (by simp)) q6 q4 q5 (by rw [f8.1 _ (by simp; omega)]; exact s1) (by rw [g9.1 7 (by simp) (by decide)]; exact s2) (by
        rw [f8.1 _ (by simp; omega), f8.1 (37 + 3 * j) (by simp; omega), g9.1 6 (by simp) (by decide)]
        exact s3)
      rw [r1, b_I, if_pos rfl, X_sort s1 (by omega) hz, b_I, k2, r2, b_I, f1]
      refine ⟨r', s'', υX, υM, rfl, ?_, f3, f4, fr_trans f8 f5, gj_trans g9 f6⟩
      have d2' : fX12_does 1000 11 (nI kk) (σM.1 6 (5 * (16 * j + k) + 1)) (σM.1 6 (5 * (16 * j + k) + 2)) (σM.1 6 (5 * (16 * j + k) + 3)) (σM.1 6 (5 * (16 * j + k) + 4)) σM = some (-1, τM) := d2
      rw [d2', b_I, if_pos rfl, f2]
theorem o40 {c : Nat} {σX σM : gM} (a1 a2 : Int32) (h : Inv c σX σM) : ∃ (r : Int32) (τX τM : gM), fX11_run 1000 a1 a2 σX = some (r, τX) ∧ fX12_run 1000 a1 a2 σM = some (r, τM) ∧ Inv (c + 1) τX τM := by
  have h0 := Inv_0 h 0
  unfold fX11_run fX12_run fX11_run_b27 fX12_run_b30
  rw [b_L]
  generalize g_put σM 0 0 0 = σ0 at *
  rcases J_script h0 a1 with ⟨j, hj, rfl, hSP, e1, e2⟩ | ⟨e1, e2⟩
  · rw [e1, b_I, if_neg n10, e2, b_I, if_neg n10, nCL (by omega)]
    rcases Inv_cases h0 with hN | ⟨D, S, C, F, s, xe, me, ok, xs, ms⟩
    · rw [no_pres hN, b_I, if_pos rfl, if_pos hN.m14]
      exact ⟨_, _, _, rfl, rfl, h0⟩
    · obtain ⟨w1, w2, w3, w4, w5, w6, w7⟩ := xe.1
      rw [hP55 xe, b_I, if_neg n10, if_neg (hA14 me)]
      rcases i_rng a2 (N := 2) (by omega) with q | q | ⟨x, hx, rfl⟩
      · rw [if_pos q, l_0, show (1 : Int64) = (nI 1).toInt64 from by decide, M_isIn_lo q (by omega), b_I, if_pos rfl]
        exact ⟨_, _, _, rfl, rfl, h0⟩
      · rw [if_neg q.1, if_neg (by
          intro z
          have z := Int32.le_iff_toInt_le.mp z
          have := Int32.le_iff_toInt_le.mp q.2
          rw [nI_toInt (by omega)] at this
          have e1 : (1 : Int32).toInt = 1 := by decide
          omega), l_0, show (1 : Int64) = (nI 1).toInt64 from by decide, M_isIn_hi q.2 (by omega), b_I, if_pos rfl]
        exact ⟨_, _, _, rfl, rfl, h0⟩
      · have y1 : ¬ nI x < 0 := by rw [show (0 : Int32) = nI 0 from rfl, nLT _ _ (by omega) (by omega)]; omega
        have y2 : nI x ≤ 1 := by rw [show (1 : Int32) = nI 1 from rfl, nLE _ _ (by omega) (by omega)]; omega
        have z0 : ¬ (nI j < 0 ∨ 5 ≤ j) := by rw [show (0 : Int32) = nI 0 from rfl, nLT _ _ (by omega) (by omega)]; omega
        have z0' : ¬ (nI j < 0 ∨ 4 ≤ j) := by rw [show (0 : Int32) = nI 0 from rfl, nLT _ _ (by omega) (by omega)]; omega
        obtain ⟨z, z1, z2, z3, z4, z5⟩ := hSP
        have xs0 : XS C s (σX.1 (11 + 5 * 0)) := xs
        have X2 := XS_cpy (i := 1) xs0
        have eC := X_copy (i := 1) (j := 0) σX
        generalize eτ : g_row σX (11 + 5 * 1) (va_cpy (σX.1 (11 + 5 * 0)) (σX.1 (11 + 5 * 1)) 0 0 144) = τ1 at X2 eC
        have f1 : fr [16] σX τ1 := by rw [← eτ]; exact fr_row _ _ (by simp)
        obtain ⟨σ4, c1, c2, c3, c4⟩ := M_copyRow (n := 1000) (w := 10) (nw := 616) (u := 11) (nu := 616) (f := 0) (t := 0) (σ := σ0) (by omega) (by decide) (by omega) (by omega) (by omega) (by omega)
        have ms4 : MS C s (σ4.1 11) 0 := MS_copy w6 ms (fun k hk => c2 k hk)
        obtain ⟨r, s', τX, τM, f2, f3, f4, f5, f6, f7⟩ := J_run (D := D) (S := S) (C := C) (F := F) (v2 := nI x) hj z2 z 1000 1000 0 s τ1 σ4 (by omega) (by omega) (by omega) (XE_fr xe f1 (by simp) (by simp) (by simp) (by simp)) (ME_fr me c4 (by simp) (by simp) (by simp) (by simp)) ok X2 ms4 (by rw [f1.1 _ (by simp; omega)]; exact z3) (by rw [c4.1 7 (by simp)]; exact z4) (by
          rw [f1.1 _ (by simp; omega), f1.1 (37 + 3 * j) (by simp; omega), c4.1 6 (by simp)]
          exact z5)
        have FX : fr [16, 18] σX τX := fr_trans (fr_mono f1 (by simp)) f6
        have FM : gj [11, 14, 15] [26, 27, 28, 29, 30] σ0 τM := gj_trans (gj_mono (gj_fr (J := []) c4 (by simp)) (by simp) (by simp)) f7
        have hI : Inv (c + 1) τX τM := Inv_gk h0 (gj_fr (J := []) FX (by simp)) FM (by decide) (by decide) (by decide) (by decide)
        have xs9 : XS C s (τX.1 (11 + 5 * 0)) := by rw [FX.1 (11 + 5 * 0) (by simp)]; exact xs
        have xs8 : XS C s' (τX.1 (11 + 5 * 1)) := f4
        have ms9 : MS C s (τM.1 10) 0 := by rw [FM.1 10 (by simp) (by decide)]; exact ms
        have sz : τX.1 (35 + 3 * j) 2 = nI z := by rw [FX.1 _ (by simp; omega)]; exact z3
        have mz : τM.1 7 j = nI z := by rw [FM.1 7 (by simp) (by decide)]; exact z4
        unfold fX8_doneOf fX7_size
        rw [if_neg y1, if_pos y2, eC, b_V, if_pos z0', show fX8_doneOf_L2 1000 1 j 1000 0 τ1 = some (r, τX) from f2, b_I, if_pos z0', X_cost (by omega) xs8, b_I, X_cost (by omega) xs9, b_I, sz, b_I, l_0, show (1 : Int64) = (nI 1).toInt64 from by decide, M_isIn_yes (by omega) (by omega) (by omega), b_I, if_neg n10, show (fX12_copyRow 1000 10 616 11 616 0 0 σ0) = some σ4 from c1, b_V, show fX12_run_L52 1000 1000 (nI j) (nI x) 0 1 σ4 = fX12_run_b150 1000 (nI j) (nI x) r τM from f3]
        unfold fX12_run_b150
        rw [M_cost f5, b_I, M_cost ms9, b_I, nCL (by omega), if_pos z0, mz]
        by_cases q1 : nI x = 1
        · rw [if_pos q1, if_pos q1]
          exact ⟨_, _, _, rfl, rfl, hI⟩
        · rw [if_neg q1, if_neg q1]
          by_cases q2 : r = nI z
          · rw [if_pos q2, if_pos q2]
            exact ⟨_, _, _, rfl, rfl, hI⟩
          · rw [if_neg q2, if_neg q2]
            exact ⟨_, _, _, rfl, rfl, hI⟩
  · rw [e1, b_I, if_pos rfl, e2, b_I, if_pos rfl]
    exact ⟨_, _, _, rfl, rfl, h0⟩
