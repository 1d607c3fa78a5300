/-! taking a script -/
theorem X_scopy {m : Nat} (hm : m < 4) (σ : gM) : ∃ σ', fX7_copy m 4 σ = some σ' ∧ fr [35 + 3 * m, 36 + 3 * m, 37 + 3 * m] σ σ' ∧ (∀ i, i < 16 → σ'.1 (36 + 3 * m) i = σ.1 48 i) ∧ (∀ i, i < 64 → σ'.1 (37 + 3 * m) i = σ.1 49 i) ∧ σ'.1 (35 + 3 * m) 2 = σ.1 47 2 := by
  unfold fX7_copy
  rw [if_pos (by decide), if_pos (by decide), if_pos (by decide), if_pos (by decide), if_pos (by decide), b_L, if_pos (by decide), if_pos (by decide), if_pos (by decide), if_pos (by decide), if_pos (by decide), b_L, b_L]
  refine ⟨_, rfl, fr_trans (fr_row _ _ (by simp)) (fr_trans (fr_row _ _ (by simp)) (fr_put _ _ _ (by simp))), fun i hi => ?_, fun i hi => ?_, ?_⟩
  · rw [gp_o (by omega), gr_o (by omega), gr_k]
    unfold va_cpy
    rw [show (0 : Int32).toNatClampNeg = 0 from rfl, show (16 : Int32).toNatClampNeg = 16 from rfl, if_pos (by omega), show 0 + (i - 0) = i by omega]
  · rw [gp_o (by omega), gr_k]
    unfold va_cpy
    rw [show (0 : Int32).toNatClampNeg = 0 from rfl, show (64 : Int32).toNatClampNeg = 64 from rfl, if_pos (by omega), show 0 + (i - 0) = i by omega, gr_o (by omega)]
  · rw [gp_s, gr_o (by omega), gr_o (by omega)]
theorem M_scopy {m : Nat} (hm : m < 4) {σ : gM} (h : σ.1 0 12 = nI m) : ∃ σ', fX12_text_L54 1000 1000 80 0 σ = some (nI m, σ') ∧ gj [6, 7] [12] σ σ' ∧ σ'.1 0 12 = nI (m + 1) ∧ (∀ x, σ'.1 6 x = if 80 * m ≤ x ∧ x < 80 * m + 80 then σ.1 6 (320 + (x - 80 * m)) else σ.1 6 x) ∧ (∀ x, σ'.1 7 x = if x = m then σ.1 7 4 else σ.1 7 x) := by
  refine lp (L := fun f k (a : gM) => fX12_text_L54 1000 f 80 (nI k) a) (I := fun k a => gj [6] [] σ a ∧ ∀ x, a.1 6 x = if 80 * m ≤ x ∧ x < 80 * m + k then σ.1 6 (320 + (x - 80 * m)) else σ.1 6 x) (Q := fun o => ∃ σ', o = some (nI m, σ') ∧ gj [6, 7] [12] σ σ' ∧ σ'.1 0 12 = nI (m + 1) ∧ (∀ x, σ'.1 6 x = if 80 * m ≤ x ∧ x < 80 * m + 80 then σ.1 6 (320 + (x - 80 * m)) else σ.1 6 x) ∧ (∀ x, σ'.1 7 x = if x = m then σ.1 7 4 else σ.1 7 x)) (N := 80) ?_ ?_ 80 1000 0 σ rfl (by omega) ⟨gj_refl _ _ _, fun x => by rw [if_neg (by omega)]⟩
  · intro f k a hk hq
    obtain ⟨q1, q2⟩ := hq
    left
    have h12 : a.1 0 12 = nI m := by rw [q1.2.1 12 (by simp)]; exact h
    refine ⟨g_put a 6 (80 * m + k) (a.1 6 (320 + k)), ?_, gj_trans q1 (gj_put _ _ _ (by simp) (by decide)), fun x => ?_⟩
    · show fX12_text_b54 1000 (fX12_text_L54 1000 f) 80 (nI k) a = _
      unfold fX12_text_b54
      have e1 : (80 : Int32) * 4 + nI k = nI (320 + k) := by rw [show (80 : Int32) * 4 = nI 320 from by decide, nI_add]
      have e2 : (80 : Int32) * nI m + nI k = nI (80 * m + k) := by rw [show (80 : Int32) * nI m = nI (80 * m) from pk_mul 80 m, nI_add]
      rw [if_neg (show ¬ (80 : Int32) ≤ nI k by rw [show (80 : Int32) = nI 80 from rfl, nLE _ _ (by omega) (by omega)]; omega), e1, h12, e2, nCL (by omega), nCL (by omega), if_pos (show ¬ (nI (320 + k) < 0 ∨ 400 ≤ 320 + k) by rw [show (0 : Int32) = nI 0 from rfl, nLT _ _ (by omega) (by omega)]; omega), if_pos (show ¬ (nI (80 * m + k) < 0 ∨ 400 ≤ 80 * m + k) by rw [show (0 : Int32) = nI 0 from rfl, nLT _ _ (by omega) (by omega)]; omega), b_L, show nI k + 1 = nI (k + 1) from nI_add k 1]
    · rw [gp_k, q2, q2]
      by_cases e : x = 80 * m + k
      · rw [if_pos e, if_neg (by omega), if_pos (by omega), show x - 80 * m = k by omega]
      · rw [if_neg e]
        by_cases e2 : 80 * m ≤ x ∧ x < 80 * m + k
        · rw [if_pos e2, if_pos (by omega)]
        · rw [if_neg e2, if_neg (by omega)]
  · intro f a hq
    obtain ⟨q1, q2⟩ := hq
    have h12 : a.1 0 12 = nI m := by rw [q1.2.1 12 (by simp)]; exact h
    have y : ¬ (nI m < 0 ∨ 5 ≤ m) := by rw [show (0 : Int32) = nI 0 from rfl, nLT _ _ (by omega) (by omega)]; omega
    refine ⟨g_put (g_put a 7 m (a.1 7 4)) 0 12 (nI (m + 1)), ?_, gj_trans (gj_mono q1 (by simp) (by simp)) (gj_trans (gj_put _ _ _ (by simp) (by decide)) (gj_put0 _ _ (by simp))), gp_s _ _ _ _, fun x => by rw [gp_o (by decide), gp_o (by decide)]; exact q2 x, fun x => by rw [gp_o (by decide), gp_k, q1.1 7 (by simp) (by decide)]⟩
    show fX12_text_b54 1000 (fX12_text_L54 1000 f) 80 (nI 80) a = _
    unfold fX12_text_b54
    rw [if_pos (show (80 : Int32) ≤ nI 80 by decide), h12, nCL (by omega), if_pos y, b_L, gp_o (by decide), h12, b_L, show nI m + 1 = nI (m + 1) from nI_add m 1, gp_s, show nI (m + 1) - 1 = nI m from pk_sub (a := m + 1) (b := 1) (by omega)]
section OPS
variable {c : Nat} {σX σM : gM}
theorem o3s (h : Inv c σX σM) : ∃ (r : Int32) (τX τM : gM), fX11_takeScript 1000 σX = some (r, τX) ∧ fX12_text 1000 1 σM = some (r, τM) ∧ Inv (c + 1) τX τM := by
  have h0 := Inv_00 h 0
  unfold fX11_takeScript fX12_text
  rw [b_L]
  generalize g_put σM 0 0 0 = σ0 at *
  obtain ⟨m, a1, a2, a3, a4⟩ := h0.2.1
  have ng : ¬ nI m < 0 := by rw [show (0 : Int32) = nI 0 from rfl, nLT _ _ (by omega) (by omega)]; omega
  rw [a2, if_neg ng, isIn_1, b_I, if_neg n10, if_pos rfl, a3]
  by_cases c4 : m = 4
  · rw [if_pos (show (4 : Int32) ≤ nI m by rw [c4]; decide), if_pos (show nI m = 4 by rw [c4]; rfl)]
    exact ⟨_, _, _, rfl, rfl, Inv_up h0⟩
  · have hm : m < 4 := by omega
    have y : ¬ (nI m < 0 ∨ 4 ≤ m) := by rw [show (0 : Int32) = nI 0 from rfl, nLT _ _ (by omega) (by omega)]; omega
    obtain ⟨τX, τM, f, k1, k2, k3, k4, k5, k6⟩ := J_fault1 h0
    unfold fX12_text_b28
    rw [if_neg (show ¬ (4 : Int32) ≤ nI m by rw [show (4 : Int32) = nI 4 from rfl, nLE _ _ (by omega) (by omega)]; omega), if_neg (show ¬ nI m = 4 by rw [show (4 : Int32) = nI 4 from rfl, nEQ _ _ (by omega) (by omega)]; omega), nCL (by omega), if_pos y, k1, b_I, k2, b_I]
    by_cases cf : f = -1
    · have sp : SP 4 τX τM := by
        rcases k4 with k4 | k4
        · exact absurd cf k4
        · exact k4
      have x13 : τX.1 0 13 = nI m := by rw [k5.1 0 (by simp) (by decide)]; exact a2
      have m12 : (g_put τM 0 2 0).1 0 12 = nI m := by rw [gp_k, if_neg (by decide), k6.2.1 12 (by simp)]; exact a3
      obtain ⟨υX, l1, l2, l3, l4, l5⟩ := X_scopy hm τX
      obtain ⟨υM, q1, q2, q3, q4, q5⟩ := M_scopy hm m12
      obtain ⟨L, T, t1, t2, t3⟩ := TP_XM k3.1
      have u1 : υX.1 1 = τX.1 1 := l2.1 1 (by simp; omega)
      have u0 : υX.1 0 = τX.1 0 := l2.1 0 (by simp; omega)
      unfold fX10_script fX10_cut
      rw [if_pos cf, if_pos cf, x13, nCL (by omega), if_pos y, b_V, l1, b_V, if_neg (by decide), u1, t2.1, if_pos (show (0 : Int32) ≤ nI L by rw [show (0 : Int32) = nI 0 from rfl, nLE _ _ (by omega) (by omega)]; omega), b_L, b_I, gp_o (by decide), u0, x13, b_L, gp_s, show nI m + 1 = nI (m + 1) from nI_add m 1, show nI (m + 1) - 1 = nI m from pk_sub (a := m + 1) (b := 1) (by omega), b_L, if_pos rfl, q1]
      refine ⟨_, _, _, rfl, rfl, ?_⟩
      have FX : gj [1, 35 + 3 * m, 36 + 3 * m, 37 + 3 * m] [13] τX (g_put (g_put υX 1 1 0) 0 13 (nI (m + 1))) := gj_trans (gj_mono (gj_fr (J := []) l2 (by simp; omega)) (fun p hp => List.mem_cons_of_mem _ hp) (by simp)) (gj_trans (gj_put _ _ _ (by simp) (by decide)) (gj_put0 _ _ (by simp)))
      have FM : gj [6, 7] [2, 12] τM υM := gj_trans (gj_put0 _ _ (by simp)) (gj_mono q2 (by simp) (by simp))
      obtain ⟨i1, i2, i3, i4⟩ := k3
      have hmc : m = 0 ∨ m = 1 ∨ m = 2 ∨ m = 3 := by omega
      refine ⟨⟨0, fun _ => 0, by omega, ?_, ?_, fun k hk => by omega⟩, ⟨m + 1, by omega, gp_s _ _ _ _, q3, fun j hj => ?_⟩, ST_gj i3 FX FM (by simp; omega) (by simp), BO_gj (by omega) i4 FX FM (by rcases hmc with rfl | rfl | rfl | rfl <;> decide) (by decide) (by decide) (by decide)⟩
      · rw [gp_o (by decide), gp_s]; rfl
      · rw [q2.2.1 2 (by simp), gp_s]; rfl
      · by_cases ej : j = m
        · subst ej
          obtain ⟨z, b1, b2, b3, b4, b5⟩ := sp
          refine ⟨z, b1, b2, ?_, ?_, fun i hi => ?_⟩
          · rw [gp_o (by omega), gp_o (by omega), l5]; exact b3
          · rw [q5, if_pos rfl, gp_o (by decide)]; exact b4
          · obtain ⟨k, d1, d2, d3, d4⟩ := b5 i hi
            refine ⟨k, d1, ?_, ?_, fun q hq => ?_⟩
            · rw [gp_o (by omega), gp_o (by omega), l3 i (by omega)]; exact d2
            · rw [q4, if_pos (by omega), gp_o (by decide), show 320 + (5 * (16 * j + i) - 80 * j) = 5 * (16 * 4 + i) by omega]; exact d3
            · rw [q4, if_pos (by omega), gp_o (by decide), gp_o (by omega), gp_o (by omega), l4 _ (by omega), show 320 + (5 * (16 * j + i) + 1 + q - 80 * j) = 5 * (16 * 4 + i) + 1 + q by omega]; exact d4 q hq
        · obtain ⟨m', i5, i6, i7, i8⟩ := i2
          have em : m' = m := by
            rw [k6.2.1 12 (by simp), a3, nEQ _ _ (by omega) (by omega)] at i7
            exact i7.symm
          subst em
          obtain ⟨z, b1, b2, b3, b4, b5⟩ := i8 j (by omega)
          have v1 : υX.1 (35 + 3 * j) = τX.1 (35 + 3 * j) := l2.1 _ (by simp; omega)
          have v2 : υX.1 (36 + 3 * j) = τX.1 (36 + 3 * j) := l2.1 _ (by simp; omega)
          have v3 : υX.1 (37 + 3 * j) = τX.1 (37 + 3 * j) := l2.1 _ (by simp; omega)
          refine ⟨z, b1, b2, ?_, ?_, fun i hi => ?_⟩
          · rw [gp_o (by omega), gp_o (by omega), v1]; exact b3
          · rw [q5, if_neg ej, gp_o (by decide)]; exact b4
          · obtain ⟨k, d1, d2, d3, d4⟩ := b5 i hi
            refine ⟨k, d1, ?_, ?_, fun q hq => ?_⟩
            · rw [gp_o (by omega), gp_o (by omega), v2]; exact d2
            · rw [q4, if_neg (by omega), gp_o (by decide)]; exact d3
            · rw [q4, if_neg (by omega), gp_o (by decide), gp_o (by omega), gp_o (by omega), v3]; exact d4 q hq
    · rw [if_neg cf, if_neg cf]
      exact ⟨_, _, _, rfl, rfl, Inv_up k3⟩
end OPS
