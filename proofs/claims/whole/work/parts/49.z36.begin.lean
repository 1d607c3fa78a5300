/-! a shelf begins: the reference, and the bytes -/
theorem M_begin {D S C F K : Nat} {σ : gM} (hw : wfP D S C F) (h0 : σ.1 2 0 = nI D) (h1 : σ.1 2 1 = nI S) (h2 : σ.1 2 2 = nI C) (h3 : σ.1 2 3 = nI F) (h4 : σ.1 2 4 = nI K) (h9 : σ.1 9 0 = 0) : ∃ σ', fX12_begins 1000 σ = fX12_begins_L127 1000 1000 0 σ' ∧ ME D S C F σ' ∧ MS C (sh0 S K) (σ'.1 10) 0 ∧ gj [3, 8, 9, 10] [13, 14] σ σ' := by
  obtain ⟨w1, w2, w3, w4, w5, w6, w7⟩ := id hw
  unfold fX12_begins
  have k1 : ∃ σ1, fX12_begins_L2 1000 1000 0 σ = g_let (g_put σ1 0 13 ((σ1.1 3 0) + 2)) (fun σ77 => g_let (g_put σ77 0 14 (((σ77.1 3 0) * (σ77.1 3 1)) * (σ77.1 3 2))) (fun σ79 => g_bV (fX12_laysField 1000 σ79) (fun σ82 => fX12_begins_L67 1000 1000 0 σ82))) ∧ gj [3] [] σ σ1 ∧ ∀ j, j < 5 → σ1.1 3 j = σ.1 2 j := by
    refine lp (L := fun m k (a : gM) => fX12_begins_L2 1000 m (nI k) a) (I := fun k a => gj [3] [] σ a ∧ ∀ j, j < k → a.1 3 j = σ.1 2 j) (Q := fun o => ∃ σ1, o = g_let (g_put σ1 0 13 ((σ1.1 3 0) + 2)) (fun σ77 => g_let (g_put σ77 0 14 (((σ77.1 3 0) * (σ77.1 3 1)) * (σ77.1 3 2))) (fun σ79 => g_bV (fX12_laysField 1000 σ79) (fun σ82 => fX12_begins_L67 1000 1000 0 σ82))) ∧ gj [3] [] σ σ1 ∧ ∀ j, j < 5 → σ1.1 3 j = σ.1 2 j) (N := 5) ?_ ?_ 5 1000 0 σ rfl (by omega) ⟨gj_refl _ _ _, fun j hj => by omega⟩
    · intro m k a hk hq
      obtain ⟨q1, q2⟩ := hq
      refine Or.inl ⟨g_put a 3 k (σ.1 2 k), ?_, gj_trans q1 (gj_put _ _ _ (by simp) (by decide)), fun j hj => ?_⟩
      · show fX12_begins_b2 1000 (fX12_begins_L2 1000 m) (nI k) a = _
        unfold fX12_begins_b2
        rw [if_neg (by simp (disch := first | omega | assumption) only [fa_lit, nLE, nLT, nEQ, nI_add, nSA, nSUB, pk_mul, nDIV, nREM, nCL, fa_and, nx_xor, fa_or, nSHL, nSHR, nUS, n31, n255, Nat.and_one_is_mod, b_I, b_V, b_L, not_or, Nat.not_lt_zero, Nat.not_le, Nat.not_lt, not_false_eq_true, true_and, and_true, false_or, or_false, Classical.not_not, if_true, if_false, if_pos, if_neg] <;> omega), nCL (by omega), if_pos (by simp (disch := first | omega | assumption) only [fa_lit, nLE, nLT, nEQ, nI_add, nSA, nSUB, pk_mul, nDIV, nREM, nCL, fa_and, nx_xor, fa_or, nSHL, nSHR, nUS, n31, n255, Nat.and_one_is_mod, b_I, b_V, b_L, not_or, Nat.not_lt_zero, Nat.not_le, Nat.not_lt, not_false_eq_true, true_and, and_true, false_or, or_false, Classical.not_not, if_true, if_false, if_pos, if_neg] <;> omega), if_pos (by simp (disch := first | omega | assumption) only [fa_lit, nLE, nLT, nEQ, nI_add, nSA, nSUB, pk_mul, nDIV, nREM, nCL, fa_and, nx_xor, fa_or, nSHL, nSHR, nUS, n31, n255, Nat.and_one_is_mod, b_I, b_V, b_L, not_or, Nat.not_lt_zero, Nat.not_le, Nat.not_lt, not_false_eq_true, true_and, and_true, false_or, or_false, Classical.not_not, if_true, if_false, if_pos, if_neg] <;> omega), b_L, q1.1 2 (by simp) (by decide), show nI k + 1 = nI (k + 1) from nI_add k 1]
      · rw [gp_k]
        by_cases e : j = k
        · rw [if_pos e, e]
        · rw [if_neg e]; exact q2 j (by omega)
    · intro m a hq
      refine ⟨a, ?_, hq⟩
      show fX12_begins_b2 1000 (fX12_begins_L2 1000 m) (nI 5) a = _
      unfold fX12_begins_b2
      rw [if_pos (by decide)]
  obtain ⟨σ1, a1, a2, a3⟩ := k1
  have r0 : σ1.1 3 0 = nI D := (a3 0 (by omega)).trans h0
  have r1 : σ1.1 3 1 = nI S := (a3 1 (by omega)).trans h1
  have r2 : σ1.1 3 2 = nI C := (a3 2 (by omega)).trans h2
  have r3 : σ1.1 3 3 = nI F := (a3 3 (by omega)).trans h3
  have r4 : σ1.1 3 4 = nI K := (a3 4 (by omega)).trans h4
  have o3 : ∀ (τ : gM) (i j : Nat) (x : Int32), (g_put τ 0 i x).1 3 j = τ.1 3 j := fun τ i j x => gp_o (by decide) j
  rw [a1, b_L, b_L, o3, o3, o3, r0, r1, r2, pk_mul, pk_mul, show nI D + 2 = nI (D + 2) from nI_add D 2]
  have b1 : gj [3, 8, 9, 10] [13, 14] σ (g_put (g_put σ1 0 13 (nI (D + 2))) 0 14 (nI (D * S * C))) := gj_trans (gj_mono a2 (by simp) (by simp)) (gj_trans (gj_put0 _ _ (by simp)) (gj_put0 _ _ (by simp)))
  have b13 : (g_put (g_put σ1 0 13 (nI (D + 2))) 0 14 (nI (D * S * C))).1 0 13 = nI (D + 2) := by rw [gp_k, if_neg (by decide), gp_s]
  have b14 : (g_put (g_put σ1 0 13 (nI (D + 2))) 0 14 (nI (D * S * C))).1 0 14 = nI (D * S * C) := gp_s _ _ _ _
  have b3 : ∀ j, (g_put (g_put σ1 0 13 (nI (D + 2))) 0 14 (nI (D * S * C))).1 3 j = σ1.1 3 j := fun j => by rw [o3, o3]
  have b9 : (g_put (g_put σ1 0 13 (nI (D + 2))) 0 14 (nI (D * S * C))).1 9 0 = 0 := by rw [gp_o (by decide), gp_o (by decide), a2.1 9 (by simp) (by decide)]; exact h9
  generalize g_put (g_put σ1 0 13 (nI (D + 2))) 0 14 (nI (D * S * C)) = σ2 at *
  obtain ⟨σ3, c1, c2, c3⟩ := M_laysField w7 (σ := σ2) (by rw [b3]; exact r3) b9
  rw [c1, b_V]
  have k2 : ∃ σ4, fX12_begins_L67 1000 1000 0 σ3 = g_let (g_put σ4 10 424 (σ4.1 3 4)) (fun σ71 => fX12_begins_L103 1000 1000 0 σ71) ∧ fr [10] σ3 σ4 ∧ ∀ j, j < 616 → σ4.1 10 j = 0 := by
    refine lp (L := fun m k (a : gM) => fX12_begins_L67 1000 m (nI k) a) (I := fun k a => fr [10] σ3 a ∧ ∀ j, j < k → a.1 10 j = 0) (Q := fun o => ∃ σ4, o = g_let (g_put σ4 10 424 (σ4.1 3 4)) (fun σ71 => fX12_begins_L103 1000 1000 0 σ71) ∧ fr [10] σ3 σ4 ∧ ∀ j, j < 616 → σ4.1 10 j = 0) (N := 616) ?_ ?_ 616 1000 0 σ3 rfl (by omega) ⟨fr_refl _ _, fun j hj => by omega⟩
    · intro m k a hk hq
      obtain ⟨q1, q2⟩ := hq
      refine Or.inl ⟨g_put a 10 k 0, ?_, fr_trans q1 (fr_put _ _ _ (by simp)), fun j hj => ?_⟩
      · show fX12_begins_b67 1000 (fX12_begins_L67 1000 m) (nI k) a = _
        unfold fX12_begins_b67
        rw [if_neg (by simp (disch := first | omega | assumption) only [fa_lit, nLE, nLT, nEQ, nI_add, nSA, nSUB, pk_mul, nDIV, nREM, nCL, fa_and, nx_xor, fa_or, nSHL, nSHR, nUS, n31, n255, Nat.and_one_is_mod, b_I, b_V, b_L, not_or, Nat.not_lt_zero, Nat.not_le, Nat.not_lt, not_false_eq_true, true_and, and_true, false_or, or_false, Classical.not_not, if_true, if_false, if_pos, if_neg] <;> omega), nCL (by omega), if_pos (by simp (disch := first | omega | assumption) only [fa_lit, nLE, nLT, nEQ, nI_add, nSA, nSUB, pk_mul, nDIV, nREM, nCL, fa_and, nx_xor, fa_or, nSHL, nSHR, nUS, n31, n255, Nat.and_one_is_mod, b_I, b_V, b_L, not_or, Nat.not_lt_zero, Nat.not_le, Nat.not_lt, not_false_eq_true, true_and, and_true, false_or, or_false, Classical.not_not, if_true, if_false, if_pos, if_neg] <;> omega), b_L, show nI k + 1 = nI (k + 1) from nI_add k 1]
      · rw [gp_k]
        by_cases e : j = k
        · rw [if_pos e]
        · rw [if_neg e]; exact q2 j (by omega)
    · intro m a hq
      refine ⟨a, ?_, hq⟩
      show fX12_begins_b67 1000 (fX12_begins_L67 1000 m) (nI 616) a = _
      unfold fX12_begins_b67
      rw [if_pos (by decide)]
  obtain ⟨σ4, d1, d2, d3⟩ := k2
  have e34 : σ4.1 3 4 = nI K := by rw [d2.1 3 (by simp), c3.1 3 (by simp), b3]; exact r4
  rw [d1, e34, b_L]
  have k3 : ∃ σ5, fX12_begins_L103 1000 1000 0 (g_put σ4 10 424 (nI K)) = fX12_begins_L127 1000 1000 0 σ5 ∧ fr [10] σ4 σ5 ∧ ∀ j, j < 616 → σ5.1 10 j = if j = 424 then nI K else if 432 ≤ j ∧ j < 435 then -1 else 0 := by
    refine lp (L := fun m k (a : gM) => fX12_begins_L103 1000 m (nI k) a) (I := fun k a => fr [10] σ4 a ∧ ∀ j, j < 616 → a.1 10 j = if j = 424 then nI K else if 432 ≤ j ∧ j < 432 + k then -1 else 0) (Q := fun o => ∃ σ5, o = fX12_begins_L127 1000 1000 0 σ5 ∧ fr [10] σ4 σ5 ∧ ∀ j, j < 616 → σ5.1 10 j = if j = 424 then nI K else if 432 ≤ j ∧ j < 435 then -1 else 0) (N := 3) ?_ ?_ 3 1000 0 _ rfl (by omega) ⟨fr_put _ _ _ (by simp), fun j hj => ?_⟩
    · intro m k a hk hq
      obtain ⟨q1, q2⟩ := hq
      refine Or.inl ⟨g_put a 10 (432 + k) (-1), ?_, fr_trans q1 (fr_put _ _ _ (by simp)), fun j hj => ?_⟩
      · show fX12_begins_b103 1000 (fX12_begins_L103 1000 m) (nI k) a = _
        unfold fX12_begins_b103
        rw [if_neg (by simp (disch := first | omega | assumption) only [fa_lit, nLE, nLT, nEQ, nI_add, nSA, nSUB, pk_mul, nDIV, nREM, nCL, fa_and, nx_xor, fa_or, nSHL, nSHR, nUS, n31, n255, Nat.and_one_is_mod, b_I, b_V, b_L, not_or, Nat.not_lt_zero, Nat.not_le, Nat.not_lt, not_false_eq_true, true_and, and_true, false_or, or_false, Classical.not_not, if_true, if_false, if_pos, if_neg] <;> omega), show (432 : Int32) + nI k = nI (432 + k) from nI_add 432 k, nCL (by omega), if_pos (by simp (disch := first | omega | assumption) only [fa_lit, nLE, nLT, nEQ, nI_add, nSA, nSUB, pk_mul, nDIV, nREM, nCL, fa_and, nx_xor, fa_or, nSHL, nSHR, nUS, n31, n255, Nat.and_one_is_mod, b_I, b_V, b_L, not_or, Nat.not_lt_zero, Nat.not_le, Nat.not_lt, not_false_eq_true, true_and, and_true, false_or, or_false, Classical.not_not, if_true, if_false, if_pos, if_neg] <;> omega), b_L, show nI k + 1 = nI (k + 1) from nI_add k 1]
      · rw [gp_k]
        by_cases e : j = 432 + k
        · rw [if_pos e, if_neg (by omega), if_pos (by omega)]
        · rw [if_neg e, q2 j hj]
          by_cases e1 : j = 424
          · rw [if_pos e1, if_pos e1]
          · rw [if_neg e1, if_neg e1]
            by_cases e2 : 432 ≤ j ∧ j < 432 + k
            · rw [if_pos e2, if_pos (by omega)]
            · rw [if_neg e2, if_neg (by omega)]
    · intro m a hq
      refine ⟨a, ?_, hq⟩
      show fX12_begins_b103 1000 (fX12_begins_L103 1000 m) (nI 3) a = _
      unfold fX12_begins_b103
      rw [if_pos (by decide)]
    · rw [gp_k]
      by_cases e1 : j = 424
      · rw [if_pos e1, if_pos e1]
      · rw [if_neg e1, if_neg e1, if_neg (by omega)]; exact d3 j hj
  obtain ⟨σ5, l1, l2, l3⟩ := k3
  rw [l1]
  have G : gj [3, 8, 9, 10] [13, 14] σ2 σ5 := gj_trans (gj_mono (gj_fr (J := []) c3 (by simp)) (by simp) (by simp)) (gj_trans (gj_mono (gj_fr (J := []) d2 (by simp)) (by simp) (by simp)) (gj_mono (gj_fr (J := []) l2 (by simp)) (by simp) (by simp)))
  have z3 : ∀ j, σ5.1 3 j = σ1.1 3 j := fun j => by rw [l2.1 3 (by simp), d2.1 3 (by simp), c3.1 3 (by simp)]; exact b3 j
  have z0 : σ5.1 0 = σ2.1 0 := by rw [l2.1 0 (by simp), d2.1 0 (by simp), c3.1 0 (by simp)]
  have z8 : σ5.1 8 = σ3.1 8 := by rw [l2.1 8 (by simp), d2.1 8 (by simp)]
  have z9 : σ5.1 9 = σ3.1 9 := by rw [l2.1 9 (by simp), d2.1 9 (by simp)]
  refine ⟨σ5, rfl, ⟨hw, ⟨by rw [z3]; exact r0, by rw [z3]; exact r1, by rw [z3]; exact r2, by rw [z3]; exact r3, by rw [z0]; exact b13, by rw [z0]; exact b14⟩, ?_⟩, ?_, gj_trans b1 G⟩
  · unfold MF at *
    rw [z8, z9]
    exact c2
  · refine ⟨fun d t b hd ht hb _ => ?_, fun d hd => ?_, fun d hd h => absurd (show (0 : Nat) = 0 from rfl) h, fun d hd => ?_, fun d hd => ?_, fun d hd => ?_, ?_, ?_, ?_, ?_, ?_, ?_, ?_, ?_, ?_, ?_, ?_, fun k hk => ?_⟩
    · rw [l3 _ (by omega), if_neg (by omega), if_neg (by omega)]; rfl
    · rw [l3 _ (by omega), if_neg (by omega), if_neg (by omega)]; rfl
    · rw [l3 _ (by omega), if_neg (by omega), if_neg (by omega)]; rfl
    · rw [l3 _ (by omega), if_neg (by omega), if_neg (by omega)]; rfl
    · rw [l3 _ (by omega), if_neg (by omega), if_neg (by omega)]; rfl
    · rw [l3 _ (by omega)]; rfl
    · rw [l3 _ (by omega)]; rfl
    · rw [l3 _ (by omega)]; rfl
    · rw [l3 _ (by omega)]; rfl
    · rw [l3 _ (by omega)]; rfl
    · rw [l3 _ (by omega)]; rfl
    · rw [l3 _ (by omega)]; rfl
    · rw [l3 _ (by omega)]; rfl
    · rw [l3 _ (by omega)]; rfl
    · rw [l3 _ (by omega)]; rfl
    · rw [l3 _ (by omega)]; rfl
    · rw [l3 _ (by omega), if_neg (by omega), if_neg (by omega)]; rfl
/-- the bytes of the text are written -/
theorem J_writes {D S C F n : Nat} {V : Nat → Nat} (hn : n ≤ 16) (hV : ∀ i, i < n → V (2 * i) ≤ 287 ∧ V (2 * i + 1) ≤ 255) : ∀ (q i mX mM : Nat) (s : Sh) (σX σM : gM), i + q = n → q < mX → q < mM → XE D S C F σX → ME D S C F σM → Ok D S C s → XS C s (σX.1 11) → MS C s (σM.1 10) 0 → σX.1 1 7 = nI n → σM.1 0 11 = nI n → (∀ i, i < 2 * n → σX.1 4 i = nI (V i)) → (∀ i, i < 2 * n → σM.1 4 i = nI (V i)) →
    ∃ s' τX τM KX KM, fX11_takeShelf_L54 1000 mX (nI i) σX = fX11_takeShelf_b54 1000 KX (nI n) τX ∧ fX12_begins_L127 1000 mM (nI i) σM = fX12_begins_b127 1000 KM (nI n) τM ∧ Ok D S C s' ∧ XS C s' (τX.1 11) ∧ MS C s' (τM.1 10) 0 ∧ s'.lo = s.lo ∧ fr [11, 13] σX τX ∧ gj [10, 14, 15] [26, 27, 28] σM τM := by
  intro q
  induction q with
  | zero =>
    intro i mX mM s σX σM hi hm1 hm2 xe me ok xs ms _ _ _ _
    obtain ⟨mX, rfl⟩ : ∃ m', mX = m' + 1 := ⟨mX - 1, by omega⟩
    obtain ⟨mM, rfl⟩ : ∃ m', mM = m' + 1 := ⟨mM - 1, by omega⟩
    have : i = n := by omega
    subst this
    exact ⟨s, σX, σM, _, _, rfl, rfl, ok, xs, ms, rfl, fr_refl _ _, gj_refl _ _ _⟩
  | succ q ih =>
    intro i mX mM s σX σM hi hm1 hm2 xe me ok xs ms h7 h11 hX4 hM4
    obtain ⟨mX, rfl⟩ : ∃ m', mX = m' + 1 := ⟨mX - 1, by omega⟩
    obtain ⟨mM, rfl⟩ : ∃ m', mM = m' + 1 := ⟨mM - 1, by omega⟩
    rw [show fX11_takeShelf_L54 1000 (mX + 1) (nI i) σX = fX11_takeShelf_b54 1000 (fX11_takeShelf_L54 1000 mX) (nI i) σX from rfl, show fX12_begins_L127 1000 (mM + 1) (nI i) σM = fX12_begins_b127 1000 (fX12_begins_L127 1000 mM) (nI i) σM from rfl]
    have ni : ¬ nI n ≤ nI i := by rw [nLE _ _ (by omega) (by omega)]; omega
    have e2 : (2 : Int32) * nI i = nI (2 * i) := pk_mul 2 i
    have e21 : nI (2 * i) + 1 = nI (2 * i + 1) := nI_add _ 1
    have g0 : ¬ nI i < 0 := by rw [show (0 : Int32) = nI 0 from rfl, nLT _ _ (by omega) (by omega)]; omega
    have g16 : ¬ (16 : Int32) ≤ nI i := by rw [show (16 : Int32) = nI 16 from rfl, nLE _ _ (by omega) (by omega)]; omega
    have y1 : ¬ (nI (2 * i) < 0 ∨ 32 ≤ 2 * i) := by rw [show (0 : Int32) = nI 0 from rfl, nLT _ _ (by omega) (by omega)]; omega
    have y2 : ¬ (nI (2 * i + 1) < 0 ∨ 32 ≤ 2 * i + 1) := by rw [show (0 : Int32) = nI 0 from rfl, nLT _ _ (by omega) (by omega)]; omega
    have bA : fX10_byteAddress (nI i) σX = some (nI (V (2 * i)), σX) := by
      unfold fX10_byteAddress
      rw [if_neg g0, h7, if_neg ni, if_neg g16, e2, nCL (by omega), if_pos y1, hX4 _ (by omega)]
    have bV : fX10_byteValue (nI i) σX = some (nI (V (2 * i + 1)), σX) := by
      unfold fX10_byteValue
      rw [if_neg g0, h7, if_neg ni, if_neg g16, e2, e21, nCL (by omega), if_pos y2, hX4 _ (by omega)]
    obtain ⟨v1, v2⟩ := hV i (by omega)
    have hd := DSC_lt xe.1
    have m14 : σM.1 0 14 = nI (D * S * C) := me.2.1.2.2.2.2.2
    unfold fX11_takeShelf_b54 fX12_begins_b127 fX11_takeShelf_b110 fX12_begins_b176 fX10_byteCount
    rw [h7, b_I, if_neg ni, bA, b_I, h11, if_neg ni, e2, nCL (by omega), e21, nCL (by omega), if_pos y1, if_pos y1, if_pos y2, m14, hM4 _ (by omega), hM4 _ (by omega), show nI i + 1 = nI (i + 1) from nI_add i 1]
    by_cases c : V (2 * i) < D * S * C
    · have xs0 : XS C s (σX.1 (11 + 5 * 0)) := xs
      obtain ⟨τX, x1, x2, x3⟩ := X_doWrite (n := 1000) (i := 0) (by omega) xe ok xs0 c (show V (2 * i + 1) < 256 by omega)
      obtain ⟨τM, z1, z2, z3⟩ := M_writes (n := 1000) (by omega) me ok ms (by omega) (by omega) c (show V (2 * i + 1) < 256 by omega)
      obtain ⟨w1, w2, w3, w4, w5, w6, w7⟩ := xe.1
      have hwb := ad_lt w5 w1 c
      have ok' := wS_ok (F := F) (D := D) (b := V (2 * i) % C) (show D < 7 by omega) w1 w7 (show V (2 * i) / C / D < 12 by omega) hwb.2.1 (show V (2 * i + 1) < 256 by omega) ok
      have x3' : fr [11, 13] σX τX := x3
      rw [X_isAddress_yes xe c, b_I, if_neg n10, bA, b_I, bV, b_I, cr_0, x1, b_I, b_I, if_neg (show ¬ nI (D * S * C) ≤ nI (V (2 * i)) by rw [nLE _ _ (by omega) (by omega)]; omega), z1, b_V]
      obtain ⟨s', υX, υM, KX, KM, k1, k2, k3, k4, k5, k6, k7, k8⟩ := ih (i + 1) mX mM (wS F D s (V (2 * i) / C / D) (V (2 * i) % C) (V (2 * i) / C % D) (V (2 * i + 1))) τX τM (by omega) (by omega) (by omega) (XE_fr xe x3' (by simp) (by simp) (by simp) (by simp)) (ME_gj me z3 (by simp) (by simp) (by simp) (by simp) (by simp)) ok' x2 z2 (by rw [x3'.1 1 (by simp)]; exact h7) (by rw [z3.2.1 11 (by simp)]; exact h11) (by rw [x3'.1 4 (by simp)]; exact hX4) (by rw [z3.1 4 (by simp) (by decide)]; exact hM4)
      exact ⟨s', υX, υM, KX, KM, k1, k2, k3, k4, k5, k6, fr_trans x3' k7, gj_trans z3 k8⟩
    · have hge : nI (D * S * C) ≤ nI (V (2 * i)) := by rw [nLE _ _ (by omega) (by omega)]; omega
      have xa : fX6_isAddress (nI (V (2 * i))) σX = some (0, σX) := X_isAddress_no xe (Or.inr ⟨by rw [show (0 : Int32) = nI 0 from rfl, nLT _ _ (by omega) (by omega)]; omega, hge⟩)
      rw [xa, b_I, if_pos rfl, if_pos hge]
      exact ih (i + 1) mX mM s σX σM (by omega) (by omega) (by omega) xe me ok xs ms h7 h11 hX4 hM4
