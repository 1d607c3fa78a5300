/-! a shelf begins -/
theorem X_item {k : Nat} (hk : k < 7) (σ : gM) : fX10_item (nI k) σ = some (σ.1 3 k, σ) := by
  unfold fX10_item
  rw [nCL (by omega), if_neg (by simp (disch := first | omega | assumption) only [fa_lit, nLE, nLT, nEQ, nI_add, nSA, nSUB, pk_mul, nDIV, nREM, nCL, fa_and, nx_xor, fa_or, nSHL, nSHR, nUS, n31, n255, Nat.and_one_is_mod, b_I, b_V, b_L, not_or, Nat.not_lt_zero, Nat.not_le, Nat.not_lt, not_false_eq_true, true_and, and_true, false_or, or_false, Classical.not_not, if_true, if_false, if_pos, if_neg] <;> omega), if_neg (by simp (disch := first | omega | assumption) only [fa_lit, nLE, nLT, nEQ, nI_add, nSA, nSUB, pk_mul, nDIV, nREM, nCL, fa_and, nx_xor, fa_or, nSHL, nSHR, nUS, n31, n255, Nat.and_one_is_mod, b_I, b_V, b_L, not_or, Nat.not_lt_zero, Nat.not_le, Nat.not_lt, not_false_eq_true, true_and, and_true, false_or, or_false, Classical.not_not, if_true, if_false, if_pos, if_neg] <;> omega), if_pos (by simp (disch := first | omega | assumption) only [fa_lit, nLE, nLT, nEQ, nI_add, nSA, nSUB, pk_mul, nDIV, nREM, nCL, fa_and, nx_xor, fa_or, nSHL, nSHR, nUS, n31, n255, Nat.and_one_is_mod, b_I, b_V, b_L, not_or, Nat.not_lt_zero, Nat.not_le, Nat.not_lt, not_false_eq_true, true_and, and_true, false_or, or_false, Classical.not_not, if_true, if_false, if_pos, if_neg] <;> omega)]
theorem X_take {D S C F K : Nat} {σ : gM} (hw : wfP D S C F) (h0 : σ.1 3 0 = nI D) (h1 : σ.1 3 1 = nI S) (h2 : σ.1 3 2 = nI C) (h3 : σ.1 3 3 = nI F) (h4 : σ.1 3 4 = nI K) : ∃ σ', fX6_take σ = some σ' ∧ XR D S C F σ' ∧ σ'.1 5 4 = nI K ∧ fr [5] σ σ' := by
  obtain ⟨w1, w2, w3, w4, w5, w6, w7⟩ := hw
  have i0 : ∀ τ : gM, fX10_item 0 τ = some (τ.1 3 0, τ) := fun τ => X_item (k := 0) (by decide) τ
  have i1 : ∀ τ : gM, fX10_item 1 τ = some (τ.1 3 1, τ) := fun τ => X_item (k := 1) (by decide) τ
  have i2 : ∀ τ : gM, fX10_item 2 τ = some (τ.1 3 2, τ) := fun τ => X_item (k := 2) (by decide) τ
  have i3 : ∀ τ : gM, fX10_item 3 τ = some (τ.1 3 3, τ) := fun τ => X_item (k := 3) (by decide) τ
  have i4 : ∀ τ : gM, fX10_item 4 τ = some (τ.1 3 4, τ) := fun τ => X_item (k := 4) (by decide) τ
  have p3 : ∀ (τ : gM) (i j : Nat) (x : Int32), (g_put τ 5 i x).1 3 j = τ.1 3 j := fun τ i j x => gp_o (by decide) j
  unfold fX6_take
  simp only [i0, i1, i2, i3, i4, b_I, b_L, p3, h0, h1, h2, h3, h4]
  have q1 : 1 ≤ 2 ^ D := Nat.one_le_two_pow
  have q2 : 1 ≤ 2 ^ (D + 2) := Nat.one_le_two_pow
  have e2 : nI D + 2 = nI (D + 2) := nI_add D 2
  have e1 : nI D + 1 = nI (D + 1) := nI_add D 1
  have s1 : ((1 : Int32) <<< (nI D &&& 31)) - 1 = nI (2 ^ D - 1) := by rw [sh1 (by omega)]; exact pk_sub (b := 1) q1
  have s2 : ((1 : Int32) <<< (nI (D + 2) &&& 31)) - 1 = nI (2 ^ (D + 2) - 1) := by rw [sh1 (by omega)]; exact pk_sub (b := 1) q2
  refine ⟨_, rfl, ⟨?_, ?_, ?_, ?_, ?_, ?_, ?_, ?_, ?_⟩, ?_, ?_⟩
  · simp [gp_k]
  · simp [gp_k]
  · simp [gp_k]
  · simp [gp_k]
  · simp [gp_k, e2]
  · simp [gp_k]
  · simp [gp_k, e1]
  · simp [gp_k, s1]
  · simp [gp_k, e2, s2]
  · simp [gp_k]
  · exact fr_trans (fr_put _ _ _ (by simp)) (fr_trans (fr_put _ _ _ (by simp)) (fr_trans (fr_put _ _ _ (by simp)) (fr_trans (fr_put _ _ _ (by simp)) (fr_trans (fr_put _ _ _ (by simp)) (fr_trans (fr_put _ _ _ (by simp)) (fr_trans (fr_put _ _ _ (by simp)) (fr_trans (fr_put _ _ _ (by simp)) (fr_trans (fr_put _ _ _ (by simp)) (fr_put _ _ _ (by simp))))))))))
/-- the shelf as it begins -/
def sh0 (S K : Nat) : Sh := mkSh (fun _ => 0) (fun _ => S) (fun _ _ _ => 0) (fun _ => 0) (fun _ => 0) (fun _ => 0) K 0 0 0 0 (-1) (-1) (-1) (fun _ => 0)
theorem sh0_ok {D S C F K : Nat} (hw : wfP D S C F) (hK : K < 10) : Ok D S C (sh0 S K) := by
  obtain ⟨w1, w2, w3, w4, w5, w6, w7⟩ := hw
  refine ⟨fun d _ => Nat.zero_le _, fun d _ _ => rfl, fun d _ h => ?_, fun d _ h => ?_, fun _ _ _ => by show 0 < 256; decide, ?_, hK, by show 0 < S; omega, Nat.two_pow_pos S⟩
  · exact absurd (show 0 = 1 from h) (by decide)
  · exact absurd (show 0 = 2 from h) (by decide)
  · have : ∀ n, ct (fun d => decide ((sh0 S K).how d ≠ 0)) n = 0 := by
      intro n
      induction n with
      | zero => rfl
      | succ n ih => rw [ct, ih]; rfl
    rw [this]; decide
theorem X_zero {m0 : Nat} (σ : gM) (hm : m0 = 1000) : ∃ σ', fX9_start_L2 1000 0 m0 0 σ = fX9_start_L24 1000 0 1000 0 σ' ∧ fr [11] σ σ' ∧ ∀ j, j < 144 → σ'.1 11 j = 0 := by
  subst hm
  refine lp (L := fun m k (a : gM) => fX9_start_L2 1000 0 m (nI k) a) (I := fun k a => fr [11] σ a ∧ ∀ j, j < k → a.1 11 j = 0) (Q := fun o => ∃ σ', o = fX9_start_L24 1000 0 1000 0 σ' ∧ fr [11] σ σ' ∧ ∀ j, j < 144 → σ'.1 11 j = 0) (N := 144) ?_ ?_ 144 1000 0 σ rfl (by omega) ⟨fr_refl _ _, fun j hj => by omega⟩
  · intro m k a hk hq
    obtain ⟨q1, q2⟩ := hq
    refine Or.inl ⟨g_put a 11 k 0, ?_, fr_trans q1 (fr_put _ _ _ (by simp)), fun j hj => ?_⟩
    · show fX9_start_b2 1000 0 (fX9_start_L2 1000 0 m) (nI k) a = _
      unfold fX9_start_b2
      rw [if_neg (by simp (disch := first | omega | assumption) only [fa_lit, nLE, nLT, nEQ, nI_add, nSA, nSUB, pk_mul, nDIV, nREM, nCL, fa_and, nx_xor, fa_or, nSHL, nSHR, nUS, n31, n255, Nat.and_one_is_mod, b_I, b_V, b_L, not_or, Nat.not_lt_zero, Nat.not_le, Nat.not_lt, not_false_eq_true, true_and, and_true, false_or, or_false, Classical.not_not, if_true, if_false, if_pos, if_neg] <;> omega), nCL (by omega), if_pos (by simp (disch := first | omega | assumption) only [fa_lit, nLE, nLT, nEQ, nI_add, nSA, nSUB, pk_mul, nDIV, nREM, nCL, fa_and, nx_xor, fa_or, nSHL, nSHR, nUS, n31, n255, Nat.and_one_is_mod, b_I, b_V, b_L, not_or, Nat.not_lt_zero, Nat.not_le, Nat.not_lt, not_false_eq_true, true_and, and_true, false_or, or_false, Classical.not_not, if_true, if_false, if_pos, if_neg] <;> omega), b_L, show nI k + 1 = nI (k + 1) from nI_add k 1]
    · rw [gp_k]
      by_cases e : j = k
      · rw [if_pos e]
      · rw [if_neg e]; exact q2 j (by omega)
  · intro m a hq
    refine ⟨a, ?_, hq⟩
    show fX9_start_b2 1000 0 (fX9_start_L2 1000 0 m) (nI 144) a = _
    unfold fX9_start_b2
    rw [if_pos (by decide)]
theorem X_start {S C K : Nat} {σ : gM} (hC : C ≤ 4) (h1 : σ.1 5 1 = nI S) (h4 : σ.1 5 4 = nI K) : ∃ σ', fX9_start 1000 0 σ = some σ' ∧ fr [11] σ σ' ∧ XS C (sh0 S K) (σ'.1 11) := by
  unfold fX9_start
  obtain ⟨σ1, k1, k2, k3⟩ := X_zero σ rfl
  rw [k1]
  have key : ∃ σ', fX9_start_L24 1000 0 1000 0 σ1 = some σ' ∧ fr [11] σ1 σ' ∧ (∀ j, j < 144 → σ'.1 11 j = if 104 ≤ j ∧ j < 112 then nI S else if j = 136 then nI K else if 141 ≤ j then -1 else 0) := by
    refine lp (L := fun m k (a : gM) => fX9_start_L24 1000 0 m (nI k) a) (I := fun k a => fr [11] σ1 a ∧ ∀ j, j < 144 → a.1 11 j = if 104 ≤ j ∧ j < 104 + k then nI S else 0) (Q := fun o => ∃ σ', o = some σ' ∧ fr [11] σ1 σ' ∧ (∀ j, j < 144 → σ'.1 11 j = if 104 ≤ j ∧ j < 112 then nI S else if j = 136 then nI K else if 141 ≤ j then -1 else 0)) (N := 8) ?_ ?_ 8 1000 0 σ1 rfl (by omega) ⟨fr_refl _ _, fun j hj => by rw [if_neg (by omega)]; exact k3 j hj⟩
    · intro m k a hk hq
      obtain ⟨q1, q2⟩ := hq
      have e5 : a.1 5 1 = nI S := by rw [q1.1 5 (by simp), k2.1 5 (by simp)]; exact h1
      refine Or.inl ⟨g_put a 11 (104 + k) (nI S), ?_, fr_trans q1 (fr_put _ _ _ (by simp)), fun j hj => ?_⟩
      · show fX9_start_b24 1000 0 (fX9_start_L24 1000 0 m) (nI k) a = _
        unfold fX9_start_b24
        rw [if_neg (by simp (disch := first | omega | assumption) only [fa_lit, nLE, nLT, nEQ, nI_add, nSA, nSUB, pk_mul, nDIV, nREM, nCL, fa_and, nx_xor, fa_or, nSHL, nSHR, nUS, n31, n255, Nat.and_one_is_mod, b_I, b_V, b_L, not_or, Nat.not_lt_zero, Nat.not_le, Nat.not_lt, not_false_eq_true, true_and, and_true, false_or, or_false, Classical.not_not, if_true, if_false, if_pos, if_neg] <;> omega), show (104 : Int32) + nI k = nI (104 + k) from nI_add 104 k, nCL (by omega), if_pos (by simp (disch := first | omega | assumption) only [fa_lit, nLE, nLT, nEQ, nI_add, nSA, nSUB, pk_mul, nDIV, nREM, nCL, fa_and, nx_xor, fa_or, nSHL, nSHR, nUS, n31, n255, Nat.and_one_is_mod, b_I, b_V, b_L, not_or, Nat.not_lt_zero, Nat.not_le, Nat.not_lt, not_false_eq_true, true_and, and_true, false_or, or_false, Classical.not_not, if_true, if_false, if_pos, if_neg] <;> omega), b_L, e5, show nI k + 1 = nI (k + 1) from nI_add k 1]
      · rw [gp_k]
        by_cases e : j = 104 + k
        · rw [if_pos e, if_pos (by omega)]
        · rw [if_neg e, q2 j hj]
          by_cases e2 : 104 ≤ j ∧ j < 104 + k
          · rw [if_pos e2, if_pos (by omega)]
          · rw [if_neg e2, if_neg (by omega)]
    · intro m a hq
      obtain ⟨q1, q2⟩ := hq
      have e5 : a.1 5 4 = nI K := by rw [q1.1 5 (by simp), k2.1 5 (by simp)]; exact h4
      refine ⟨g_put (g_put (g_put (g_put a 11 136 (nI K)) 11 141 (-1)) 11 142 (-1)) 11 143 (-1), ?_, fr_trans q1 (fr_trans (fr_put _ _ _ (by simp)) (fr_trans (fr_put _ _ _ (by simp)) (fr_trans (fr_put _ _ _ (by simp)) (fr_put _ _ _ (by simp))))), fun j hj => ?_⟩
      · show fX9_start_b24 1000 0 (fX9_start_L24 1000 0 m) (nI 8) a = _
        unfold fX9_start_b24
        rw [if_pos (by decide), e5, b_L, b_L, b_L, b_L]
      · rw [gp_k, gp_k, gp_k, gp_k, q2 j hj]
        by_cases c1 : j = 143
        · subst c1; rfl
        · by_cases c2 : j = 142
          · subst c2; rfl
          · by_cases c3 : j = 141
            · subst c3; rfl
            · rw [if_neg c1, if_neg c2, if_neg c3]
              by_cases c4 : j = 136
              · subst c4; rfl
              · rw [if_neg c4]
                by_cases c5 : 104 ≤ j ∧ j < 112
                · rw [if_pos (by omega), if_pos c5]
                · rw [if_neg (by omega), if_neg c5, if_neg c4, if_neg (by omega)]
  obtain ⟨σ2, l1, l2, l3⟩ := key
  refine ⟨σ2, l1, fr_trans k2 l2, ?_⟩
  refine ⟨fun d t b hd ht hb _ => ?_, fun d hd => ?_, fun d hd => ?_, fun d hd => ?_, fun d hd => ?_, fun d hd => ?_, ?_, ?_, ?_, ?_, ?_, ?_, ?_, ?_⟩
  · unfold rb
    rw [l3 _ (by omega), if_neg (by omega), if_neg (by omega), if_neg (by omega), show (0 : Int32) = nI 0 from rfl, nUS (by omega) (by omega), Nat.zero_div, fa_and]
    exact congrArg nI (Nat.zero_and 255)
  · rw [l3 _ (by omega), if_neg (by omega), if_neg (by omega), if_neg (by omega)]; rfl
  · rw [l3 _ (by omega), if_pos (by omega)]; rfl
  · rw [l3 _ (by omega), if_neg (by omega), if_neg (by omega), if_neg (by omega)]; rfl
  · rw [l3 _ (by omega), if_neg (by omega), if_neg (by omega), if_neg (by omega)]; rfl
  · rw [l3 _ (by omega), if_neg (by omega), if_neg (by omega), if_neg (by omega)]; rfl
  · rw [l3 _ (by omega)]; rfl
  · rw [l3 _ (by omega)]; rfl
  · rw [l3 _ (by omega)]; rfl
  · rw [l3 _ (by omega)]; rfl
  · rw [l3 _ (by omega)]; rfl
  · rw [l3 _ (by omega)]; rfl
  · rw [l3 _ (by omega)]; rfl
  · rw [l3 _ (by omega)]; rfl
