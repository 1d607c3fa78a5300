/-! the reference's row -/
theorem M_isThere {D S C : Nat} {s : Sh} {w d t : Nat} {σ : gM} (hO : Ok D S C s) (hS : S ≤ 12) (h : MS C s (σ.1 w) 0) (hd : d < 8) (ht : t < S) : fX12_isThere w (nI d) (nI t) σ = some (nI (if t < s.don d then 1 else 0), σ) := by
  have a := h.how d hd
  rw [Nat.zero_add] at a
  have b := h.don d hd
  rw [Nat.zero_add] at b
  have c1 := hO.how d hd
  have c2 := hO.h0 d hd
  have c3 := hO.h1 d hd
  have c4 := hO.h2 d hd
  have e1 : (384 : Int32) + nI d = nI (384 + d) := by simp (disch := first | omega | assumption) only [fa_lit, nLE, nLT, nEQ, nI_add, nSA, nSUB, pk_mul, nDIV, nREM, nCL, fa_and, nx_xor, fa_or, nSHL, nSHR, nUS, n31, n255, Nat.and_one_is_mod, b_I, b_V, b_L, not_or, Nat.not_lt_zero, Nat.not_le, Nat.not_lt, not_false_eq_true, true_and, and_true, false_or, or_false, Classical.not_not, if_true, if_false, if_pos, if_neg]
  have e2 : (392 : Int32) + nI d = nI (392 + d) := by simp (disch := first | omega | assumption) only [fa_lit, nLE, nLT, nEQ, nI_add, nSA, nSUB, pk_mul, nDIV, nREM, nCL, fa_and, nx_xor, fa_or, nSHL, nSHR, nUS, n31, n255, Nat.and_one_is_mod, b_I, b_V, b_L, not_or, Nat.not_lt_zero, Nat.not_le, Nat.not_lt, not_false_eq_true, true_and, and_true, false_or, or_false, Classical.not_not, if_true, if_false, if_pos, if_neg]
  unfold fX12_isThere fX12_isThere_b32
  rw [e1, e2, nCL (by omega), nCL (by omega), a]
  rcases (show s.how d = 0 ∨ s.how d = 1 ∨ s.how d = 2 by omega) with e | e | e
  · have c2 := c2 e
    rw [e]
    simp (disch := first | omega | assumption) only [fa_lit, nLE, nLT, nEQ, nI_add, nSA, nSUB, pk_mul, nDIV, nREM, nCL, fa_and, nx_xor, fa_or, nSHL, nSHR, nUS, n31, n255, Nat.and_one_is_mod, b_I, b_V, b_L, not_or, Nat.not_lt_zero, Nat.not_le, Nat.not_lt, not_false_eq_true, true_and, and_true, false_or, or_false, Classical.not_not, if_true, if_false, if_pos, if_neg]
  · have c3 := c3 e
    rw [e]
    simp (disch := first | omega | assumption) only [fa_lit, nLE, nLT, nEQ, nI_add, nSA, nSUB, pk_mul, nDIV, nREM, nCL, fa_and, nx_xor, fa_or, nSHL, nSHR, nUS, n31, n255, Nat.and_one_is_mod, b_I, b_V, b_L, not_or, Nat.not_lt_zero, Nat.not_le, Nat.not_lt, not_false_eq_true, true_and, and_true, false_or, or_false, Classical.not_not, if_true, if_false, if_pos, if_neg]
  · have c4 := c4 e
    rw [e, b (by omega)]
    by_cases c : t < s.don d
    · simp (disch := first | omega | assumption) only [fa_lit, nLE, nLT, nEQ, nI_add, nSA, nSUB, pk_mul, nDIV, nREM, nCL, fa_and, nx_xor, fa_or, nSHL, nSHR, nUS, n31, n255, Nat.and_one_is_mod, b_I, b_V, b_L, not_or, Nat.not_lt_zero, Nat.not_le, Nat.not_lt, not_false_eq_true, true_and, and_true, false_or, or_false, Classical.not_not, if_true, if_false, if_pos, if_neg]
    · simp (disch := first | omega | assumption) only [fa_lit, nLE, nLT, nEQ, nI_add, nSA, nSUB, pk_mul, nDIV, nREM, nCL, fa_and, nx_xor, fa_or, nSHL, nSHR, nUS, n31, n255, Nat.and_one_is_mod, b_I, b_V, b_L, not_or, Nat.not_lt_zero, Nat.not_le, Nat.not_lt, not_false_eq_true, true_and, and_true, false_or, or_false, Classical.not_not, if_true, if_false, if_pos, if_neg]
def MV (D : Nat) (v : Nat → Nat) (σ : gM) : Prop := ∀ r, r < D + 2 → σ.1 14 r = nI (v r)
def MI (D : Nat) (is : Nat → Bool) (σ : gM) : Prop := ∀ r, r < D + 2 → σ.1 15 r = nI (if is r then 1 else 0)
theorem MV_put {D k x : Nat} {v : Nat → Nat} {σ : gM} (h : MV D v σ) : MV D (ud v k x) (g_put σ 14 k (nI x)) := by
  intro r hr
  rw [gp_k, ud]
  by_cases e : r = k
  · rw [if_pos e, if_pos e]
  · rw [if_neg e, if_neg e, h r hr]
theorem MI_fr {D : Nat} {is : Nat → Bool} {σ σ' : gM} {L : List Nat} (h : MI D is σ) (hf : fr L σ σ') (hL : 15 ∉ L) : MI D is σ' := by
  intro r hr
  rw [hf.1 _ hL, h r hr]
theorem MV_fr {D : Nat} {v : Nat → Nat} {σ σ' : gM} {L : List Nat} (h : MV D v σ) (hf : fr L σ σ') (hL : 14 ∉ L) : MV D v σ' := by
  intro r hr
  rw [hf.1 _ hL, h r hr]
theorem M_spot {d t b : Nat} {σ : gM} (hd : d < 8) (ht : t < 12) (hb : b < 4) : fX12_spot (nI d) (nI t) (nI b) σ = some (nI (48 * d + 4 * t + b), σ) := by
  unfold fX12_spot
  simp (disch := first | omega | assumption) only [fa_lit, nLE, nLT, nEQ, nI_add, nSA, nSUB, pk_mul, nDIV, nREM, nCL, fa_and, nx_xor, fa_or, nSHL, nSHR, nUS, n31, n255, Nat.and_one_is_mod, b_I, b_V, b_L, not_or, Nat.not_lt_zero, Nat.not_le, Nat.not_lt, not_false_eq_true, true_and, and_true, false_or, or_false, Classical.not_not, if_true, if_false, if_pos, if_neg]
/-- which roles are laid, but for two disks -/
def thx (D : Nat) (s : Sh) (t : Nat) (x y : Int32) (r : Nat) : Bool := th D s t r && decide (nI (dk D t r) ≠ x) && decide (nI (dk D t r) ≠ y)
theorem M_lays {D S C F n w t b : Nat} {s : Sh} {σ : gM} {x y : Int32} (hn : 20 ≤ n) (hE : ME D S C F σ) (hO : Ok D S C s) (hX : MS C s (σ.1 w) 0) (hw14 : w ≠ 14) (hw15 : w ≠ 15) (ht : t < S) (hb : b < C) :
    ∃ σ', fX12_lays n w (nI t) (nI b) x y σ = some σ' ∧ MV D (vl D s t b (thx D s t x y)) σ' ∧ MI D (thx D s t x y) σ' ∧ fr [14, 15] σ σ' := by
  have hw := hE.1
  have hw' := hw
  obtain ⟨w1, w2, w3, w4, w5, w6, w7⟩ := hw'
  unfold fX12_lays
  refine lp (L := fun m k a => fX12_lays_L3 n w m (nI t) (nI b) x y (nI k) a) (I := fun k a => (∀ r, r < k → a.1 14 r = nI (vl D s t b (thx D s t x y) r) ∧ a.1 15 r = nI (if thx D s t x y r then 1 else 0)) ∧ fr [14, 15] σ a) (Q := fun o => ∃ σ', o = some σ' ∧ MV D (vl D s t b (thx D s t x y)) σ' ∧ MI D (thx D s t x y) σ' ∧ fr [14, 15] σ σ') (N := D + 2) ?_ ?_ (D + 2) n 0 σ (by omega) (by omega) ⟨fun r hr => absurd hr (Nat.not_lt_zero r), fr_refl _ _⟩
  · intro m k a hk ha
    have hE' := ME_fr hE ha.2 (by simp) (by simp) (by simp) (by simp)
    have hR := hE'.2.1
    have hR' := hR
    obtain ⟨h0, h1, h2, h3, h5, h6⟩ := hR'
    have hd := (dk_ok D (by omega) w1 t (by omega) k hk).1
    have hX' : MS C s (a.1 w) 0 := by rw [ha.2.1 w (by simp [hw14, hw15])]; exact hX
    refine Or.inl ⟨g_put (g_put a 15 k (nI (if thx D s t x y k then 1 else 0))) 14 k (nI (vl D s t b (thx D s t x y) k)), ?_, ?_, fr_trans ha.2 (fr_trans (fr_put _ _ _ (by simp)) (fr_put _ _ _ (by simp)))⟩
    · show fX12_lays_b3 n w (fX12_lays_L3 n w m) _ _ _ _ _ _ = _
      have k0 : fX12_lays_b55 n w (fX12_lays_L3 n w m) (nI t) (nI b) x y (nI k) (nI (dk D t k)) (nI k) a = fX12_lays_L3 n w m (nI t) (nI b) x y (nI (k + 1)) (g_put (g_put a 15 k (nI 0)) 14 k (nI 0)) := by
        unfold fX12_lays_b55 fX12_lays_b56 fX12_lays_b86
        rw [show vp_nar .boolean 0 = nI 0 from rfl, nCL (by omega), if_pos (by simp (disch := first | omega | assumption) only [fa_lit, nLE, nLT, nEQ, nI_add, nSA, nSUB, pk_mul, nDIV, nREM, nCL, fa_and, nx_xor, fa_or, nSHL, nSHR, nUS, n31, n255, Nat.and_one_is_mod, b_I, b_V, b_L, not_or, Nat.not_lt_zero, Nat.not_le, Nat.not_lt, not_false_eq_true, true_and, and_true, false_or, or_false, Classical.not_not, if_true, if_false, if_pos, if_neg] <;> omega), b_L, if_pos (by simp (disch := first | omega | assumption) only [fa_lit, nLE, nLT, nEQ, nI_add, nSA, nSUB, pk_mul, nDIV, nREM, nCL, fa_and, nx_xor, fa_or, nSHL, nSHR, nUS, n31, n255, Nat.and_one_is_mod, b_I, b_V, b_L, not_or, Nat.not_lt_zero, Nat.not_le, Nat.not_lt, not_false_eq_true, true_and, and_true, false_or, or_false, Classical.not_not, if_true, if_false, if_pos, if_neg] <;> omega), gp_s, if_pos (show nI 0 = 0 from rfl), if_pos (by simp (disch := first | omega | assumption) only [fa_lit, nLE, nLT, nEQ, nI_add, nSA, nSUB, pk_mul, nDIV, nREM, nCL, fa_and, nx_xor, fa_or, nSHL, nSHR, nUS, n31, n255, Nat.and_one_is_mod, b_I, b_V, b_L, not_or, Nat.not_lt_zero, Nat.not_le, Nat.not_lt, not_false_eq_true, true_and, and_true, false_or, or_false, Classical.not_not, if_true, if_false, if_pos, if_neg] <;> omega), b_L]
        rw [show nI k + 1 = nI (k + 1) from nI_add k 1]
        rfl
      unfold fX12_lays_b3
      rw [h5, if_neg (by simp (disch := first | omega | assumption) only [fa_lit, nLE, nLT, nEQ, nI_add, nSA, nSUB, pk_mul, nDIV, nREM, nCL, fa_and, nx_xor, fa_or, nSHL, nSHR, nUS, n31, n255, Nat.and_one_is_mod, b_I, b_V, b_L, not_or, Nat.not_lt_zero, Nat.not_le, Nat.not_lt, not_false_eq_true, true_and, and_true, false_or, or_false, Classical.not_not, if_true, if_false, if_pos, if_neg] <;> omega), M_diskOf hw hR hk (by omega), b_I, M_isThere hO w4 hX' (by omega) ht, b_I, k0, vl]
      by_cases c1 : t < s.don (dk D t k)
      · rw [if_pos c1, if_neg (by decide)]
        by_cases c2 : nI (dk D t k) = x
        · have e : thx D s t x y k = false := by simp [thx, c2]
          rw [if_pos c2, e]; rfl
        · rw [if_neg c2]
          by_cases c3 : nI (dk D t k) = y
          · have e : thx D s t x y k = false := by simp [thx, c3]
            rw [if_pos c3, e]; rfl
          · have e : thx D s t x y k = true := by simp [thx, th, c1, c2, c3]
            rw [if_neg c3, e, if_pos rfl, if_pos rfl]
            have eb := hX'.byt (dk D t k) t b (by omega) (by omega) hb c1
            rw [Nat.zero_add] at eb
            unfold fX12_lays_b56 fX12_lays_b86
            rw [show vp_nar .boolean 1 = nI 1 from rfl, nCL (by omega), if_pos (by simp (disch := first | omega | assumption) only [fa_lit, nLE, nLT, nEQ, nI_add, nSA, nSUB, pk_mul, nDIV, nREM, nCL, fa_and, nx_xor, fa_or, nSHL, nSHR, nUS, n31, n255, Nat.and_one_is_mod, b_I, b_V, b_L, not_or, Nat.not_lt_zero, Nat.not_le, Nat.not_lt, not_false_eq_true, true_and, and_true, false_or, or_false, Classical.not_not, if_true, if_false, if_pos, if_neg] <;> omega), b_L, if_pos (by simp (disch := first | omega | assumption) only [fa_lit, nLE, nLT, nEQ, nI_add, nSA, nSUB, pk_mul, nDIV, nREM, nCL, fa_and, nx_xor, fa_or, nSHL, nSHR, nUS, n31, n255, Nat.and_one_is_mod, b_I, b_V, b_L, not_or, Nat.not_lt_zero, Nat.not_le, Nat.not_lt, not_false_eq_true, true_and, and_true, false_or, or_false, Classical.not_not, if_true, if_false, if_pos, if_neg] <;> omega), gp_s, if_neg (by decide), M_spot (by omega) (by omega) (by omega), b_I, nCL (by omega), if_pos (by simp (disch := first | omega | assumption) only [fa_lit, nLE, nLT, nEQ, nI_add, nSA, nSUB, pk_mul, nDIV, nREM, nCL, fa_and, nx_xor, fa_or, nSHL, nSHR, nUS, n31, n255, Nat.and_one_is_mod, b_I, b_V, b_L, not_or, Nat.not_lt_zero, Nat.not_le, Nat.not_lt, not_false_eq_true, true_and, and_true, false_or, or_false, Classical.not_not, if_true, if_false, if_pos, if_neg] <;> omega), gp_o hw15, eb, if_pos (by simp (disch := first | omega | assumption) only [fa_lit, nLE, nLT, nEQ, nI_add, nSA, nSUB, pk_mul, nDIV, nREM, nCL, fa_and, nx_xor, fa_or, nSHL, nSHR, nUS, n31, n255, Nat.and_one_is_mod, b_I, b_V, b_L, not_or, Nat.not_lt_zero, Nat.not_le, Nat.not_lt, not_false_eq_true, true_and, and_true, false_or, or_false, Classical.not_not, if_true, if_false, if_pos, if_neg] <;> omega), b_L]
            rw [show nI k + 1 = nI (k + 1) from nI_add k 1]
      · have e : thx D s t x y k = false := by simp [thx, th, c1]
        rw [if_neg c1, if_pos (show nI 0 = 0 from rfl), e]; rfl
    · intro r hr
      rw [gp_k, gp_o (by decide), gp_o (by decide), gp_k]
      by_cases e : r = k
      · rw [if_pos e, if_pos e, e]; exact ⟨rfl, rfl⟩
      · rw [if_neg e, if_neg e]; exact ha.1 r (by omega)
  · intro m a ha
    have hE' := ME_fr hE ha.2 (by simp) (by simp) (by simp) (by simp)
    obtain ⟨h0, h1, h2, h3, h5, h6⟩ := hE'.2.1
    refine ⟨a, ?_, fun r hr => (ha.1 r hr).1, fun r hr => (ha.1 r hr).2, ha.2⟩
    show fX12_lays_b3 n w (fX12_lays_L3 n w m) _ _ _ _ _ _ = _
    unfold fX12_lays_b3
    rw [h5, if_pos (by simp (disch := first | omega | assumption) only [fa_lit, nLE, nLT, nEQ, nI_add, nSA, nSUB, pk_mul, nDIV, nREM, nCL, fa_and, nx_xor, fa_or, nSHL, nSHR, nUS, n31, n255, Nat.and_one_is_mod, b_I, b_V, b_L, not_or, Nat.not_lt_zero, Nat.not_le, Nat.not_lt, not_false_eq_true, true_and, and_true, false_or, or_false, Classical.not_not, if_true, if_false, if_pos, if_neg] <;> omega)]
theorem M_missing {D S C F n a : Nat} {is : Nat → Bool} {σ : gM} (hn : 20 ≤ n) (hE : ME D S C F σ) (hI : MI D is σ) (ha : a ≤ D) : fX12_missing n (nI a) σ = some (if mi is a (D - a) = D then -1 else nI (mi is a (D - a)), σ) := by
  have hw := hE.1
  obtain ⟨w1, w2, w3, w4, w5, w6, w7⟩ := hw
  obtain ⟨h0, h1, h2, h3, h5, h6⟩ := hE.2.1
  have key : ∀ q m k, k + q = D → q < m → fX12_missing_L2 n m (nI k) σ = some (if mi is k q = D then -1 else nI (mi is k q), σ) := by
    intro q
    induction q with
    | zero =>
      intro m k hk hm
      obtain ⟨m, rfl⟩ : ∃ m', m = m' + 1 := ⟨m - 1, by omega⟩
      show fX12_missing_b2 n (fX12_missing_L2 n m) _ _ = _
      unfold fX12_missing_b2
      rw [h0, if_pos (by simp (disch := first | omega | assumption) only [fa_lit, nLE, nLT, nEQ, nI_add, nSA, nSUB, pk_mul, nDIV, nREM, nCL, fa_and, nx_xor, fa_or, nSHL, nSHR, nUS, n31, n255, Nat.and_one_is_mod, b_I, b_V, b_L, not_or, Nat.not_lt_zero, Nat.not_le, Nat.not_lt, not_false_eq_true, true_and, and_true, false_or, or_false, Classical.not_not, if_true, if_false, if_pos, if_neg] <;> omega), mi, if_pos (by omega)]
    | succ q ih =>
      intro m k hk hm
      obtain ⟨m, rfl⟩ : ∃ m', m = m' + 1 := ⟨m - 1, by omega⟩
      show fX12_missing_b2 n (fX12_missing_L2 n m) _ _ = _
      unfold fX12_missing_b2
      rw [h0, if_neg (by simp (disch := first | omega | assumption) only [fa_lit, nLE, nLT, nEQ, nI_add, nSA, nSUB, pk_mul, nDIV, nREM, nCL, fa_and, nx_xor, fa_or, nSHL, nSHR, nUS, n31, n255, Nat.and_one_is_mod, b_I, b_V, b_L, not_or, Nat.not_lt_zero, Nat.not_le, Nat.not_lt, not_false_eq_true, true_and, and_true, false_or, or_false, Classical.not_not, if_true, if_false, if_pos, if_neg] <;> omega), nCL (by omega), if_pos (by simp (disch := first | omega | assumption) only [fa_lit, nLE, nLT, nEQ, nI_add, nSA, nSUB, pk_mul, nDIV, nREM, nCL, fa_and, nx_xor, fa_or, nSHL, nSHR, nUS, n31, n255, Nat.and_one_is_mod, b_I, b_V, b_L, not_or, Nat.not_lt_zero, Nat.not_le, Nat.not_lt, not_false_eq_true, true_and, and_true, false_or, or_false, Classical.not_not, if_true, if_false, if_pos, if_neg] <;> omega), hI k (by omega), mi]
      by_cases c : is k = true
      · rw [if_pos c, if_neg (by decide), if_pos c, show nI k + 1 = nI (k + 1) from nI_add k 1]
        exact ih m (k + 1) (by omega) (by omega)
      · rw [if_neg c, if_pos (show nI 0 = 0 from rfl), if_neg c, if_neg (by omega)]
  unfold fX12_missing
  exact key (D - a) n a (by omega) (by omega)
theorem M_sum0 {D S C F n : Nat} {v : Nat → Nat} {x y : Int32} {σ : gM} (hn : 20 ≤ n) (hE : ME D S C F σ) (hV : MV D v σ) (hz : ∀ r, r < D → (nI r = x ∨ nI r = y) → v r = 0) : fX12_sum n 0 x y σ = some (nI (sp v D), σ) := by
  have hw := hE.1
  obtain ⟨w1, w2, w3, w4, w5, w6, w7⟩ := hw
  obtain ⟨h0, h1, h2, h3, h5, h6⟩ := hE.2.1
  unfold fX12_sum
  refine lp (L := fun m k a => fX12_sum_L6 n m 0 x y a (nI k) σ) (I := fun k a => a = nI (sp v k)) (Q := fun o => o = some (nI (sp v D), σ)) (N := D) ?_ ?_ D n 0 0 (by omega) (by omega) rfl
  · intro m k a hk ha
    subst ha
    refine Or.inl ⟨_, ?_, rfl⟩
    show fX12_sum_b6 n (fX12_sum_L6 n m) _ _ _ _ _ _ = _
    unfold fX12_sum_b6 fX12_sum_b63 fX12_sum_b66
    rw [h0, if_neg (by simp (disch := first | omega | assumption) only [fa_lit, nLE, nLT, nEQ, nI_add, nSA, nSUB, pk_mul, nDIV, nREM, nCL, fa_and, nx_xor, fa_or, nSHL, nSHR, nUS, n31, n255, Nat.and_one_is_mod, b_I, b_V, b_L, not_or, Nat.not_lt_zero, Nat.not_le, Nat.not_lt, not_false_eq_true, true_and, and_true, false_or, or_false, Classical.not_not, if_true, if_false, if_pos, if_neg] <;> omega), sp, show nI k + 1 = nI (k + 1) from nI_add k 1]
    by_cases c1 : nI k = x
    · rw [if_pos c1, hz k hk (Or.inl c1), Nat.xor_zero]
    · rw [if_neg c1]
      by_cases c2 : nI k = y
      · rw [if_pos c2, hz k hk (Or.inr c2), Nat.xor_zero]
      · rw [if_neg c2, if_pos rfl, nCL (by omega), if_pos (by simp (disch := first | omega | assumption) only [fa_lit, nLE, nLT, nEQ, nI_add, nSA, nSUB, pk_mul, nDIV, nREM, nCL, fa_and, nx_xor, fa_or, nSHL, nSHR, nUS, n31, n255, Nat.and_one_is_mod, b_I, b_V, b_L, not_or, Nat.not_lt_zero, Nat.not_le, Nat.not_lt, not_false_eq_true, true_and, and_true, false_or, or_false, Classical.not_not, if_true, if_false, if_pos, if_neg] <;> omega), hV k (by omega), nx_xor]
  · intro m a ha
    subst ha
    show fX12_sum_b6 n (fX12_sum_L6 n m) _ _ _ _ _ _ = _
    unfold fX12_sum_b6
    rw [h0, if_pos (by simp (disch := first | omega | assumption) only [fa_lit, nLE, nLT, nEQ, nI_add, nSA, nSUB, pk_mul, nDIV, nREM, nCL, fa_and, nx_xor, fa_or, nSHL, nSHR, nUS, n31, n255, Nat.and_one_is_mod, b_I, b_V, b_L, not_or, Nat.not_lt_zero, Nat.not_le, Nat.not_lt, not_false_eq_true, true_and, and_true, false_or, or_false, Classical.not_not, if_true, if_false, if_pos, if_neg] <;> omega)]
theorem gm_0 (F b : Nat) : gm F 0 b = 0 := by simp [gm]
theorem M_sum1 {D S C F n : Nat} {v : Nat → Nat} {x y : Int32} {σ : gM} (hn : 20 ≤ n) (hE : ME D S C F σ) (hV : MV D v σ) (hv : ∀ r, r < D + 2 → v r < 256) (hz : ∀ r, r < D → (nI r = x ∨ nI r = y) → v r = 0) : fX12_sum n 1 x y σ = some (nI (sq F v D), σ) := by
  have hw := hE.1
  obtain ⟨w1, w2, w3, w4, w5, w6, w7⟩ := hw
  obtain ⟨h0, h1, h2, h3, h5, h6⟩ := hE.2.1
  unfold fX12_sum
  refine lp (L := fun m k a => fX12_sum_L6 n m 1 x y a (nI k) σ) (I := fun k a => a = nI (sq F v k)) (Q := fun o => o = some (nI (sq F v D), σ)) (N := D) ?_ ?_ D n 0 0 (by omega) (by omega) rfl
  · intro m k a hk ha
    subst ha
    refine Or.inl ⟨_, ?_, rfl⟩
    show fX12_sum_b6 n (fX12_sum_L6 n m) _ _ _ _ _ _ = _
    unfold fX12_sum_b6 fX12_sum_b63 fX12_sum_b66
    rw [h0, if_neg (by simp (disch := first | omega | assumption) only [fa_lit, nLE, nLT, nEQ, nI_add, nSA, nSUB, pk_mul, nDIV, nREM, nCL, fa_and, nx_xor, fa_or, nSHL, nSHR, nUS, n31, n255, Nat.and_one_is_mod, b_I, b_V, b_L, not_or, Nat.not_lt_zero, Nat.not_le, Nat.not_lt, not_false_eq_true, true_and, and_true, false_or, or_false, Classical.not_not, if_true, if_false, if_pos, if_neg] <;> omega), sq, show nI k + 1 = nI (k + 1) from nI_add k 1]
    by_cases c1 : nI k = x
    · rw [if_pos c1, hz k hk (Or.inl c1), gm_0, Nat.xor_zero]
    · rw [if_neg c1]
      by_cases c2 : nI k = y
      · rw [if_pos c2, hz k hk (Or.inr c2), gm_0, Nat.xor_zero]
      · rw [if_neg c2, if_neg (by decide), nCL (by omega), if_pos (by simp (disch := first | omega | assumption) only [fa_lit, nLE, nLT, nEQ, nI_add, nSA, nSUB, pk_mul, nDIV, nREM, nCL, fa_and, nx_xor, fa_or, nSHL, nSHR, nUS, n31, n255, Nat.and_one_is_mod, b_I, b_V, b_L, not_or, Nat.not_lt_zero, Nat.not_le, Nat.not_lt, not_false_eq_true, true_and, and_true, false_or, or_false, Classical.not_not, if_true, if_false, if_pos, if_neg] <;> omega), if_pos (by simp (disch := first | omega | assumption) only [fa_lit, nLE, nLT, nEQ, nI_add, nSA, nSUB, pk_mul, nDIV, nREM, nCL, fa_and, nx_xor, fa_or, nSHL, nSHR, nUS, n31, n255, Nat.and_one_is_mod, b_I, b_V, b_L, not_or, Nat.not_lt_zero, Nat.not_le, Nat.not_lt, not_false_eq_true, true_and, and_true, false_or, or_false, Classical.not_not, if_true, if_false, if_pos, if_neg] <;> omega), hV k (by omega), hE.2.2.1 k (by omega), M_product w7 hE.2.2 (hv k (by omega)) (pw_lt F w7 k (by omega)).2, b_I, nx_xor]
  · intro m a ha
    subst ha
    show fX12_sum_b6 n (fX12_sum_L6 n m) _ _ _ _ _ _ = _
    unfold fX12_sum_b6
    rw [h0, if_pos (by simp (disch := first | omega | assumption) only [fa_lit, nLE, nLT, nEQ, nI_add, nSA, nSUB, pk_mul, nDIV, nREM, nCL, fa_and, nx_xor, fa_or, nSHL, nSHR, nUS, n31, n255, Nat.and_one_is_mod, b_I, b_V, b_L, not_or, Nat.not_lt_zero, Nat.not_le, Nat.not_lt, not_false_eq_true, true_and, and_true, false_or, or_false, Classical.not_not, if_true, if_false, if_pos, if_neg] <;> omega)]
