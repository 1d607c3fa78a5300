/-! refusals, begun: loss -/
theorem X_stands {C i d x : Nat} {s : Sh} {σ : gM} (hX : XS C s (σ.1 (11 + 5 * i))) (hh : s.how d ≤ 2) (hd : d < 8) (hx : x < 3) : fX8_stands i (nI d) (nI x) σ = some (nI (if s.how d = x then 1 else 0), σ) := by
  unfold fX8_stands
  rw [show (96 : Int32) + nI d = nI (96 + d) from nI_add 96 d, X_get (by omega), b_I, hX.how d hd]
  by_cases c : s.how d = x
  · rw [if_pos (by rw [c]), if_pos c]; rfl
  · rw [if_neg (by rw [nEQ _ _ (by omega) (by omega)]; exact c), if_neg c]; rfl
def cl (D : Nat) (s : Sh) (d : Nat) : Nat := if s.how d = 1 then 0 else if s.how d = 0 ∧ 2 ≤ ct (nw D s) (D + 2) then 0 else 1
theorem X_canLose {D S C F n i d : Nat} {s : Sh} {σ : gM} (hn : 20 ≤ n) (hE : XE D S C F σ) (hO : Ok D S C s) (hX : XS C s (σ.1 (11 + 5 * i))) (hd : d < 8) : fX8_canLose n i (nI d) σ = some (nI (cl D s d), σ) := by
  obtain ⟨w1, w2, w3, w4, w5, w6, w7⟩ := hE.1
  have hh := hO.how d hd
  have hc := ct_le (nw D s) (D + 2)
  unfold fX8_canLose fX8_canLose_b31 cl
  rw [show (1 : Int32) = nI 1 from rfl, show (0 : Int32) = nI 0 from rfl, X_stands hX hh hd (by omega), b_I]
  by_cases c1 : s.how d = 1
  · rw [if_pos c1, if_neg (by decide), if_pos c1]
  · rw [if_neg c1, if_pos rfl, X_stands hX hh hd (by omega), b_I, if_neg c1]
    by_cases c0 : s.how d = 0
    · rw [if_pos c0, if_neg (by decide), X_notWhole hn hE hO.how hX, b_I, bc_bm (by omega), b_I]
      by_cases c2 : 2 ≤ ct (nw D s) (D + 2)
      · rw [if_pos (by simp (disch := first | omega | assumption) only [fa_lit, nLE, nLT, nEQ, nI_add, nSA, nSUB, pk_mul, nDIV, nREM, nCL, fa_and, nx_xor, fa_or, nSHL, nSHR, nUS, n31, n255, Nat.and_one_is_mod, b_I, b_V, b_L, not_or, Nat.not_lt_zero, Nat.not_le, Nat.not_lt, not_false_eq_true, true_and, and_true, false_or, or_false, Classical.not_not, if_true, if_false, if_pos, if_neg] <;> omega), if_pos ⟨c0, c2⟩]
      · rw [if_neg (by simp (disch := first | omega | assumption) only [fa_lit, nLE, nLT, nEQ, nI_add, nSA, nSUB, pk_mul, nDIV, nREM, nCL, fa_and, nx_xor, fa_or, nSHL, nSHR, nUS, n31, n255, Nat.and_one_is_mod, b_I, b_V, b_L, not_or, Nat.not_lt_zero, Nat.not_le, Nat.not_lt, not_false_eq_true, true_and, and_true, false_or, or_false, Classical.not_not, if_true, if_false, if_pos, if_neg] <;> omega), if_neg (fun z => c2 z.2)]
    · rw [if_neg c0, if_pos rfl, if_neg (fun z => c0 z.1)]
def rfL (D : Nat) (s : Sh) (d : Nat) : Int32 := if s.how d = 1 then 2 else if s.how d = 0 ∧ 2 ≤ ct (nw D s) (D + 2) then 3 else -1
theorem X_refLoss {D S C F n i d : Nat} {s : Sh} {σ : gM} (hn : 20 ≤ n) (hE : XE D S C F σ) (hO : Ok D S C s) (hX : XS C s (σ.1 (11 + 5 * i))) (hd : d < D + 2) : fX8_refusalOfLoss n i (nI d) σ = some (rfL D s d, σ) := by
  obtain ⟨w1, w2, w3, w4, w5, w6, w7⟩ := hE.1
  have hh := hO.how d (by omega)
  unfold fX8_refusalOfLoss rfL
  rw [X_isDisk_yes hE hd, b_I, if_neg (by decide), show (1 : Int32) = nI 1 from rfl, X_stands hX hh (by omega) (by omega), b_I]
  by_cases c1 : s.how d = 1
  · rw [if_pos c1, if_neg (by decide), if_pos c1]
  · rw [if_neg c1, if_pos (show nI 0 = 0 from rfl), X_canLose hn hE hO hX (by omega), b_I, cl, if_neg c1, if_neg c1]
    by_cases c2 : s.how d = 0 ∧ 2 ≤ ct (nw D s) (D + 2)
    · rw [if_pos c2, if_pos (show nI 0 = 0 from rfl), if_pos c2]
    · rw [if_neg c2, if_neg (by decide), if_neg c2]
theorem X_refLoss_no {D S C F n i : Nat} {v : Int32} {σ : gM} (hE : XE D S C F σ) (h : v < 0 ∨ (¬ v < 0 ∧ nI (D + 2) ≤ v)) : fX8_refusalOfLoss n i v σ = some (0, σ) := by
  unfold fX8_refusalOfLoss
  rw [X_isDisk_no hE h, b_I, if_pos rfl]
