/-! refusals: replace, rebuild, scrub -/
def rfR (s : Sh) (d : Nat) : Int32 := if s.how d = 1 then (if s.sp = 0 then 3 else -1) else 2
theorem X_refReplace {D S C F i d : Nat} {s : Sh} {σ : gM} (hE : XE D S C F σ) (hO : Ok D S C s) (hX : XS C s (σ.1 (11 + 5 * i))) (hd : d < D + 2) : fX8_refusalOfReplacing i (nI d) σ = some (rfR s d, σ) := by
  obtain ⟨w1, w2, w3, w4, w5, w6, w7⟩ := hE.1
  have hh := hO.how d (by omega)
  have hs := hO.sp
  unfold fX8_refusalOfReplacing rfR
  rw [X_isDisk_yes hE hd, b_I, if_neg (by decide), show fX8_stands i (nI d) 1 σ = some (nI (if s.how d = 1 then 1 else 0), σ) from X_stands (x := 1) hX hh (by omega) (by omega), b_I]
  by_cases c1 : s.how d = 1
  · rw [if_pos c1, if_neg (by decide), if_pos c1, show (136 : Int32) = nI 136 from rfl, X_get (by omega), b_I, hX.sp]
    by_cases c2 : s.sp = 0
    · rw [if_pos (by rw [c2]; decide), if_pos c2]
    · rw [if_neg (by rw [show (0 : Int32) = nI 0 from rfl, nLE _ _ (by omega) (by omega)]; omega), if_neg c2]
  · rw [if_neg c1, if_pos (show nI 0 = 0 from rfl), if_neg c1]
theorem X_refReplace_no {D S C F i : Nat} {v : Int32} {σ : gM} (hE : XE D S C F σ) (h : v < 0 ∨ (¬ v < 0 ∧ nI (D + 2) ≤ v)) : fX8_refusalOfReplacing i v σ = some (0, σ) := by
  unfold fX8_refusalOfReplacing
  rw [X_isDisk_no hE h, b_I, if_pos rfl]
def rfB (s : Sh) (d : Nat) (m : Int32) : Int32 := if m < 1 then 1 else if m ≤ 12 then (if s.how d = 2 then -1 else 2) else 1
theorem X_refRebuild {D S C F i d : Nat} {m : Int32} {s : Sh} {σ : gM} (hE : XE D S C F σ) (hO : Ok D S C s) (hX : XS C s (σ.1 (11 + 5 * i))) (hd : d < D + 2) : fX8_refusalOfRebuilding i (nI d) m σ = some (rfB s d m, σ) := by
  obtain ⟨w1, w2, w3, w4, w5, w6, w7⟩ := hE.1
  have hh := hO.how d (by omega)
  unfold fX8_refusalOfRebuilding rfB
  rw [X_isDisk_yes hE hd, b_I, if_neg (by decide), show fX8_stands i (nI d) 2 σ = some (nI (if s.how d = 2 then 1 else 0), σ) from X_stands (x := 2) hX hh (by omega) (by omega), b_I]
  by_cases c1 : m < 1
  · rw [if_pos c1, if_pos c1]
  · rw [if_neg c1, if_neg c1]
    by_cases c2 : m ≤ 12
    · rw [if_pos c2, if_pos c2]
      by_cases c3 : s.how d = 2
      · rw [if_pos c3, if_neg (by decide), if_pos c3]
      · rw [if_neg c3, if_pos (show nI 0 = 0 from rfl), if_neg c3]
    · rw [if_neg c2, if_neg c2]
theorem X_refRebuild_no {D S C F i : Nat} {v m : Int32} {σ : gM} (hE : XE D S C F σ) (h : v < 0 ∨ (¬ v < 0 ∧ nI (D + 2) ≤ v)) : fX8_refusalOfRebuilding i v m σ = some (0, σ) := by
  unfold fX8_refusalOfRebuilding
  rw [X_isDisk_no hE h, b_I, if_pos rfl]
