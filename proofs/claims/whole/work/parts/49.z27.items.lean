/-! reading of the tape: letters with their numbers -/
def px (t : Nat) : List Nat → Nat
  | [] => 0
  | b :: l => if b = t then 0 else px t l + 1
def LTt (z : Nat) : List Nat := if z = 0 then [100, 116, 99, 102, 107] else [97, 120]
def lnz (z : Nat) : Nat := if z = 0 then 5 else 2
def offz (z : Nat) : Nat := if z = 0 then 0 else 5
def loz (z w : Nat) : Nat := ([2, 1, 1, 0, 0, 0, 0] : List Nat).getD (offz z + w) 0
def hiz (z w : Nat) : Nat := ([6, 12, 4, 3, 9, 287, 255] : List Nat).getD (offz z + w) 0
def lt (T : Nat → Nat) (L z p : Nat) : Nat := if p < L then px (T p) (LTt z) else lnz z
theorem cv_ch : ∀ t, t < 256 → ((nI t).toUInt32 % 65536).toInt32 = nI t := by decide +kernel
theorem lt_M : ∀ z, z < 2 → ∀ t, t < 256 → sIx (nI t) (mTx z) 0 = if px t (LTt z) < lnz z then nI (px t (LTt z)) else -1 := by decide +kernel
theorem lt_Me : ∀ z, z < 3 → sIx (-1) (mTx z) 0 = -1 := by decide +kernel
theorem lt_X : ∀ z, z < 2 → ∀ t, t < 256 → (px t (LTt z) < lnz z → xIx 0 (nI t) = nI (offz z + px t (LTt z))) ∧ (¬ px t (LTt z) < lnz z → xIx 0 (nI t) < nI (offz z) ∨ nI (offz z + lnz z - 1) < xIx 0 (nI t)) := by decide +kernel
theorem px_le (z t : Nat) (hz : z < 2) : px t (LTt z) ≤ lnz z := by
  have g : ∀ l : List Nat, px t l ≤ l.length := by
    intro l
    induction l with
    | nil => exact Nat.le_refl _
    | cons b l ih =>
      rw [px]
      split
      · exact Nat.zero_le _
      · have := ih
        simp only [List.length_cons]; omega
  have := g (LTt z)
  rcases (show z = 0 ∨ z = 1 by omega) with rfl | rfl <;> exact this
theorem lz_X : ∀ z, z < 2 → ∀ w, w < lnz z → offz z + w < 7 ∧ ([2, 1, 1, 0, 0, 0, 0] : List Int32).getD (offz z + w) 0 = nI (loz z w) ∧ ([6, 12, 4, 3, 9, 287, 255] : List Int32).getD (offz z + w) 0 = nI (hiz z w) ∧ loz z w < 1000 ∧ hiz z w < 1000 := by decide +kernel
theorem lz_M {z w : Nat} (hz : z < 2) (hw : w < lnz z) (σ : gM) : fX12_leastOf (nI (1 - z)) (nI w) σ = some (nI (loz z w), σ) ∧ fX12_mostOf (nI (1 - z)) (nI w) σ = some (nI (hiz z w), σ) := by
  rcases (show z = 0 ∨ z = 1 by omega) with rfl | rfl
  · have hw : w < 5 := hw
    rcases (show w = 0 ∨ w = 1 ∨ w = 2 ∨ w = 3 ∨ w = 4 by omega) with rfl | rfl | rfl | rfl | rfl <;> exact ⟨rfl, rfl⟩
  · have hw : w < 2 := hw
    rcases (show w = 0 ∨ w = 1 by omega) with rfl | rfl <;> exact ⟨rfl, rfl⟩
theorem mTx_len : ∀ z, z < 3 → (mTx z).length < 10 := by decide
theorem M_spotOf {z : Nat} (hz : z < 3) (v : Int32) (σ : gM) : fX12_spotOf 1000 z v σ = some (sIx v (mTx z) 0, σ) := by
  have hl := mTx_len z hz
  unfold fX12_spotOf
  refine lp (L := fun m k (_ : Unit) => fX12_spotOf_L2 1000 z m v (nI k) σ) (I := fun k _ => sIx v (mTx z) 0 = sIx v ((mTx z).drop k) k) (Q := fun o => o = some (sIx v (mTx z) 0, σ)) (N := (mTx z).length) ?_ ?_ (mTx z).length 1000 0 () (by omega) (by omega) rfl
  · intro m k _ hk hq
    have ed : (mTx z).drop k = (mTx z).getD k 0 :: (mTx z).drop (k + 1) := by
      rw [List.drop_eq_getElem_cons hk]
      congr 1
      simp [List.getD, hk]
    rw [ed, sIx] at hq
    show (∃ a', fX12_spotOf_b2 1000 z (fX12_spotOf_L2 1000 z m) v (nI k) σ = _ ∧ _) ∨ (fX12_spotOf_b2 1000 z (fX12_spotOf_L2 1000 z m) v (nI k) σ = _)
    unfold fX12_spotOf_b2
    rw [if_neg (by simp (disch := first | omega | assumption) only [fa_lit, nLE, nLT, nEQ, nI_add, nSA, nSUB, pk_mul, nDIV, nREM, nCL, fa_and, nx_xor, fa_or, nSHL, nSHR, nUS, n31, n255, Nat.and_one_is_mod, b_I, b_V, b_L, not_or, Nat.not_lt_zero, Nat.not_le, Nat.not_lt, not_false_eq_true, true_and, and_true, false_or, or_false, Classical.not_not, if_true, if_false, if_pos, if_neg] <;> omega), nCL (by omega), if_pos (by simp (disch := first | omega | assumption) only [fa_lit, nLE, nLT, nEQ, nI_add, nSA, nSUB, pk_mul, nDIV, nREM, nCL, fa_and, nx_xor, fa_or, nSHL, nSHR, nUS, n31, n255, Nat.and_one_is_mod, b_I, b_V, b_L, not_or, Nat.not_lt_zero, Nat.not_le, Nat.not_lt, not_false_eq_true, true_and, and_true, false_or, or_false, Classical.not_not, if_true, if_false, if_pos, if_neg] <;> omega)]
    by_cases c : (mTx z).getD k 0 = v
    · right
      rw [if_pos c] at hq ⊢
      rw [hq]
    · left
      rw [if_neg c] at hq
      rw [if_neg c, show nI k + 1 = nI (k + 1) from nI_add k 1]
      exact ⟨(), rfl, hq⟩
  · intro m _ hq
    rw [List.drop_length] at hq
    show fX12_spotOf_b2 1000 z (fX12_spotOf_L2 1000 z m) v (nI (mTx z).length) σ = _
    unfold fX12_spotOf_b2
    rw [if_pos (by simp (disch := first | omega | assumption) only [fa_lit, nLE, nLT, nEQ, nI_add, nSA, nSUB, pk_mul, nDIV, nREM, nCL, fa_and, nx_xor, fa_or, nSHL, nSHR, nUS, n31, n255, Nat.and_one_is_mod, b_I, b_V, b_L, not_or, Nat.not_lt_zero, Nat.not_le, Nat.not_lt, not_false_eq_true, true_and, and_true, false_or, or_false, Classical.not_not, if_true, if_false, if_pos, if_neg] <;> omega), hq]
    rfl
/-- what a row of items comes to: 1 and where it leaves off, or 0 and where it is wrong -/
def itF (T : Nat → Nat) (L z : Nat) : Nat → Nat → (Nat → Bool) → (Nat → Nat) → Nat × Nat × (Nat → Nat)
  | 0, p, _, v => (0, p, v)
  | q + 1, p, met, v =>
    if lt T L z (sk T L p) = lnz z then (1, sk T L p, v)
    else if met (lt T L z (sk T L p)) then (0, sk T L p, v)
    else if nok T L (sk T L (sk T L p + 1)) then
      (if loz z (lt T L z (sk T L p)) ≤ nvR T (sk T L (sk T L p + 1)) (nc T L (sk T L (sk T L p + 1))) ∧ nvR T (sk T L (sk T L p + 1)) (nc T L (sk T L (sk T L p + 1))) ≤ hiz z (lt T L z (sk T L p)) then
        itF T L z q (sk T L (sk T L p + 1) + nc T L (sk T L (sk T L p + 1))) (fun w => met w || decide (w = lt T L z (sk T L p))) (ud v (lt T L z (sk T L p)) (nvR T (sk T L (sk T L p + 1)) (nc T L (sk T L (sk T L p + 1)))))
      else (0, sk T L (sk T L p + 1) + nc T L (sk T L (sk T L p + 1)) - 1, v))
    else (0, sk T L (sk T L p + 1) + nc T L (sk T L (sk T L p + 1)), v)
theorem lt_lt {T : Nat → Nat} {L z p : Nat} (hz : z < 2) (h : lt T L z p ≠ lnz z) : p < L ∧ lt T L z p = px (T p) (LTt z) ∧ px (T p) (LTt z) < lnz z := by
  unfold lt at *
  by_cases c : p < L
  · rw [if_pos c] at h ⊢
    have := px_le z (T p) hz
    exact ⟨c, rfl, by omega⟩
  · rw [if_neg c] at h; exact absurd rfl h
theorem itF_pos {T : Nat → Nat} {L z : Nat} (hz : z < 2) : ∀ q p met v, p ≤ L → L - p < q → p ≤ (itF T L z q p met v).2.1 ∧ (itF T L z q p met v).2.1 ≤ L ∧ ((itF T L z q p met v).1 = 1 → bl T L (itF T L z q p met v).2.1 = false)
  | 0, p, met, v, hp, hq => by omega
  | q + 1, p, met, v, hp, hq => by
    have g1 := sk_ge T L p
    have l1 := sk_le (T := T) hp
    have b1 := sk_nb T L p
    rw [itF]
    by_cases c1 : lt T L z (sk T L p) = lnz z
    · rw [if_pos c1]; exact ⟨g1, l1, fun _ => b1⟩
    · rw [if_neg c1]
      have hlt := (lt_lt hz c1).1
      have g2 := sk_ge T L (sk T L p + 1)
      have l2 := sk_le (T := T) (show sk T L p + 1 ≤ L by omega)
      have l3 := nc_L (T := T) l2
      by_cases c2 : met (lt T L z (sk T L p)) = true
      · rw [if_pos c2]; exact ⟨g1, l1, fun z => absurd (show (0 : Nat) = 1 from z) (by decide)⟩
      · rw [if_neg c2]
        by_cases c3 : nok T L (sk T L (sk T L p + 1)) = true
        · rw [if_pos c3]
          have h0 : 0 < nc T L (sk T L (sk T L p + 1)) := by
            unfold nok at c3
            simp only [Bool.and_eq_true, decide_eq_true_eq] at c3
            exact c3.1
          split
          · have ih := itF_pos (T := T) (L := L) hz q (sk T L (sk T L p + 1) + nc T L (sk T L (sk T L p + 1))) (fun w => met w || decide (w = lt T L z (sk T L p))) (ud v (lt T L z (sk T L p)) (nvR T (sk T L (sk T L p + 1)) (nc T L (sk T L (sk T L p + 1))))) (by omega) (by omega)
            exact ⟨by omega, ih.2.1, ih.2.2⟩
          · show p ≤ sk T L (sk T L p + 1) + nc T L (sk T L (sk T L p + 1)) - 1 ∧ sk T L (sk T L p + 1) + nc T L (sk T L (sk T L p + 1)) - 1 ≤ L ∧ (0 = 1 → _)
            exact ⟨by omega, by omega, fun z => absurd z (by decide)⟩
        · rw [if_neg c3]
          show p ≤ sk T L (sk T L p + 1) + nc T L (sk T L (sk T L p + 1)) ∧ sk T L (sk T L p + 1) + nc T L (sk T L (sk T L p + 1)) ≤ L ∧ (0 = 1 → _)
          exact ⟨by omega, by omega, fun z => absurd z (by decide)⟩
/-- all within their bounds -/
theorem itF_bd {T : Nat → Nat} {L z : Nat} : ∀ q p met v, (∀ w, w < lnz z → loz z w ≤ v w ∧ v w ≤ hiz z w) → ∀ w, w < lnz z → loz z w ≤ (itF T L z q p met v).2.2 w ∧ (itF T L z q p met v).2.2 w ≤ hiz z w
  | 0, p, met, v, h => h
  | q + 1, p, met, v, h => by
    rw [itF]
    split
    · exact h
    · split
      · exact h
      · split
        · split
          · rename_i c
            apply itF_bd q
            intro w hw
            unfold ud
            by_cases e : w = lt T L z (sk T L p)
            · rw [if_pos e, e]; exact c
            · rw [if_neg e]; exact h w hw
          · exact h
        · exact h
theorem bitq {x k : Nat} (hx : x < 256) (hk : k < 31) : (nI x >>> (nI k &&& 31)) &&& 1 = nI (x / 2 ^ k % 2) := by
  rw [show (1 : Int32) = nI 1 from rfl, show (31 : Int32) = nI 31 from rfl, fa_and, n31 (by omega), nSHR (by omega) (by omega), fa_and, Nat.and_one_is_mod]
def sn (z : Nat) (met : Nat → Bool) (i : Nat) : Bool := decide (offz z ≤ i) && met (i - offz z)
theorem X_items {T : Nat → Nat} {L z : Nat} (hz : z < 2) (hL : L ≤ 280) : ∀ (q p : Nat) (met : Nat → Bool) (v : Nat → Nat) (g m : Nat) (σ : gM), p ≤ L → L - p < q → g ≤ p → q < m → XT L T σ → σ.1 1 2 = nI p → (∀ w, w < lnz z → σ.1 3 (offz z + w) = nI (v w)) →
    ∃ σ', gk [3] [2, 3, 4] σ σ' ∧ (∀ i, (i < offz z ∨ offz z + lnz z ≤ i) → σ'.1 3 i = σ.1 3 i) ∧
      (((itF T L z q p met v).1 = 1 ∧ sx T L (itF T L z q p met v).2.1 = 59 ∨ (itF T L z q p met v).1 = 1 ∧ (itF T L z q p met v).2.1 = L) ∧ fX10_readItems_L5 1000 m (nI (offz z)) (nI (offz z + lnz z - 1)) (nI (bm (sn z met) 7)) (nI g) σ = some (1, σ') ∧ σ'.1 1 2 = nI (itF T L z q p met v).2.1 ∧ (∀ w, w < lnz z → σ'.1 3 (offz z + w) = nI ((itF T L z q p met v).2.2 w)) ∨
       ¬ ((itF T L z q p met v).1 = 1 ∧ sx T L (itF T L z q p met v).2.1 = 59 ∨ (itF T L z q p met v).1 = 1 ∧ (itF T L z q p met v).2.1 = L) ∧ fX10_readItems_L5 1000 m (nI (offz z)) (nI (offz z + lnz z - 1)) (nI (bm (sn z met) 7)) (nI g) σ = some (0, σ') ∧ σ'.1 1 3 = nI (itF T L z q p met v).2.1) := by
  intro q
  induction q with
  | zero => intro p met v g m σ hp hq; omega
  | succ q ih =>
    intro p met v g m σ hp hq hg hm hT ha hv
    obtain ⟨m, rfl⟩ : ∃ m', m = m' + 1 := ⟨m - 1, by omega⟩
    obtain ⟨σ1, e1, a1, f1⟩ := X_skip hT hL ha hp
    have hT1 := XT_gk hT f1 (by simp) (by simp)
    have g1 := sk_ge T L p
    have l1 := sk_le (T := T) hp
    rw [show fX10_readItems_L5 1000 (m + 1) (nI (offz z)) (nI (offz z + lnz z - 1)) (nI (bm (sn z met) 7)) (nI g) σ = fX10_readItems_b5 1000 (fX10_readItems_L5 1000 m) (nI (offz z)) (nI (offz z + lnz z - 1)) (nI (bm (sn z met) 7)) (nI g) σ from rfl, itF]
    unfold fX10_readItems_b5
    have ng : ¬ (280 : Int32) < nI g := by rw [show (280 : Int32) = nI 280 from rfl, nLT _ _ (by omega) (by omega)]; omega
    have sg1 := X_sign hT1 hL a1 l1
    rw [if_neg ng, e1, b_V, sg1, b_I, sg1, b_I, sg1, b_I]
    generalize hp1 : sk T L p = p1 at *
    have F1 : gk [3] [2, 3, 4] σ σ1 := gk_mono f1 (by simp) (by simp)
    have k1 : ∀ i, σ1.1 3 i = σ.1 3 i := fun i => by rw [f1.1 3 (by simp) (by decide)]
    -- wrong at p1
    have wr : ∃ σ', gk [3] [2, 3, 4] σ σ' ∧ (∀ i, (i < offz z ∨ offz z + lnz z ≤ i) → σ'.1 3 i = σ.1 3 i) ∧ fX10_readItems_b80 1000 σ1 = some (0, σ') ∧ σ'.1 1 3 = nI p1 := by
      unfold fX10_readItems_b80 fX10_wrong
      rw [b_L, b_I, if_pos (by decide), a1]
      exact ⟨_, gk_trans F1 (gk_put1 _ _ (by simp)), fun i _ => by rw [gp_o (by decide), k1], rfl, gp_s _ _ _ _⟩
    by_cases cE : p1 = L
    · have es : sx T L p1 = 0 := by unfold sx; rw [if_neg (by omega)]
      have el : lt T L z p1 = lnz z := by unfold lt; rw [if_neg (by omega)]
      rw [if_pos es, if_pos el]
      exact ⟨σ1, F1, fun i _ => k1 i, Or.inl ⟨Or.inr ⟨rfl, cE⟩, rfl, a1, fun w hw => by rw [k1]; exact hv w hw⟩⟩
    · have hlt : p1 < L := by omega
      have hb := hT.2 p1 hlt
      have es : sx T L p1 = nI (T p1) := by unfold sx; rw [if_pos hlt]
      have el : lt T L z p1 = px (T p1) (LTt z) := by unfold lt; rw [if_pos hlt]
      have ns : ¬ sx T L p1 = 0 := by rw [es]; exact nI_ne0 (by omega) (by omega)
      rw [if_neg ns]
      by_cases c59 : sx T L p1 = 59
      · have t59 : T p1 = 59 := by
          rw [es, show (59 : Int32) = nI 59 from rfl, nEQ _ _ (by omega) (by omega)] at c59
          exact c59
        have eln : lt T L z p1 = lnz z := by
          rw [el, t59]
          rcases (show z = 0 ∨ z = 1 by omega) with rfl | rfl <;> rfl
        rw [if_pos c59, if_pos eln]
        exact ⟨σ1, F1, fun i _ => k1 i, Or.inl ⟨Or.inl ⟨rfl, c59⟩, rfl, a1, fun w hw => by rw [k1]; exact hv w hw⟩⟩
      · rw [if_neg c59, es, cv_ch _ hb.2.1]
        obtain ⟨lx1, lx2⟩ := lt_X z hz (T p1) hb.2.1
        by_cases cl : lt T L z p1 = lnz z
        · -- no such letter
          have npx : ¬ px (T p1) (LTt z) < lnz z := by rw [← el, cl]; omega
          obtain ⟨σ', w1, w2, w3, w4⟩ := wr
          rw [if_pos cl]
          refine ⟨σ', w1, w2, Or.inr ⟨?_, ?_, w4⟩⟩
          · rintro (x | x)
            · exact c59 x.2
            · exact cE x.2
          · by_cases y0 : xIx 0 (nI (T p1)) < 0
            · rw [if_pos y0]; exact w3
            · rw [if_neg y0]
              by_cases y1 : xIx 0 (nI (T p1)) < nI (offz z)
              · rw [if_pos y1]; exact w3
              · rcases lx2 npx with y | y
                · exact absurd y y1
                · rw [if_neg y1, if_pos y]; exact w3
        · rw [if_neg cl]
          obtain ⟨_, _, hpx⟩ := lt_lt hz cl
          rw [← el] at hpx
          obtain ⟨z7, zlo, zhi, zl1, zh1⟩ := lz_X z hz _ hpx
          have ex : xIx 0 (nI (T p1)) = nI (offz z + lt T L z p1) := by rw [el]; exact lx1 (by rw [← el]; exact hpx)
          generalize hw0 : lt T L z p1 = w0 at *
          have y0 : ¬ nI (offz z + w0) < 0 := by rw [show (0 : Int32) = nI 0 from rfl, nLT _ _ (by omega) (by omega)]; omega
          have y1 : ¬ nI (offz z + w0) < nI (offz z) := by rw [nLT _ _ (by omega) (by omega)]; omega
          have y7 : offz z + lnz z ≤ 7 := by rcases (show z = 0 ∨ z = 1 by omega) with rfl | rfl <;> decide
          have y2 : ¬ nI (offz z + lnz z - 1) < nI (offz z + w0) := by rw [nLT _ _ (by omega) (by omega)]; omega
          have y3 : ¬ (7 : Int32) ≤ nI (offz z + w0) := by rw [show (7 : Int32) = nI 7 from rfl, nLE _ _ (by omega) (by omega)]; omega
          have hbit := bm_bit (p := sn z met) z7
          have esn : sn z met (offz z + w0) = met w0 := by
            unfold sn
            rw [Nat.add_sub_cancel_left]
            simp
          rw [esn] at hbit
          have hbl := bm_lt8 (p := sn z met) (show 7 ≤ 8 by omega)
          rw [ex, if_neg y0, if_neg y1, if_neg y2, if_neg y3, nCL (by omega)]
          by_cases cm : met w0 = true
          · -- it was there
            rw [if_pos cm] at hbit
            obtain ⟨σ', w1, w2, w3, w4⟩ := wr
            have hq : ¬ (nI (bm (sn z met) 7) >>> (nI (offz z + w0) &&& 31)) &&& 1 = 0 := by rw [bitq hbl (by omega), hbit]; decide
            rw [if_neg hq, if_pos cm]
            refine ⟨σ', w1, w2, Or.inr ⟨?_, w3, w4⟩⟩
            rintro (x | x)
            · exact absurd (show (0 : Nat) = 1 from x.1) (by decide)
            · exact absurd (show (0 : Nat) = 1 from x.1) (by decide)
          · rw [if_neg cm] at hbit
            have y4 : ¬ (nI (offz z + w0) < 0 ∨ 7 ≤ offz z + w0) := by rw [show (0 : Int32) = nI 0 from rfl, nLT _ _ (by omega) (by omega)]; omega
            have hq : (nI (bm (sn z met) 7) >>> (nI (offz z + w0) &&& 31)) &&& 1 = 0 := by rw [bitq hbl (by omega), hbit]; decide
            rw [if_pos hq, if_neg cm, a1, b_L, if_pos y4, if_pos y4, zlo, zhi, show nI p1 + 1 = nI (p1 + 1) from nI_add p1 1]
            have fp : gk [3] [2, 3, 4] σ (g_put σ1 1 2 (nI (p1 + 1))) := gk_trans F1 (gk_put1 _ _ (by simp))
            have hTp := XT_gk hT fp (by simp) (by simp)
            obtain ⟨σ2, f2, a2, r2⟩ := X_number' (lo := loz z w0) (hi := hiz z w0) hTp hL (gp_s _ _ _ _) (show p1 + 1 ≤ L by omega) zl1 zh1
            have F2 : gk [3] [2, 3, 4] σ σ2 := gk_trans fp (gk_mono f2 (by simp) (by simp))
            have k2 : ∀ i, σ2.1 3 i = σ.1 3 i := fun i => by rw [f2.1 3 (by simp) (by decide), gp_o (by decide), k1]
            have g2 := sk_ge T L (p1 + 1)
            have l2 := sk_le (T := T) (show p1 + 1 ≤ L by omega)
            generalize hp2 : sk T L (p1 + 1) = p2 at *
            have l3 := nc_L (T := T) l2
            rcases r2 with ⟨v1, v2, v3, v4, v5⟩ | ⟨v1, v2, v3, v4⟩ | ⟨v1, v2, v3⟩
            · -- a number
              have h0 : 0 < nc T L p2 := by
                unfold nok at v1
                simp only [Bool.and_eq_true, decide_eq_true_eq] at v1
                exact v1.1
              have fq : gk [3] [2, 3, 4] σ2 (g_put σ2 3 (offz z + w0) (nI (nvR T p2 (nc T L p2)))) := gk_put _ _ _ (by simp) (by decide)
              have hTq := XT_gk (XT_gk hT F2 (by simp) (by simp)) fq (by simp) (by simp)
              obtain ⟨σ', u1, u2, u3⟩ := ih (p2 + nc T L p2) (fun w => met w || decide (w = w0)) (ud v w0 (nvR T p2 (nc T L p2))) (g + 1) m (g_put σ2 3 (offz z + w0) (nI (nvR T p2 (nc T L p2)))) (by omega) (by omega) (by omega) (by omega) hTq (by rw [gp_o (by decide)]; exact a2) (by
                intro w hw
                rw [gp_k]
                unfold ud
                by_cases e : w = w0
                · rw [if_pos (by omega), if_pos e]
                · rw [if_neg (by omega), if_neg e, k2]; exact hv w hw)
              have eb : nI (bm (sn z met) 7) ||| ((1 : Int32) <<< (nI (offz z + w0) &&& 31)) = nI (bm (sn z (fun w => met w || decide (w = w0))) 7) := by
                rw [sh1 (by omega), fa_or, bm_one z7, bm_or]
                congr 1
                apply bm_ext
                intro i _
                unfold sn
                by_cases e : i = offz z + w0
                · rw [e, Nat.add_sub_cancel_left]; simp
                · by_cases e2 : offz z ≤ i
                  · have e3 : ¬ i - offz z = w0 := by omega
                    simp [e, e2, e3]
                  · simp [e, e2]
              rw [v4, b_I, if_neg n10, if_pos y4, v5, b_L, eb, show nI g + 1 = nI (g + 1) from nI_add g 1, if_pos v1, if_pos ⟨v2, v3⟩]
              refine ⟨σ', gk_trans F2 (gk_trans fq u1), fun i hi => ?_, u3⟩
              rw [u2 i hi, gp_k, if_neg (by omega), k2]
            · rw [v3, b_I, if_pos rfl, if_pos v1, if_neg v2]
              refine ⟨σ2, F2, fun i _ => k2 i, Or.inr ⟨?_, rfl, v4⟩⟩
              rintro (x | x)
              · exact absurd (show (0 : Nat) = 1 from x.1) (by decide)
              · exact absurd (show (0 : Nat) = 1 from x.1) (by decide)
            · rw [v2, b_I, if_pos rfl, v1, if_neg (by decide)]
              refine ⟨σ2, F2, fun i _ => k2 i, Or.inr ⟨?_, rfl, v3⟩⟩
              rintro (x | x)
              · exact absurd (show (0 : Nat) = 1 from x.1) (by decide)
              · exact absurd (show (0 : Nat) = 1 from x.1) (by decide)
theorem M_items {T : Nat → Nat} {L z W nW from' : Nat} (hz : z < 2) (hL : L ≤ 280) (hW0 : W ≠ 0) (hW1 : W ≠ 1) (hnW : from' + lnz z ≤ nW) (hnW2 : nW < 1000) : ∀ (q p : Nat) (met : Nat → Bool) (v : Nat → Nat) (m : Nat) (σ : gM), p ≤ L → L - p < q → q < m → MT L T σ → σ.1 0 3 = nI p → σ.1 0 4 = -1 → (∀ w, w < lnz z → σ.1 W (from' + w) = nI (v w)) →
    ∃ σ', gj [W] [3, 4] σ σ' ∧ (∀ i, (i < from' ∨ from' + lnz z ≤ i) → σ'.1 W i = σ.1 W i) ∧ (g_bI (fX12_look 1000 σ) (fun r78 σ77 => g_bI (fX12_spotOf 1000 z r78 σ77) (fun r81 σ80 => fX12_items_L28 1000 W nW z m (nI from') (nI (1 - z)) (nI (bm met (lnz z))) r81 σ80))) = some σ' ∧
      ((itF T L z q p met v).1 = 1 ∧ σ'.1 0 4 = -1 ∧ σ'.1 0 3 = nI (itF T L z q p met v).2.1 ∧ (∀ w, w < lnz z → σ'.1 W (from' + w) = nI ((itF T L z q p met v).2.2 w)) ∨ (itF T L z q p met v).1 ≠ 1 ∧ σ'.1 0 4 = nI (itF T L z q p met v).2.1) := by
  intro q
  induction q with
  | zero => intro p met v m σ hp hq; omega
  | succ q ih =>
    intro p met v m σ hp hq hm hT ha hf hv
    obtain ⟨m, rfl⟩ : ∃ m', m = m' + 1 := ⟨m - 1, by omega⟩
    obtain ⟨σ1, e1, a1, f1⟩ := M_look hT hL ha hp
    have hT1 := MT_gj hT f1 (by simp) (by simp)
    have g1 := sk_ge T L p
    have l1 := sk_le (T := T) hp
    have hf1 : σ1.1 0 4 = -1 := by rw [f1.2.1 4 (by simp)]; exact hf
    have k1 : ∀ i, σ1.1 W i = σ.1 W i := fun i => by rw [f1.1 W (by simp) hW0]
    rw [e1, b_I, M_spotOf (by omega), b_I, itF]
    rw [show ∀ x, fX12_items_L28 1000 W nW z (m + 1) (nI from') (nI (1 - z)) (nI (bm met (lnz z))) x σ1 = fX12_items_b28 1000 W nW z (fX12_items_L28 1000 W nW z m) (nI from') (nI (1 - z)) (nI (bm met (lnz z))) x σ1 from fun _ => rfl]
    unfold fX12_items_b28
    generalize hp1 : sk T L p = p1 at *
    have F1 : gj [W] [3, 4] σ σ1 := gj_mono f1 (by simp) (by simp)
    by_cases cl : lt T L z p1 = lnz z
    · have es : sIx (hr T L p1) (mTx z) 0 = -1 := by
        unfold lt at cl
        unfold hr
        by_cases c : p1 < L
        · rw [if_pos c] at cl ⊢
          rw [lt_M z hz _ (hT.2 p1 c).2.1, if_neg (by omega)]
        · rw [if_neg c]
          exact lt_Me z (by omega)
      rw [es, if_pos rfl, if_pos cl]
      exact ⟨σ1, F1, fun i _ => k1 i, rfl, Or.inl ⟨rfl, hf1, a1, fun w hw => by rw [k1]; exact hv w hw⟩⟩
    · obtain ⟨hlt, el, hpx⟩ := lt_lt hz cl
      have es : sIx (hr T L p1) (mTx z) 0 = nI (lt T L z p1) := by
        unfold hr
        rw [if_pos hlt, lt_M z hz _ (hT.2 p1 hlt).2.1, if_pos hpx, el]
      rw [← el] at hpx
      rw [es, if_neg cl]
      obtain ⟨z7, _, _, zl1, zh1⟩ := lz_X z hz _ hpx
      generalize hw0 : lt T L z p1 = w0 at *
      have hl5 : lnz z ≤ 5 := by rcases (show z = 0 ∨ z = 1 by omega) with rfl | rfl <;> decide
      have hbit := bm_bit (p := met) hpx
      have hbl := bm_lt8 (p := met) (show lnz z ≤ 8 by omega)
      rw [if_neg (nM1 (by omega)), M_fails hf1 a1, b_V]
      by_cases cm : met w0 = true
      · rw [if_pos cm] at hbit
        have hq : (nI (bm met (lnz z)) >>> (nI w0 &&& 31)) &&& 1 = 1 := by rw [bitq hbl (by omega), hbit]; decide
        rw [if_pos hq, if_pos cm]
        exact ⟨_, gj_trans F1 (gj_put0 _ _ (by simp)), fun i _ => by rw [gp_o hW0, k1], rfl, Or.inr ⟨by show (0 : Nat) ≠ 1; decide, gp_s _ _ _ _⟩⟩
      · rw [if_neg cm] at hbit
        have y4 : ¬ (nI (from' + w0) < 0 ∨ nW ≤ from' + w0) := by rw [show (0 : Int32) = nI 0 from rfl, nLT _ _ (by omega) (by omega)]; omega
        have hq : ¬ (nI (bm met (lnz z)) >>> (nI w0 &&& 31)) &&& 1 = 1 := by rw [bitq hbl (by omega), hbit]; decide
        rw [if_neg hq, if_neg cm, a1, b_L, show nI p1 + 1 = nI (p1 + 1) from nI_add p1 1, nI_add, nCL (by omega)]
        have fp : gj [W] [3, 4] σ (g_put σ1 0 3 (nI (p1 + 1))) := gj_trans F1 (gj_put0 _ _ (by simp))
        have hTp := MT_gj hT fp (by simp; exact fun e => hW1 e.symm) (by simp)
        have hfp : (g_put σ1 0 3 (nI (p1 + 1))).1 0 4 = -1 := by rw [gp_k, if_neg (by decide)]; exact hf1
        obtain ⟨σ2, f2, a2, n2, r2⟩ := M_number hTp hL (gp_s _ _ _ _) (show p1 + 1 ≤ L by omega) hfp
        have g2 := sk_ge T L (p1 + 1)
        have l2 := sk_le (T := T) (show p1 + 1 ≤ L by omega)
        generalize hp2 : sk T L (p1 + 1) = p2 at *
        have l3 := nc_L (T := T) l2
        have h99 := nvR_999 T L p2
        have F2 : gj [W] [3, 4] σ (g_put σ2 W (from' + w0) (nI (nvR T p2 (nc T L p2)))) := gj_trans fp (gj_trans (gj_mono f2 (by simp) (by simp)) (gj_put _ _ _ (by simp) hW0))
        have k2 : ∀ i, σ2.1 W i = σ.1 W i := fun i => by rw [f2.1 W (by simp) hW0, gp_o hW0, k1]
        have e4 : (g_put σ2 W (from' + w0) (nI (nvR T p2 (nc T L p2)))).1 0 4 = σ2.1 0 4 := gp_o (fun e => hW0 e.symm) 4
        have e3 : (g_put σ2 W (from' + w0) (nI (nvR T p2 (nc T L p2)))).1 0 3 = nI (p2 + nc T L p2) := by rw [gp_o (fun e => hW0 e.symm)]; exact a2
        have oth : ∀ i, (i < from' ∨ from' + lnz z ≤ i) → (g_put σ2 W (from' + w0) (nI (nvR T p2 (nc T L p2)))).1 W i = σ.1 W i := fun i hi => by rw [gp_k, if_neg (by omega), k2]
        obtain ⟨q1, q2⟩ := lz_M hz hpx (g_put σ2 W (from' + w0) (nI (nvR T p2 (nc T L p2))))
        rw [n2, b_I, if_pos y4, b_L, if_pos y4, e4, r2, gp_s, q1, b_I, q2, b_I, M_isIn, b_I, nI_toInt (by omega), nI_toInt (by omega), nI_toInt (by omega)]
        by_cases c3 : nok T L p2 = true
        · have h0 : 0 < nc T L p2 := by
            unfold nok at c3
            simp only [Bool.and_eq_true, decide_eq_true_eq] at c3
            exact c3.1
          rw [if_pos c3] at r2
          rw [if_pos c3, if_pos rfl, if_pos c3]
          by_cases c4 : loz z w0 ≤ nvR T p2 (nc T L p2) ∧ nvR T p2 (nc T L p2) ≤ hiz z w0
          · have c4' : ((loz z w0 : Int) ≤ (nvR T p2 (nc T L p2) : Int) ∧ (nvR T p2 (nc T L p2) : Int) ≤ (hiz z w0 : Int)) := by omega
            rw [if_pos c4', if_neg n10, if_pos c4]
            have hTq := MT_gj hT F2 (by simp; exact fun e => hW1 e.symm) (by simp)
            have eb : nI (bm met (lnz z)) ||| ((1 : Int32) <<< (nI w0 &&& 31)) = nI (bm (fun w => met w || decide (w = w0)) (lnz z)) := by
              rw [sh1 (by omega), fa_or, bm_one hpx, bm_or]
            obtain ⟨σ', u1, u2, u3, u4⟩ := ih (p2 + nc T L p2) (fun w => met w || decide (w = w0)) (ud v w0 (nvR T p2 (nc T L p2))) m (g_put σ2 W (from' + w0) (nI (nvR T p2 (nc T L p2)))) (by omega) (by omega) (by omega) hTq e3 (by rw [e4]; exact r2) (by
              intro w hw
              rw [gp_k]
              unfold ud
              by_cases e : w = w0
              · rw [if_pos (by omega), if_pos e]
              · rw [if_neg (by omega), if_neg e, k2]; exact hv w hw)
            rw [eb]
            exact ⟨σ', gj_trans F2 u1, fun i hi => by rw [u2 i hi, oth i hi], u3, u4⟩
          · have c4' : ¬ ((loz z w0 : Int) ≤ (nvR T p2 (nc T L p2) : Int) ∧ (nvR T p2 (nc T L p2) : Int) ≤ (hiz z w0 : Int)) := by omega
            rw [if_neg c4', if_pos rfl, if_neg c4, e3, b_L, show nI (p2 + nc T L p2) - 1 = nI (p2 + nc T L p2 - 1) from pk_sub (b := 1) (by omega)]
            rw [M_fails (f := nI (p2 + nc T L p2 - 1)) (by rw [gp_k, if_neg (by decide), e4]; exact r2) (gp_s _ _ _ _), b_V]
            exact ⟨_, gj_trans F2 (gj_trans (gj_put0 _ _ (by simp)) (gj_put0 _ _ (by simp))), fun i hi => by rw [gp_o hW0, gp_o hW0, oth i hi], rfl, Or.inr ⟨by show (0 : Nat) ≠ 1; decide, gp_s _ _ _ _⟩⟩
        · rw [if_neg c3] at r2
          rw [if_neg c3, if_neg (nM1 (by omega)), if_neg c3]
          exact ⟨_, F2, oth, rfl, Or.inr ⟨by show (0 : Nat) ≠ 1; decide, by rw [e4]; exact r2⟩⟩
