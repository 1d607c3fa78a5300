/-! the state of both sides: shelf, log, history; an attempt -/
def HI (D S C : Nat) (E : Nat → Nat → Int32) (a h e g : Nat) (Hs : Nat → Sh) (σX σM : gM) : Prop := (h ≤ 40) ∧ (h ≤ a) ∧ (σX.1 29 1 = nI ((a + e) % 40)) ∧ (σX.1 29 2 = nI h) ∧ (σM.1 0 21 = nI ((a - h + g) % 40)) ∧ (σM.1 0 22 = nI h) ∧ (∀ k, a - h ≤ k → k < a → Ok D S C (Hs k) ∧ LO E k (Hs k).lo ∧ XS C (Hs k) (fun j => σX.1 30 (144 * ((k + e) % 40) + j)) ∧ MS C (Hs k) (σM.1 13) (616 * ((k + g) % 40)))
theorem HI.h40 {D S C : Nat} {E : Nat → Nat → Int32} {a h e g : Nat} {Hs : Nat → Sh} {σX σM : gM} (h9 : HI D S C E a h e g Hs σX σM) : h ≤ 40 := h9.1
theorem HI.ha {D S C : Nat} {E : Nat → Nat → Int32} {a h e g : Nat} {Hs : Nat → Sh} {σX σM : gM} (h9 : HI D S C E a h e g Hs σX σM) : h ≤ a := h9.2.1
theorem HI.nx {D S C : Nat} {E : Nat → Nat → Int32} {a h e g : Nat} {Hs : Nat → Sh} {σX σM : gM} (h9 : HI D S C E a h e g Hs σX σM) : σX.1 29 1 = nI ((a + e) % 40) := h9.2.2.1
theorem HI.sz {D S C : Nat} {E : Nat → Nat → Int32} {a h e g : Nat} {Hs : Nat → Sh} {σX σM : gM} (h9 : HI D S C E a h e g Hs σX σM) : σX.1 29 2 = nI h := h9.2.2.2.1
theorem HI.fi {D S C : Nat} {E : Nat → Nat → Int32} {a h e g : Nat} {Hs : Nat → Sh} {σX σM : gM} (h9 : HI D S C E a h e g Hs σX σM) : σM.1 0 21 = nI ((a - h + g) % 40) := h9.2.2.2.2.1
theorem HI.ac {D S C : Nat} {E : Nat → Nat → Int32} {a h e g : Nat} {Hs : Nat → Sh} {σX σM : gM} (h9 : HI D S C E a h e g Hs σX σM) : σM.1 0 22 = nI h := h9.2.2.2.2.2.1
theorem HI.row {D S C : Nat} {E : Nat → Nat → Int32} {a h e g : Nat} {Hs : Nat → Sh} {σX σM : gM} (h9 : HI D S C E a h e g Hs σX σM) : ∀ k, a - h ≤ k → k < a → Ok D S C (Hs k) ∧ LO E k (Hs k).lo ∧ XS C (Hs k) (fun j => σX.1 30 (144 * ((k + e) % 40) + j)) ∧ MS C (Hs k) (σM.1 13) (616 * ((k + g) % 40)) := h9.2.2.2.2.2.2
def BI (D S C F : Nat) (s : Sh) (E : Nat → Nat → Int32) (a h e g : Nat) (Hs : Nat → Sh) (σX σM : gM) : Prop := (XE D S C F σX) ∧ (ME D S C F σM) ∧ (Ok D S C s) ∧ (XS C s (σX.1 11)) ∧ (MS C s (σM.1 10) 0) ∧ (LO E a s.lo) ∧ (XL E a h 0 σX) ∧ (HI D S C E a h e g Hs σX σM)
theorem BI.xe {D S C F : Nat} {s : Sh} {E : Nat → Nat → Int32} {a h e g : Nat} {Hs : Nat → Sh} {σX σM : gM} (h9 : BI D S C F s E a h e g Hs σX σM) : XE D S C F σX := h9.1
theorem BI.me {D S C F : Nat} {s : Sh} {E : Nat → Nat → Int32} {a h e g : Nat} {Hs : Nat → Sh} {σX σM : gM} (h9 : BI D S C F s E a h e g Hs σX σM) : ME D S C F σM := h9.2.1
theorem BI.ok {D S C F : Nat} {s : Sh} {E : Nat → Nat → Int32} {a h e g : Nat} {Hs : Nat → Sh} {σX σM : gM} (h9 : BI D S C F s E a h e g Hs σX σM) : Ok D S C s := h9.2.2.1
theorem BI.xs {D S C F : Nat} {s : Sh} {E : Nat → Nat → Int32} {a h e g : Nat} {Hs : Nat → Sh} {σX σM : gM} (h9 : BI D S C F s E a h e g Hs σX σM) : XS C s (σX.1 11) := h9.2.2.2.1
theorem BI.ms {D S C F : Nat} {s : Sh} {E : Nat → Nat → Int32} {a h e g : Nat} {Hs : Nat → Sh} {σX σM : gM} (h9 : BI D S C F s E a h e g Hs σX σM) : MS C s (σM.1 10) 0 := h9.2.2.2.2.1
theorem BI.lo {D S C F : Nat} {s : Sh} {E : Nat → Nat → Int32} {a h e g : Nat} {Hs : Nat → Sh} {σX σM : gM} (h9 : BI D S C F s E a h e g Hs σX σM) : LO E a s.lo := h9.2.2.2.2.2.1
theorem BI.xl {D S C F : Nat} {s : Sh} {E : Nat → Nat → Int32} {a h e g : Nat} {Hs : Nat → Sh} {σX σM : gM} (h9 : BI D S C F s E a h e g Hs σX σM) : XL E a h 0 σX := h9.2.2.2.2.2.2.1
theorem BI.hi {D S C F : Nat} {s : Sh} {E : Nat → Nat → Int32} {a h e g : Nat} {Hs : Nat → Sh} {σX σM : gM} (h9 : BI D S C F s E a h e g Hs σX σM) : HI D S C E a h e g Hs σX σM := h9.2.2.2.2.2.2.2
def BIx (D S C F B : Nat) (σX σM : gM) : Prop := ∃ s E a h e g Hs, a ≤ B ∧ BI D S C F s E a h e g Hs σX σM
theorem XE_gj {D S C F : Nat} {σ σ' : gM} {L J : List Nat} (h : XE D S C F σ) (hf : gj L J σ σ') (h5 : 5 ∉ L) (h6 : 6 ∉ L) (h7 : 7 ∉ L) (h8 : 8 ∉ L) : XE D S C F σ' := by
  obtain ⟨a, b, c⟩ := h
  refine ⟨a, ?_, ?_⟩
  · unfold XR at *; rw [hf.1 5 h5 (by decide)]; exact b
  · unfold XF at *; rw [hf.1 6 h6 (by decide), hf.1 7 h7 (by decide), hf.1 8 h8 (by decide)]; exact c
theorem HI_gj {D S C : Nat} {E : Nat → Nat → Int32} {a h e g : Nat} {Hs : Nat → Sh} {σX σM τX τM : gM} {L J L' J' : List Nat} (hh : HI D S C E a h e g Hs σX σM) (fX : gj L J σX τX) (fM : gj L' J' σM τM) (x1 : 29 ∉ L) (x2 : 30 ∉ L) (m1 : 13 ∉ L') (j1 : 21 ∉ J') (j2 : 22 ∉ J') : HI D S C E a h e g Hs τX τM :=
  ⟨hh.h40, hh.ha, by rw [fX.1 29 x1 (by decide)]; exact hh.nx, by rw [fX.1 29 x1 (by decide)]; exact hh.sz, by rw [fM.2.1 21 j1]; exact hh.fi, by rw [fM.2.1 22 j2]; exact hh.ac, by
    rw [fX.1 30 x2 (by decide), fM.1 13 m1 (by decide)]; exact hh.row⟩
theorem XL_gj {E : Nat → Nat → Int32} {a h j : Nat} {σ τ : gM} {L J : List Nat} (hh : XL E a h j σ) (f : gj L J σ τ) (h1 : 25 + 2 * j ∉ L) (h2 : 26 + 2 * j ∉ L) : XL E a h j τ := by
  unfold XL at *
  rw [f.1 _ h1 (by omega), f.1 _ h2 (by omega)]
  exact hh
theorem BI_gj {D S C F : Nat} {s : Sh} {E : Nat → Nat → Int32} {a h e g : Nat} {Hs : Nat → Sh} {σX σM τX τM : gM} {L J L' J' : List Nat} (hh : BI D S C F s E a h e g Hs σX σM) (fX : gj L J σX τX) (fM : gj L' J' σM τM) (x : ∀ p, p ∈ [5, 6, 7, 8, 11, 25, 26, 29, 30] → p ∉ L) (m : ∀ p, p ∈ [3, 8, 9, 10, 13] → p ∉ L') (j : ∀ p, p ∈ [13, 14, 21, 22] → p ∉ J') : BI D S C F s E a h e g Hs τX τM :=
  ⟨XE_gj hh.xe fX (x 5 (by simp)) (x 6 (by simp)) (x 7 (by simp)) (x 8 (by simp)), ME_gj hh.me fM (m 3 (by simp)) (m 8 (by simp)) (m 9 (by simp)) (j 13 (by simp)) (j 14 (by simp)), hh.ok, by rw [fX.1 11 (x 11 (by simp)) (by decide)]; exact hh.xs, by rw [fM.1 10 (m 10 (by simp)) (by decide)]; exact hh.ms, hh.lo, XL_gj hh.xl fX (x 25 (by simp)) (x 26 (by simp)), HI_gj hh.hi fX fM (x 29 (by simp)) (x 30 (by simp)) (m 13 (by simp)) (j 21 (by simp)) (j 22 (by simp))⟩
theorem X_keep {r h : Nat} {σ : gM} (h1 : σ.1 29 1 = nI r) (hr : r < 40) (h2 : σ.1 29 2 = nI h) (hh : h ≤ 40) :
    ∃ σ', fX2_keep 0 σ = some σ' ∧ σ'.1 29 1 = nI ((r + 1) % 40) ∧ σ'.1 29 2 = nI (min (h + 1) 40) ∧ (∀ j, j < 144 → σ'.1 30 (144 * r + j) = σ.1 11 j) ∧ (∀ j, (j < 144 * r ∨ 144 * r + 144 ≤ j) → σ'.1 30 j = σ.1 30 j) ∧ fr [29, 30] σ σ' := by
  have e0 : (fX9_saveTo 0 (nI r * 144) σ) = some (g_row σ 30 (va_cpy (σ.1 (11 + 5 * 0)) (σ.1 30) 0 (r * 144) 144)) := by
    rw [show nI r * 144 = nI (r * 144) from pk_mul r 144]
    exact X_save σ hr
  generalize hτ : g_row σ 30 (va_cpy (σ.1 (11 + 5 * 0)) (σ.1 30) 0 (r * 144) 144) = τ at e0
  have f0 : fr [29, 30] σ τ := by rw [← hτ]; exact fr_row _ _ (by simp)
  have t1 : τ.1 29 = σ.1 29 := by rw [← hτ]; exact gr_o (by decide)
  have fin : ∀ q : Nat, ∃ σ', fX2_keep_b38 0 (nI q) τ = some σ' ∧ σ'.1 29 1 = nI q ∧ σ'.1 29 2 = nI (min (h + 1) 40) ∧ (∀ j, j < 144 → σ'.1 30 (144 * r + j) = σ.1 11 j) ∧ (∀ j, (j < 144 * r ∨ 144 * r + 144 ≤ j) → σ'.1 30 j = σ.1 30 j) ∧ fr [29, 30] σ σ' := by
    intro q
    unfold fX2_keep_b38
    rw [b_L, show (g_put τ 29 1 (nI q)).1 29 2 = nI h from by rw [gp_k, if_neg (by decide), t1, h2], show nI h + 1 = nI (h + 1) from nI_add h 1]
    have em : (if 40 < nI (h + 1) then 40 else nI (h + 1)) = nI (min (h + 1) 40) := by
      by_cases c : 40 < h + 1
      · rw [if_pos (by simp (disch := first | omega | assumption) only [fa_lit, nLE, nLT, nEQ, nI_add, nSA, nSUB, pk_mul, nDIV, nREM, nCL, fa_and, nx_xor, fa_or, nSHL, nSHR, nUS, n31, n255, Nat.and_one_is_mod, b_I, b_V, b_L, not_or, Nat.not_lt_zero, Nat.not_le, Nat.not_lt, not_false_eq_true, true_and, and_true, false_or, or_false, Classical.not_not, if_true, if_false, if_pos, if_neg] <;> omega), show min (h + 1) 40 = 40 by omega]; rfl
      · rw [if_neg (by simp (disch := first | omega | assumption) only [fa_lit, nLE, nLT, nEQ, nI_add, nSA, nSUB, pk_mul, nDIV, nREM, nCL, fa_and, nx_xor, fa_or, nSHL, nSHR, nUS, n31, n255, Nat.and_one_is_mod, b_I, b_V, b_L, not_or, Nat.not_lt_zero, Nat.not_le, Nat.not_lt, not_false_eq_true, true_and, and_true, false_or, or_false, Classical.not_not, if_true, if_false, if_pos, if_neg] <;> omega), show min (h + 1) 40 = h + 1 by omega]
    rw [em, b_L]
    refine ⟨_, rfl, ?_, gp_s _ _ _ _, ?_, ?_, fr_trans f0 (fr_trans (fr_put _ _ _ (by simp)) (fr_put _ _ _ (by simp)))⟩
    · rw [gp_k, if_neg (by decide), gp_s]
    · intro j hj
      rw [gp_o (by decide), gp_o (by decide), ← hτ, gr_k]
      unfold va_cpy
      rw [if_pos (by omega), show 0 + (144 * r + j - r * 144) = j by omega]
    · intro j hj
      rw [gp_o (by decide), gp_o (by decide), ← hτ, gr_k]
      unfold va_cpy
      rw [if_neg (by omega)]
  unfold fX2_keep
  rw [h1, e0, b_V, t1, h1, show nI r + 1 = nI (r + 1) from nI_add r 1]
  by_cases c : 40 ≤ r + 1
  · obtain ⟨σ', e, rest⟩ := fin 0
    rw [if_pos (by simp (disch := first | omega | assumption) only [fa_lit, nLE, nLT, nEQ, nI_add, nSA, nSUB, pk_mul, nDIV, nREM, nCL, fa_and, nx_xor, fa_or, nSHL, nSHR, nUS, n31, n255, Nat.and_one_is_mod, b_I, b_V, b_L, not_or, Nat.not_lt_zero, Nat.not_le, Nat.not_lt, not_false_eq_true, true_and, and_true, false_or, or_false, Classical.not_not, if_true, if_false, if_pos, if_neg] <;> omega), show (r + 1) % 40 = 0 by omega]
    exact ⟨σ', e, rest⟩
  · obtain ⟨σ', e, rest⟩ := fin (r + 1)
    rw [if_neg (by simp (disch := first | omega | assumption) only [fa_lit, nLE, nLT, nEQ, nI_add, nSA, nSUB, pk_mul, nDIV, nREM, nCL, fa_and, nx_xor, fa_or, nSHL, nSHR, nUS, n31, n255, Nat.and_one_is_mod, b_I, b_V, b_L, not_or, Nat.not_lt_zero, Nat.not_le, Nat.not_lt, not_false_eq_true, true_and, and_true, false_or, or_false, Classical.not_not, if_true, if_false, if_pos, if_neg] <;> omega), show (r + 1) % 40 = r + 1 by omega]
    exact ⟨σ', e, rest⟩
theorem M_remember {n f h : Nat} {σ : gM} (hn : 700 ≤ n) (h1 : σ.1 0 21 = nI f) (hf : f < 40) (h2 : σ.1 0 22 = nI h) (hh : h ≤ 40) :
    ∃ σ', fX12_remember n σ = some σ' ∧ σ'.1 0 21 = nI (if h = 40 then (f + 1) % 40 else f) ∧ σ'.1 0 22 = nI (min (h + 1) 40) ∧ (∀ j, j < 616 → σ'.1 13 (616 * ((f + h) % 40) + j) = σ.1 11 j) ∧ (∀ j, (j < 616 * ((f + h) % 40) ∨ 616 * ((f + h) % 40) + 616 ≤ j) → σ'.1 13 j = σ.1 13 j) ∧ gj [13] [21, 22] σ σ' := by
  have hp : (f + h) % 40 < 40 := Nat.mod_lt _ (by decide)
  have fin : ∀ (τ : gM) (f' h' : Nat), τ.1 0 21 = nI f' → τ.1 0 22 = nI h' → f' < 40 → 0 < h' → h' ≤ 40 → (f' + h' - 1) % 40 = (f + h) % 40 → gj [13] [21, 22] σ τ → (∀ p, p ≠ 0 → τ.1 p = σ.1 p) → ∃ σ', fX12_remember_b35 n τ = some σ' ∧ σ'.1 0 21 = nI f' ∧ σ'.1 0 22 = nI h' ∧ (∀ j, j < 616 → σ'.1 13 (616 * ((f + h) % 40) + j) = σ.1 11 j) ∧ (∀ j, (j < 616 * ((f + h) % 40) ∨ 616 * ((f + h) % 40) + 616 ≤ j) → σ'.1 13 j = σ.1 13 j) ∧ gj [13] [21, 22] σ σ' := by
    intro τ f' h' t1 t2 t3 t4 t5 t6 t7 t8
    obtain ⟨σ', e, k1, k2, k3⟩ := M_copyRow (n := n) (w := 11) (nw := 616) (u := 13) (nu := 24640) (f := 0) (t := 616 * ((f + h) % 40)) (σ := τ) hn (by decide) (by omega) (by omega) (by omega) (by omega)
    have ei : (616 : Int32) * (nI f' + nI h' - 1 - (nI f' + nI h' - 1) / 40 * 40) = nI (616 * ((f + h) % 40)) := by
      rw [nI_add, show nI (f' + h') - 1 = nI (f' + h' - 1) from pk_sub (b := 1) (by omega), show (40 : Int32) = nI 40 from rfl, nDIV (by omega) (by omega) (by omega), pk_mul, nREM, t6]
      exact pk_mul 616 _
    unfold fX12_remember_b35
    rw [t1, t2, ei, show (0 : Int32) = nI 0 from rfl, e, b_V]
    refine ⟨σ', rfl, ?_, ?_, ?_, ?_, gj_trans t7 (gj_fr (J := [21, 22]) k3 (by simp))⟩
    · rw [k3.1 0 (by simp), t1]
    · rw [k3.1 0 (by simp), t2]
    · intro j hj
      rw [k1 j hj, Nat.zero_add, t8 11 (by decide)]
    · intro j hj
      rw [k2 j hj, t8 13 (by decide)]
  unfold fX12_remember
  rw [h1, h2]
  by_cases c : h = 40
  · have e1 : nI f + 1 - (nI f + 1) / 40 * 40 = nI ((f + 1) % 40) := by
      rw [show nI f + 1 = nI (f + 1) from nI_add f 1, show (40 : Int32) = nI 40 from rfl, nDIV (by omega) (by omega) (by omega), pk_mul, nREM]
    have hm : (f + 1) % 40 < 40 := Nat.mod_lt _ (by decide)
    rw [if_pos (by rw [c]; rfl), e1, b_L, if_pos c, show min (h + 1) 40 = 40 by omega]
    refine fin _ ((f + 1) % 40) 40 (gp_s _ _ _ _) (by rw [gp_k, if_neg (by decide), h2, c]) hm (by omega) (by omega) (by omega) (gj_put0 _ _ (by simp)) (fun p hp => g_put_o _ _ _ _ p hp)
  · rw [if_neg (by rw [show (40 : Int32) = nI 40 from rfl, nEQ _ _ (by omega) (by omega)]; exact c), if_neg c, show nI h + 1 = nI (h + 1) from nI_add h 1, b_L, show min (h + 1) 40 = h + 1 by omega]
    exact fin _ f (h + 1) (by rw [gp_k, if_neg (by decide), h1]) (gp_s _ _ _ _) hf (by omega) (by omega) (by congr 1) (gj_put0 _ _ (by simp)) (fun p hp => g_put_o _ _ _ _ p hp)
theorem J_try {D S C F n B : Nat} {σX σM : gM} (hn : 1000 ≤ n) (hB : BIx D S C F B σX σM) (hb : B < 999999) {k : Nat} (hk : k < 9) {a b c d a' b' c' d' : Int32} (ha : 0 < nmb k → a = a') (hb1 : 1 < nmb k → b = b') (hc : 2 < nmb k → c = c') (hd : 3 < nmb k → d = d') :
    ∃ (r y : Int32) (τX τM : gM), fX11_attempt n (nI k) a b c d σX = some (r, τX) ∧ fX12_tries_ n (nI k) a' b' c' d' σM = some (y, τM) ∧ τX.1 0 14 = y ∧ (y = -1 ∨ ∃ z, z < 4 ∧ y = nI z) ∧ (y ≠ -1 → r = -1) ∧ (y = -1 → τM.1 0 29 = r) ∧ BIx D S C F (B + 1) τX τM ∧ gj [11, 13, 25, 26, 29, 30] [14] σX τX ∧ gj [10, 11, 13, 14, 15] [21, 22, 26, 27, 28, 29, 30] σM τM := by
  obtain ⟨s, E, a0, h, e, g, Hs, haB, hI⟩ := hB
  obtain ⟨w1, w2, w3, w4, w5, w6, w7⟩ := hI.xe.1
  have hp0 := DSC_lt hI.xe.1
  have e14 : σM.1 0 14 = nI (D * S * C) := hI.me.2.1.2.2.2.2.2
  -- the trial row
  obtain ⟨σ1, c1, c2, c3, c4⟩ := M_copyRow (n := n) (w := 10) (nw := 616) (u := 11) (nu := 616) (f := 0) (t := 0) (σ := σM) (by omega) (by decide) (by omega) (by omega) (by omega) (by omega)
  have g1 : gj [10, 11, 13, 14, 15] [21, 22, 26, 27, 28, 29, 30] σM σ1 := gj_mono (gj_fr (J := []) c4 (by simp)) (by simp) (by simp)
  have me1 := ME_fr hI.me c4 (by simp) (by simp) (by simp) (by simp)
  have ms1 : MS C s (σ1.1 10) 0 := by rw [c4.1 10 (by simp)]; exact hI.ms
  have mt1 : MS C s (σ1.1 11) 0 := MS_copy w6 hI.ms (fun k hk => c2 k hk)
  have et : fX12_tries_ n (nI k) a' b' c' d' σM = fX12_tries__b20 n (nI k) a' b' c' d' σ1 := by
    unfold fX12_tries_
    rw [e14, if_neg (by rw [show (0 : Int32) = nI 0 from rfl, nLE _ _ (by omega) (by omega)]; omega), show (0 : Int32) = nI 0 from rfl, c1, b_V]
  rw [et]
  unfold fX12_tries__b20 fX11_attempt
  rcases AR_any (n := n) (i := 0) (w := 10) (by omega) hI.xe me1 hI.ok hI.xs ms1 (by omega) (by omega) hk ha hb1 hc hd with ⟨y, hy, r1, d1⟩ | ⟨r1, s0, r0, t0, u0, r2, d2, _⟩
  · rw [r1, b_I, b_L, gp_s, if_neg (nM1 (by omega)), d1, b_I, if_neg (nM1 (by omega))]
    refine ⟨-1, nI y, _, _, rfl, rfl, gp_s _ _ _ _, Or.inr ⟨y, hy, rfl⟩, fun _ => rfl, fun z => absurd z (nM1 (by omega)), ⟨s, E, a0, h, e, g, Hs, by omega, ?_⟩, gj_put0 _ _ (by simp), g1⟩
    exact BI_gj hI (gj_put0 (L := []) (J := [14]) _ _ (by simp)) (gj_fr (J := []) c4 (by simp)) (by simp) (by decide) (by simp)
  · -- the class keeps its state, then acts
    have f1 : gj [29, 30] [14] σX (g_put σX 0 14 (-1)) := gj_put0 _ _ (by simp)
    have hm : (a0 + e) % 40 < 40 := Nat.mod_lt _ (by decide)
    obtain ⟨σ2, k1, k2, k3, k4, k5, k6⟩ := X_keep (σ := g_put σX 0 14 (-1)) (r := (a0 + e) % 40) (h := h) (by rw [gp_o (by decide)]; exact hI.hi.nx) hm (by rw [gp_o (by decide)]; exact hI.hi.sz) hI.hi.h40
    have f2 : gj [29, 30] [14] σX σ2 := gj_trans f1 (gj_fr k6 (by simp))
    have xe2 := XE_gj hI.xe f2 (by simp) (by simp) (by simp) (by simp)
    have xs2 : XS C s (σ2.1 11) := by rw [f2.1 11 (by simp) (by decide)]; exact hI.xs
    rcases AR_any (n := n) (i := 0) (w := 10) (by omega) xe2 me1 hI.ok xs2 ms1 (by omega) (by omega) hk ha hb1 hc hd with ⟨y, hy, q1, q2⟩ | ⟨q1, s', r, τX, τM, q2, q3, q4, q5, q6, q7, q8, q9, q10, q11⟩
    · rw [d2] at q2
      have q := congrArg (fun z => (z.getD (0, σM)).1) q2
      exact absurd q.symm (nM1 (by omega))
    · have xs4 : XS C s' (τX.1 (11 + 5 * 0)) := q4
      -- the reference remembers and notes
      have hmf : (a0 - h + g) % 40 < 40 := Nat.mod_lt _ (by decide)
      obtain ⟨σ4, m1, m2, m3, m4, m5, m6⟩ := M_remember (n := n) (σ := τM) (f := (a0 - h + g) % 40) (h := h) (by omega) (by rw [q9.2.1 21 (by simp), c4.1 0 (by simp)]; exact hI.hi.fi) hmf (by rw [q9.2.1 22 (by simp), c4.1 0 (by simp)]; exact hI.hi.ac) hI.hi.h40
      have ms4 : MS C s' (σ4.1 10) 0 := by rw [m6.1 10 (by simp) (by decide)]; exact q5
      have mt4 : MS C s (σ4.1 11) 0 := by rw [m6.1 11 (by simp) (by decide), q9.1 11 (by simp) (by decide)]; exact mt1
      have n30 : σ4.1 0 30 = if nI k = 7 then r else a := by rw [m6.2.1 30 (by simp)]; exact q11
      obtain ⟨σ5, lo', n1, n2, n3, n4⟩ := M_notes (n := n) (x := nI k) (z := nI (cst s') - nI (cst s)) (by omega) w6 ms4 (by rw [q7]; exact hI.lo) (show a0 < 1000000 by omega)
      -- the class's log
      have hpe : (a0 - h + g) % 40 + h = (a0 - h + g) % 40 + h := rfl
      have xl3 : XL E a0 h 0 τX := XL_gj (XL_gj hI.xl f2 (by simp) (by simp)) (gj_fr (J := []) q8 (by simp)) (by simp) (by simp)
      obtain ⟨σ6, l1, l2, l3⟩ := X_add_log (x := nI k) (y := if nI k = 7 then r else a) (z := nI (cst s') - nI (cst s)) (h' := min (h + 1) 40) xl3 (show a0 < 1000000 by omega) (by omega) (by omega)
      have xe6 := XE_fr (XE_fr xe2 q8 (by simp) (by simp) (by simp) (by simp)) l3 (by simp) (by simp) (by simp) (by simp)
      have FX : gj [11, 13, 25, 26, 29, 30] [14] σX σ6 := gj_trans (gj_mono f2 (by simp) (by simp)) (gj_trans (gj_mono (gj_fr (J := []) q8 (by simp)) (by simp) (by simp)) (gj_mono (gj_fr (J := []) l3 (by simp)) (by simp) (by simp)))
      have FM : gj [10, 11, 13, 14, 15] [21, 22, 26, 27, 28, 29, 30] σM σ5 := gj_trans g1 (gj_trans (gj_mono q9 (by simp) (by simp)) (gj_trans (gj_mono m6 (by simp) (by simp)) (gj_mono (gj_fr (J := []) n4 (by simp)) (by simp) (by simp))))
      have eX : (if nI k = 7 then fX11_attempt_b87 n (nI (cst s)) r r (nI k) τX else fX11_attempt_b87 n (nI (cst s)) r a (nI k) τX) = some (r, σ6) := by
        have eb : ∀ u, u = (if nI k = 7 then r else a) → fX11_attempt_b87 n (nI (cst s)) r u (nI k) τX = some (r, σ6) := by
          intro u hu
          unfold fX11_attempt_b87
          rw [X_cost (by omega) xs4, b_I, hu, l1, b_V]
        by_cases c7 : nI k = 7
        · rw [if_pos c7]; exact eb r (by rw [if_pos c7])
        · rw [if_neg c7]; exact eb a (by rw [if_neg c7])
      refine ⟨r, -1, σ6, σ5, ?_, ?_, ?_, Or.inl rfl, fun z => absurd rfl z, fun _ => ?_, ⟨s'.w_lo lo', eU E a0 (nI k) (if nI k = 7 then r else a) (nI (cst s') - nI (cst s)), a0 + 1, min (h + 1) 40, e, g, fun j => if j = a0 then s else Hs j, by omega, ⟨xe6, ?_, ?_, ?_, n2, ?_, l2, ?_⟩⟩, FX, FM⟩
      · rw [r1, b_I, b_L, gp_s, if_pos rfl, k1, b_V, X_cost (i := 0) (by omega) xs2, b_I, q2, b_I, eX]
      · rw [q3, b_I, if_pos rfl, m1, b_V, M_cost ms4, b_I, M_cost mt4, b_I, n1, b_V]
      · rw [l3.1 0 (by simp), q8.1 0 (by simp), k6.1 0 (by simp), gp_s]
      · rw [n4.1 0 (by simp), m6.2.1 29 (by simp)]; exact q10
      · exact ME_gj hI.me FM (by simp) (by simp) (by simp) (by simp) (by simp)
      · exact ⟨q6.how, q6.h0, q6.h1, q6.h2, q6.byt, q6.two, q6.sp, q6.nx, q6.di⟩
      · have xs6 : XS C s' (σ6.1 11) := by rw [l3.1 11 (by simp)]; exact q4
        exact ⟨xs6.byt, xs6.how, xs6.don, xs6.rd, xs6.wr, xs6.md, xs6.sp, xs6.op, xs6.ps, xs6.nx, xs6.di, xs6.l0, xs6.l1, xs6.l2⟩
      · rw [n30] at n3
        exact n3
      · have hha := hI.hi.ha
        have hh4 := hI.hi.h40
        refine ⟨by omega, by omega, ?_, ?_, ?_, ?_, ?_⟩
        · rw [l3.1 29 (by simp), q8.1 29 (by simp), k2]
          congr 1
          omega
        · rw [l3.1 29 (by simp), q8.1 29 (by simp), k3]
        · rw [n4.1 0 (by simp), m2]
          congr 1
          by_cases c : h = 40
          · rw [if_pos c]; omega
          · rw [if_neg c]; congr 1; omega
        · rw [n4.1 0 (by simp), m3]
        · intro j j1 j2
          have f30 : σ6.1 30 = σ2.1 30 := by rw [l3.1 30 (by simp), q8.1 30 (by simp)]
          have f13 : σ5.1 13 = σ4.1 13 := n4.1 13 (by simp)
          have ep : ((a0 - h + g) % 40 + h) % 40 = (a0 + g) % 40 := by omega
          rw [ep] at m4 m5
          rw [f30, f13]
          dsimp only
          by_cases cj : j = a0
          · rw [if_pos cj, cj]
            refine ⟨hI.ok, LO_ext hI.lo (fun k c hk => eU_o (by omega) c), XS_copy hI.xs (fun k hk => ?_), MS_copy w6 mt1 (fun k hk => ?_)⟩
            · rw [k4 k hk, gp_o (by decide)]
            · rw [m4 k hk, Nat.zero_add, q9.1 11 (by simp) (by decide)]
          · rw [if_neg cj]
            obtain ⟨o1, o2, o3, o4⟩ := hI.hi.row j (by omega) (by omega)
            have ne1 : (j + e) % 40 ≠ (a0 + e) % 40 := by omega
            have ne2 : (j + g) % 40 ≠ (a0 + g) % 40 := by omega
            refine ⟨o1, LO_ext o2 (fun k c hk => eU_o (by omega) c), XS_copy o3 (fun k hk => ?_), MS_copy w6 o4 (fun k hk => ?_)⟩
            · rw [k5 _ (by omega), gp_o (by decide)]
            · rw [m5 _ (by omega), q9.1 13 (by simp) (by decide), c4.1 13 (by simp)]
