/-! the face: undo, image, back, read -/
section OPS
variable {c : Nat} {σX σM : gM}
theorem o25 (hc : c < 512) (h : Inv c σX σM) : ∃ (r : Int32) (τX τM : gM), fX11_undo σX = some (r, τX) ∧ fX12_undo 1000 σM = some (r, τM) ∧ Inv (c + 1) τX τM := by
  have h0 := Inv_0 h 0
  unfold fX11_undo fX12_undo fX2_size
  rw [b_L]
  generalize g_put σM 0 0 0 = σ0 at *
  rw [b_I]
  obtain ⟨hT, hS, hU, hB⟩ := id h0
  rcases hB with hN | ⟨D, S, C, F, ⟨s, E, a, hh, e, g, Hs, haB, hI⟩, hM⟩
  · rw [if_pos hN.n2, if_pos hN.m22]
    exact ⟨_, _, _, rfl, rfl, h0⟩
  · have h40 := hI.hi.h40
    have hha := hI.hi.ha
    obtain ⟨w1, w2, w3, w4, w5, w6, w7⟩ := hI.xe.1
    by_cases q : hh = 0
    · rw [if_pos (by rw [hI.hi.sz, q]; rfl), if_pos (by rw [hI.hi.ac, q]; rfl)]
      exact ⟨_, _, _, rfl, rfl, h0⟩
    · have z1 : ¬ σX.1 29 2 = 0 := by rw [hI.hi.sz]; exact nI_ne0 (by omega) (by omega)
      have z2 : ¬ σ0.1 0 22 = 0 := by rw [hI.hi.ac]; exact nI_ne0 (by omega) (by omega)
      have z3 : ¬ σX.1 29 2 ≤ 0 := by rw [hI.hi.sz, show (0 : Int32) = nI 0 from rfl, nLE _ _ (by omega) (by omega)]; omega
      obtain ⟨o1, o2, o3, o4⟩ := hI.hi.row (a - 1) (by omega) (by omega)
      have hr : (a - 1 + e) % 40 < 40 := Nat.mod_lt _ (by decide)
      -- the class
      have bb : ∃ σ', fX2_bringBack 0 σX = some σ' ∧ σ'.1 29 1 = nI ((a - 1 + e) % 40) ∧ σ'.1 29 2 = nI (hh - 1) ∧ XS C (Hs (a - 1)) (σ'.1 11) ∧ fr [11, 29] σX σ' := by
        have fin : ∃ σ', fX2_bringBack_b26 0 (nI ((a - 1 + e) % 40)) σX = some σ' ∧ σ'.1 29 1 = nI ((a - 1 + e) % 40) ∧ σ'.1 29 2 = nI (hh - 1) ∧ XS C (Hs (a - 1)) (σ'.1 11) ∧ fr [11, 29] σX σ' := by
          unfold fX2_bringBack_b26
          rw [b_L, gp_s, show nI ((a - 1 + e) % 40) * 144 = nI ((a - 1 + e) % 40 * 144) from pk_mul _ 144, X_load_row _ hr, b_V, b_L]
          refine ⟨_, rfl, ?_, ?_, ?_, ?_⟩
          · rw [gp_k, if_neg (by decide), gr_o (by decide), gp_s]
          · rw [gp_s, gr_o (by decide), gp_k, if_neg (by decide), hI.hi.sz]
            exact pk_sub (b := 1) (by omega)
          · rw [show ∀ (τ : gM) (x : Int32), (g_put τ 29 2 x).1 11 = τ.1 11 from fun τ x => g_put_o τ 29 2 x 11 (by decide)]
            have ek := gr_k (g_put σX 29 1 (nI ((a - 1 + e) % 40))) (11 + 5 * 0) (va_cpy ((g_put σX 29 1 (nI ((a - 1 + e) % 40))).1 30) ((g_put σX 29 1 (nI ((a - 1 + e) % 40))).1 (11 + 5 * 0)) ((a - 1 + e) % 40 * 144) 0 144)
            rw [show (11 + 5 * 0) = 11 from rfl] at ek ⊢
            rw [ek]
            refine XS_copy o3 (fun k hk => ?_)
            unfold va_cpy
            rw [if_pos (by omega), gp_o (by decide), show (a - 1 + e) % 40 * 144 + (k - 0) = 144 * ((a - 1 + e) % 40) + k by omega]
          · exact fr_trans (fr_put _ _ _ (by simp)) (fr_trans (fr_row _ _ (by simp)) (fr_put _ _ _ (by simp)))
        unfold fX2_bringBack
        rw [if_neg z3, hI.hi.nx]
        have hr2 : (a + e) % 40 < 40 := Nat.mod_lt _ (by decide)
        by_cases y : (a + e) % 40 = 0
        · rw [if_pos (by rw [y]; decide)]
          rw [show (a - 1 + e) % 40 = 39 by omega] at fin ⊢
          exact fin
        · rw [if_neg (by rw [show (0 : Int32) = nI 0 from rfl, nLE _ _ (by omega) (by omega)]; omega), show nI ((a + e) % 40) - 1 = nI ((a + e) % 40 - 1) from pk_sub (b := 1) (by omega), show (a + e) % 40 - 1 = (a - 1 + e) % 40 by omega]
          exact fin
      obtain ⟨σ1, b1, b2, b3, b4, b5⟩ := bb
      have exl : σ1.1 25 1 = nI a := by rw [b5.1 25 (by simp)]; exact hI.xl.1
      have dr : fX3_drop 0 σ1 = some (g_put σ1 25 1 (nI (a - 1))) := by
        unfold fX3_drop
        show (if σ1.1 25 1 ≤ 0 then _ else g_let (g_put σ1 25 1 (σ1.1 25 1 - 1)) _) = _
        rw [exl, if_neg (by rw [show (0 : Int32) = nI 0 from rfl, nLE _ _ (by omega) (by omega)]; omega), b_L, show nI a - 1 = nI (a - 1) from pk_sub (b := 1) (by omega)]
      have FX : gj [11, 25, 29] [] σX (g_put σ1 25 1 (nI (a - 1))) := gj_trans (gj_mono (gj_fr (J := []) b5 (by simp)) (by simp) (by simp)) (gj_put _ _ _ (by simp) (by decide))
      -- the reference
      have hf : (a - 1 + g) % 40 < 40 := Nat.mod_lt _ (by decide)
      have ei : (616 : Int32) * (nI ((a - hh + g) % 40) + nI (hh - 1) - (nI ((a - hh + g) % 40) + nI (hh - 1)) / 40 * 40) = nI (616 * ((a - 1 + g) % 40)) := by
        rw [nI_add, show (40 : Int32) = nI 40 from rfl, nDIV (by omega) (by omega) (by omega), pk_mul, nREM, show ((a - hh + g) % 40 + (hh - 1)) % 40 = (a - 1 + g) % 40 by omega]
        exact pk_mul 616 _
      have e22 : σ0.1 0 22 - 1 = nI (hh - 1) := by rw [hI.hi.ac]; exact pk_sub (b := 1) (by omega)
      have e21 : (g_put σ0 0 22 (nI (hh - 1))).1 0 21 = nI ((a - hh + g) % 40) := by rw [gp_k, if_neg (by decide)]; exact hI.hi.fi
      obtain ⟨σ4, c1, c2, c3, c4⟩ := M_copyRow (n := 1000) (w := 13) (nw := 24640) (u := 10) (nu := 616) (f := 616 * ((a - 1 + g) % 40)) (t := 0) (σ := g_put σ0 0 22 (nI (hh - 1))) (by omega) (by decide) (by omega) (by omega) (by omega) (by omega)
      have FM : gj [10] [22] σ0 σ4 := gj_trans (gj_put0 _ _ (by simp)) (gj_fr (J := [22]) c4 (by simp))
      have e22' : σ4.1 0 22 = nI (hh - 1) := by rw [c4.1 0 (by simp), gp_s]
      rw [if_neg z1, if_neg z2, b1, b_V, dr, b_V, b_I, e22, b_L, e21, gp_s, ei, show (0 : Int32) = nI 0 from rfl, c1, b_V, e22', gp_o (by decide), b3]
      refine ⟨_, _, _, rfl, rfl, TP_gj hT FX FM (by decide) (by decide) (by decide), SC_gj hS FX FM (by decide) (by decide) (by decide) (by decide), ST_gj hU FX FM (by decide) (by decide), Or.inr ⟨D, S, C, F, ⟨Hs (a - 1), E, a - 1, hh - 1, e, g, Hs, by omega, ⟨XE_gj hI.xe FX (by decide) (by decide) (by decide) (by decide), ME_gj hI.me FM (by decide) (by decide) (by decide) (by decide) (by decide), o1, ?_, ?_, o2, ?_, ?_⟩⟩, IM_gj (Nat.le_refl _) hM FX FM (by decide) (by decide) (by decide) (by decide)⟩⟩
      · rw [show (g_put σ1 25 1 (nI (a - 1))).1 11 = σ1.1 11 from g_put_o _ _ _ _ 11 (by decide)]
        exact b4
      · refine MS_copy w6 o4 (fun k hk => ?_)
        rw [c2 k hk, gp_o (by decide)]
      · refine ⟨gp_s _ _ _ _, fun k y k1 k2 k3 => ?_⟩
        show (g_put σ1 25 1 (nI (a - 1))).1 26 _ = _
        rw [gp_o (by decide), b5.1 26 (by simp)]
        exact hI.xl.2 k y (by omega) (by omega) k3
      · refine ⟨by omega, by omega, ?_, ?_, ?_, e22', ?_⟩
        · rw [gp_o (by decide), b2]
        · rw [gp_o (by decide), b3]
        · rw [c4.1 0 (by simp), e21, show a - 1 - (hh - 1) = a - hh by omega]
        · intro k k1 k2
          rw [show (g_put σ1 25 1 (nI (a - 1))).1 30 = σ1.1 30 from g_put_o _ _ _ _ 30 (by decide), b5.1 30 (by simp), c4.1 13 (by simp), show (g_put σ0 0 22 (nI (hh - 1))).1 13 = σ0.1 13 from g_put_o _ _ _ _ 13 (by decide)]
          exact hI.hi.row k (by omega) (by omega)
theorem X_copyLog {i j : Nat} (σ : gM) : fX3_copy i j σ = some (g_put (g_row σ (26 + 2 * i) (va_cpy (σ.1 (26 + 2 * j)) (σ.1 (26 + 2 * i)) 0 0 300)) (25 + 2 * i) 1 ((g_row σ (26 + 2 * i) (va_cpy (σ.1 (26 + 2 * j)) (σ.1 (26 + 2 * i)) 0 0 300)).1 (25 + 2 * j) 1)) := rfl
theorem XL_copy {E : Nat → Nat → Int32} {a h i j : Nat} {σ : gM} (hL : XL E a h j σ) (hij : i ≠ j) : XL E a 0 i (g_put (g_row σ (26 + 2 * i) (va_cpy (σ.1 (26 + 2 * j)) (σ.1 (26 + 2 * i)) 0 0 300)) (25 + 2 * i) 1 ((g_row σ (26 + 2 * i) (va_cpy (σ.1 (26 + 2 * j)) (σ.1 (26 + 2 * i)) 0 0 300)).1 (25 + 2 * j) 1)) := by
  refine ⟨?_, fun k y k1 k2 k3 => ?_⟩
  · rw [gp_s, gr_o (by omega)]
    exact hL.1
  · have hm : k % 100 < 100 := Nat.mod_lt _ (by decide)
    rw [gp_o (by omega), gr_k]
    unfold va_cpy
    rw [if_pos (by omega), show 0 + (3 * (k % 100) + y - 0) = 3 * (k % 100) + y by omega]
    exact hL.2 k y k1 (by omega) k3
theorem o43 (hc : c < 512) (h : Inv c σX σM) : ∃ (r : Int32) (τX τM : gM), fX11_image 1000 σX = some (r, τX) ∧ fX12_image 1000 σM = some (r, τM) ∧ Inv (c + 1) τX τM := by
  have h0 := Inv_0 h 0
  unfold fX11_image fX12_image
  rw [b_L]
  generalize g_put σM 0 0 0 = σ0 at *
  obtain ⟨hT, hS, hU, hB⟩ := id h0
  rcases hB with hN | ⟨D, S, C, F, ⟨s, E, a, hh, e, g, Hs, haB, hI⟩, hM⟩
  · rw [no_pres hN, b_I, if_pos rfl, if_pos hN.m14]
    exact ⟨_, _, _, rfl, rfl, h0⟩
  · obtain ⟨w1, w2, w3, w4, w5, w6, w7⟩ := hI.xe.1
    have xs0 : XS C s (σX.1 (11 + 5 * 0)) := hI.xs
    have X2 := XS_cpy (i := 2) xs0
    generalize eτ : g_row σX (11 + 5 * 2) (va_cpy (σX.1 (11 + 5 * 0)) (σX.1 (11 + 5 * 2)) 0 0 144) = τ1 at X2
    have f1 : fr [21] σX τ1 := by rw [← eτ]; exact fr_row _ _ (by simp)
    have xl1 : XL E a hh 0 τ1 := XL_gj hI.xl (gj_fr (J := []) f1 (by simp)) (by simp) (by simp)
    have L2 := XL_copy (i := 1) xl1 (by decide)
    have eL := X_copyLog (i := 1) (j := 0) τ1
    generalize eτ2 : g_put (g_row τ1 (26 + 2 * 1) (va_cpy (τ1.1 (26 + 2 * 0)) (τ1.1 (26 + 2 * 1)) 0 0 300)) (25 + 2 * 1) 1 ((g_row τ1 (26 + 2 * 1) (va_cpy (τ1.1 (26 + 2 * 0)) (τ1.1 (26 + 2 * 1)) 0 0 300)).1 (25 + 2 * 0) 1) = τ2 at L2 eL
    have f2 : fr [27, 28] τ1 τ2 := by rw [← eτ2]; exact fr_trans (fr_row _ _ (by simp)) (fr_put _ _ _ (by simp))
    have FX : gj [21, 27, 28] [15] σX (g_put τ2 0 15 1) := gj_trans (gj_mono (gj_fr (J := []) f1 (by simp)) (by simp) (by simp)) (gj_trans (gj_mono (gj_fr (J := []) f2 (by simp)) (by simp) (by simp)) (gj_put0 _ _ (by simp)))
    obtain ⟨σ4, c1, c2, c3, c4⟩ := M_copyRow (n := 1000) (w := 10) (nw := 616) (u := 12) (nu := 616) (f := 0) (t := 0) (σ := σ0) (by omega) (by decide) (by omega) (by omega) (by omega) (by omega)
    have FM : gj [12] [23] σ0 (g_put σ4 0 23 1) := gj_trans (gj_fr (J := [23]) c4 (by simp)) (gj_put0 _ _ (by simp))
    have xs9 : XS C s ((g_put τ2 0 15 1).1 (11 + 5 * 0)) := by rw [FX.1 11 (by simp) (by decide)]; exact hI.xs
    have ms9 : MS C s ((g_put σ4 0 23 1).1 10) 0 := by rw [FM.1 10 (by simp) (by decide)]; exact hI.ms
    rw [hP55 hI.xe, b_I, if_neg n10, X_copy, b_V, eτ, eL, b_V, b_L, X_cost (by omega) xs9, b_I, if_neg (hA14 hI.me), show (0 : Int32) = nI 0 from rfl, c1, b_V, b_L, M_cost ms9, b_I]
    refine ⟨_, _, _, rfl, rfl, TP_gj hT FX FM (by decide) (by decide) (by decide), SC_gj hS FX FM (by decide) (by decide) (by decide) (by decide), ST_gj hU FX FM (by decide) (by decide), Or.inr ⟨D, S, C, F, BIx_gj (Nat.le_refl _) ⟨s, E, a, hh, e, g, Hs, haB, hI⟩ FX FM (by decide) (by decide) (by decide), Or.inr ⟨gp_s _ _ _ _, gp_s _ _ _ _, s, E, a, haB, hI.ok, ?_, ?_, hI.lo, ?_⟩⟩⟩
    · rw [show (g_put τ2 0 15 1).1 21 = τ2.1 21 from g_put_o _ _ _ _ 21 (by decide), f2.1 21 (by simp)]
      exact X2
    · rw [show (g_put σ4 0 23 1).1 12 = σ4.1 12 from g_put_o _ _ _ _ 12 (by decide)]
      exact MS_copy w6 hI.ms (fun k hk => c2 k hk)
    · exact XL_gj L2 (gj_put0 (L := []) (J := [15]) _ _ (by simp)) (by simp) (by simp)
theorem o44 (hc : c < 512) (h : Inv c σX σM) : ∃ (r : Int32) (τX τM : gM), fX11_back 1000 σX = some (r, τX) ∧ fX12_back 1000 σM = some (r, τM) ∧ Inv (c + 1) τX τM := by
  have h0 := Inv_0 h 0
  unfold fX11_back fX12_back
  rw [b_L]
  generalize g_put σM 0 0 0 = σ0 at *
  obtain ⟨hT, hS, hU, hB⟩ := id h0
  rcases hB with hN | ⟨D, S, C, F, ⟨s0, E0, a0, h0', e, g, Hs, haB, hI⟩, hM⟩
  · rw [if_pos hN.im, if_pos hN.m23]
    exact ⟨_, _, _, rfl, rfl, h0⟩
  · rcases id hM with ⟨i1, i2⟩ | ⟨i1, i2, s, E, a, i3, i4, i5, i6, i7, i8⟩
    · rw [if_pos i1, if_pos i2]
      exact ⟨_, _, _, rfl, rfl, h0⟩
    · obtain ⟨w1, w2, w3, w4, w5, w6, w7⟩ := hI.xe.1
      have z1 : ¬ σX.1 0 15 = 0 := by rw [i1]; decide
      have z2 : ¬ σ0.1 0 23 = 0 := by rw [i2]; decide
      have xs0 : XS C s (σX.1 (11 + 5 * 2)) := i5
      have X2 := XS_cpy (i := 0) xs0
      generalize eτ : g_row σX (11 + 5 * 0) (va_cpy (σX.1 (11 + 5 * 2)) (σX.1 (11 + 5 * 0)) 0 0 144) = τ1 at X2
      have f1 : fr [11] σX τ1 := by rw [← eτ]; exact fr_row _ _ (by simp)
      have xl1 : XL E a 0 1 τ1 := XL_gj i8 (gj_fr (J := []) f1 (by simp)) (by simp) (by simp)
      have L2 := XL_copy (i := 0) xl1 (by decide)
      have eL := X_copyLog (i := 0) (j := 1) τ1
      generalize eτ2 : g_put (g_row τ1 (26 + 2 * 0) (va_cpy (τ1.1 (26 + 2 * 1)) (τ1.1 (26 + 2 * 0)) 0 0 300)) (25 + 2 * 0) 1 ((g_row τ1 (26 + 2 * 0) (va_cpy (τ1.1 (26 + 2 * 1)) (τ1.1 (26 + 2 * 0)) 0 0 300)).1 (25 + 2 * 1) 1) = τ2 at L2 eL
      have f2 : fr [25, 26] τ1 τ2 := by rw [← eτ2]; exact fr_trans (fr_row _ _ (by simp)) (fr_put _ _ _ (by simp))
      have FX : gj [11, 25, 26, 29] [] σX (g_put τ2 29 2 0) := gj_trans (gj_mono (gj_fr (J := []) f1 (by simp)) (by simp) (by simp)) (gj_trans (gj_mono (gj_fr (J := []) f2 (by simp)) (by simp) (by simp)) (gj_put _ _ _ (by simp) (by decide)))
      obtain ⟨σ4, c1, c2, c3, c4⟩ := M_copyRow (n := 1000) (w := 12) (nw := 616) (u := 10) (nu := 616) (f := 0) (t := 0) (σ := σ0) (by omega) (by decide) (by omega) (by omega) (by omega) (by omega)
      have FM : gj [10] [22] σ0 (g_put σ4 0 22 0) := gj_trans (gj_fr (J := [22]) c4 (by simp)) (gj_put0 _ _ (by simp))
      have xs9 : XS C s ((g_put τ2 29 2 0).1 (11 + 5 * 0)) := by
        rw [show (g_put τ2 29 2 0).1 (11 + 5 * 0) = τ2.1 (11 + 5 * 0) from g_put_o _ _ _ _ _ (by decide), f2.1 (11 + 5 * 0) (by simp)]
        exact X2
      have ms9 : MS C s ((g_put σ4 0 22 0).1 10) 0 := by
        rw [show (g_put σ4 0 22 0).1 10 = σ4.1 10 from g_put_o _ _ _ _ 10 (by decide)]
        exact MS_copy w6 i6 (fun k hk => c2 k hk)
      have hr : (a0 + e) % 40 < 40 := Nat.mod_lt _ (by decide)
      have hf : (a0 - h0' + g) % 40 < 40 := Nat.mod_lt _ (by decide)
      unfold fX2_forget
      rw [if_neg z1, if_neg z2, X_copy, b_V, eτ, eL, b_V, b_L, b_V, X_cost (by omega) xs9, b_I, show (fX12_copyRow 1000 12 616 10 616 0 0 σ0) = some σ4 from c1, b_V, b_L, M_cost ms9, b_I]
      refine ⟨_, _, _, rfl, rfl, TP_gj hT FX FM (by decide) (by decide) (by decide), SC_gj hS FX FM (by decide) (by decide) (by decide) (by decide), ST_gj hU FX FM (by decide) (by decide), Or.inr ⟨D, S, C, F, ⟨s, E, a, 0, (a0 + e) % 40 + 39 * a, (a0 - h0' + g) % 40 + 39 * a, Hs, i3, ⟨XE_gj hI.xe FX (by decide) (by decide) (by decide) (by decide), ME_gj hI.me FM (by decide) (by decide) (by decide) (by decide) (by decide), i4, xs9, ms9, i7, ?_, ?_⟩⟩, IM_gj (Nat.le_refl _) hM FX FM (by decide) (by decide) (by decide) (by decide)⟩⟩
      · exact XL_gj L2 (gj_put (L := [29]) (J := []) _ _ _ (by simp) (by decide)) (by simp) (by simp)
      · refine ⟨by omega, by omega, ?_, gp_s _ _ _ _, ?_, gp_s _ _ _ _, fun k k1 k2 => absurd k2 (by omega)⟩
        · rw [gp_k, if_neg (by decide), f2.1 29 (by simp), f1.1 29 (by simp), hI.hi.nx, show (a + ((a0 + e) % 40 + 39 * a)) % 40 = (a0 + e) % 40 by omega]
        · rw [gp_k, if_neg (by decide), c4.1 0 (by simp), hI.hi.fi, show (a - 0 + ((a0 - h0' + g) % 40 + 39 * a)) % 40 = (a0 - h0' + g) % 40 by omega]
theorem o11 (hc : c < 512) (a1 : Int32) (h : Inv c σX σM) : (∃ (r : Int32) (τX τM : gM), fX11_read 1000 a1 σX = some (r, τX) ∧ fX12_read 1000 a1 σM = some (r, τM) ∧ τM.1 0 0 = 0 ∧ Inv (c + 1) τX τM) ∨ (∃ (r : Int32) (τM : gM), fX6_isAddress a1 σX = some (0, σX) ∧ fX12_read 1000 a1 σM = some (r, τM) ∧ τM.1 0 0 = 1 ∧ Inv (c + 1) σX τM) := by
  have no : fX6_isAddress a1 σX = some (0, σX) → fX12_isAddress a1 σM = some (0, σM) → ∃ (r : Int32) (τM : gM), fX6_isAddress a1 σX = some (0, σX) ∧ fX12_read 1000 a1 σM = some (r, τM) ∧ τM.1 0 0 = 1 ∧ Inv (c + 1) σX τM := by
    intro e1 e2
    unfold fX12_read fX12_read_b14
    rw [e2, b_I, if_pos rfl, b_L, gp_s, if_neg (by decide)]
    exact ⟨_, _, e1, rfl, gp_s _ _ _ _, Inv_0 h 1⟩
  rcases Inv_cases h with hN | ⟨D, S, C, F, s, xe, me, ok, xs, ms⟩
  · exact Or.inr (no (no_addr hN a1) (noM_addr hN a1))
  · rcases J_addr xe me a1 with ⟨a, ha, rfl⟩ | ⟨e1, e2⟩
    · left
      have h0 := Inv_0 h 0
      have xs0 : XS C s (σX.1 (11 + 5 * 0)) := xs
      obtain ⟨τX, x1, x2, x3⟩ := X_byteRead (n := 1000) (by omega) xe ok xs0 ha
      have g0 : gj [] [0] σM (g_put σM 0 0 0) := gj_put0 _ _ (by simp)
      have me0 := ME_gj me g0 (by simp) (by simp) (by simp) (by simp) (by simp)
      have ms0 : MS C s ((g_put σM 0 0 0).1 10) 0 := by rw [g0.1 10 (by simp) (by decide)]; exact ms
      obtain ⟨τM, y1, y2⟩ := M_reads (n := 1000) (by omega) me0 ok ms0 (by omega) (by omega) ha
      unfold fX11_read fX12_read fX12_read_b14
      rw [X_isAddress_yes xe ha, b_I, if_neg n10, x1, b_I, M_isAddress_yes me ha, b_I, if_neg n10, b_L, gp_s, if_pos (by decide), y1, b_I]
      refine ⟨_, τX, τM, rfl, rfl, ?_, Inv_gk h0 (gj_fr (J := []) x3 (by simp)) (gj_fr (J := []) y2 (by simp)) (by decide) (by decide) (by decide) (by decide)⟩
      rw [y2.1 0 (by simp), gp_s]
    · exact Or.inr (no e1 e2)
end OPS
