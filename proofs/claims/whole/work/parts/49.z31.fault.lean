/-! reading of a script: the whole text -/
def LT2 : List Nat := [119, 108, 110, 114, 115, 112, 122, 121, 102]
theorem l2_X : ∀ t, t < 256 → xIx 1 (nI t) = if px t LT2 < 9 then nI (px t LT2) else -1 := by decide +kernel
theorem l2_M : ∀ t, t < 256 → sIx (nI t) (mTx 2) 0 = if px t LT2 < 9 then nI (px t LT2) else -1 := by decide +kernel
def SR (i : Nat) (σX σM : gM) : Prop := ∀ i', i' < i → ∃ k, k < 9 ∧ σX.1 48 i' = nI k ∧ σM.1 6 (5 * (64 + i')) = nI k ∧ ∀ q, q < 4 → σM.1 6 (5 * (64 + i') + 1 + q) = if q < nmb k then σX.1 49 (4 * i' + q) else -1
theorem J_step {T : Nat → Nat} {L p i : Nat} {σX σM : gM} (hL : L ≤ 280) (hp : p ≤ L) (hi : i < 16) (hX : XT L T σX) (hM : MT L T σM) (ax : σX.1 1 2 = nI p) (am : σM.1 0 3 = nI p) (h0 : σM.1 0 4 = -1) (hs : σX.1 47 2 = nI i) (hr' : SR i σX σM) :
    ∃ τX τM, gk [47, 48, 49] [2, 3, 4] σX τX ∧ gj [6] [3, 4] σM τM ∧ (∀ x, x < 320 → τM.1 6 x = σM.1 6 x) ∧
      ((∃ p', p < p' ∧ p' ≤ L ∧ fX10_readStep 1000 (nI i) σX = some (1, τX) ∧ fX12_readStep 1000 (nI i) σM = some τM ∧ τX.1 1 2 = nI p' ∧ τM.1 0 3 = nI p' ∧ τM.1 0 4 = -1 ∧ τX.1 47 2 = nI (i + 1) ∧ SR (i + 1) τX τM) ∨
       (∃ f, f ≤ L ∧ fX10_readStep 1000 (nI i) σX = some (0, τX) ∧ fX12_readStep 1000 (nI i) σM = some τM ∧ τX.1 1 3 = nI f ∧ τM.1 0 4 = nI f)) := by
  obtain ⟨σ1, e1, a1, f1⟩ := X_skip hX hL ax hp
  obtain ⟨τ1, d1, c1, g1⟩ := M_look hM hL am hp
  have s1 := sk_ge T L p
  have s2 := sk_le (T := T) hp
  unfold fX10_readStep fX12_readStep
  rw [e1, b_V, d1, b_I, M_spotOf (by omega), b_I]
  generalize sk T L p = p1 at *
  have hX1 := XT_gk hX f1 (by simp) (by simp)
  have hM1 := MT_gj hM g1 (by simp) (by simp)
  have h01 : τ1.1 0 4 = -1 := by rw [g1.2.1 4 (by simp)]; exact h0
  have F1 : gk [47, 48, 49] [2, 3, 4] σX σ1 := gk_mono f1 (by simp) (by simp)
  have G1 : gj [6] [3, 4] σM τ1 := gj_mono g1 (by simp) (by simp)
  have t6 : ∀ x, τ1.1 6 x = σM.1 6 x := fun x => by rw [g1.1 6 (by simp) (by decide)]
  rw [X_sign hX1 hL a1 s2, b_I, X_sign hX1 hL a1 s2, b_I]
  have bad : ∃ τX τM, gk [47, 48, 49] [2, 3, 4] σX τX ∧ gj [6] [3, 4] σM τM ∧ (∀ x, x < 320 → τM.1 6 x = σM.1 6 x) ∧ fX10_readStep_b25 1000 (nI i) (-1) σ1 = some (0, τX) ∧ g_bV (fX12_fails τ1) (fun σ78 => some σ78) = some τM ∧ τX.1 1 3 = nI p1 ∧ τM.1 0 4 = nI p1 := by
    unfold fX10_readStep_b25 fX10_wrong
    rw [if_neg (show ¬ (0 : Int32) ≤ -1 by decide), b_L, b_I, if_pos (show (0 : Int32) &&& 1 = 0 by decide), M_fails h01 c1, b_V, a1]
    exact ⟨_, _, gk_trans F1 (gk_put1 _ _ (by simp)), gj_trans G1 (gj_put0 _ _ (by simp)), fun x _ => by rw [gp_o (by decide)]; exact t6 x, rfl, rfl, gp_s _ _ _ _, gp_s _ _ _ _⟩
  by_cases cE : p1 = L
  · have r : hr T L p1 = -1 := by rw [hr_e hM1 s2]; exact cE
    rw [if_pos (show sx T L p1 = 0 by rw [sx_0 hX1 s2]; exact cE), r, lt_Me 2 (by omega), if_pos rfl]
    obtain ⟨τX, τM, k1, k2, k3, k4, k5, k6, k7⟩ := bad
    exact ⟨τX, τM, k1, k2, k3, Or.inr ⟨p1, s2, k4, k5, k6, k7⟩⟩
  · have hlt : p1 < L := by omega
    have ht := hX1.2 p1 hlt
    have es : sx T L p1 = nI (T p1) := by unfold sx; rw [if_pos hlt]
    have er : hr T L p1 = nI (T p1) := by unfold hr; rw [if_pos hlt]
    rw [if_neg (show ¬ sx T L p1 = 0 by rw [sx_0 hX1 s2]; exact cE), es, er, cv_ch _ ht.2.1, l2_X _ ht.2.1, l2_M _ ht.2.1]
    by_cases ck : px (T p1) LT2 < 9
    · rw [if_pos ck, if_neg (nM1 (by omega))]
      generalize px (T p1) LT2 = k at *
      unfold fX10_readStep_b25
      have hs1 : (g_put σ1 1 2 (nI (p1 + 1))).1 47 2 = nI i := by rw [gp_o (by decide), f1.1 47 (by simp) (by decide)]; exact hs
      have eb : (5 : Int32) * (64 + nI i) = nI (5 * (64 + i)) := by rw [show (64 : Int32) + nI i = nI (64 + i) from nI_add 64 i, show (5 : Int32) * nI (64 + i) = nI (5 * (64 + i)) from pk_mul 5 _]
      rw [if_pos (show (0 : Int32) ≤ nI k by rw [show (0 : Int32) = nI 0 from rfl, nLE _ _ (by omega) (by omega)]; omega), b_L, a1, show nI p1 + 1 = nI (p1 + 1) from nI_add p1 1, X_add4 hi hs1, b_V, b_L, c1, show nI p1 + 1 = nI (p1 + 1) from nI_add p1 1, eb, nCL (by omega), if_pos (show ¬ (nI (5 * (64 + i)) < 0 ∨ 400 ≤ 5 * (64 + i)) by rw [show (0 : Int32) = nI 0 from rfl, nLT _ _ (by omega) (by omega)]; omega), b_L]
      have F2 : gk [47, 48, 49] [2, 3, 4] σX (g_put (g_put (g_put σ1 1 2 (nI (p1 + 1))) 48 i (nI k)) 47 2 (nI (i + 1))) := gk_trans F1 (gk_trans (gk_put1 _ _ (by simp)) (gk_trans (gk_put _ _ _ (by simp) (by decide)) (gk_put _ _ _ (by simp) (by decide))))
      have G2 : gj [6] [3, 4] σM (g_put (g_put τ1 0 3 (nI (p1 + 1))) 6 (5 * (64 + i)) (nI k)) := gj_trans G1 (gj_trans (gj_put0 _ _ (by simp)) (gj_put _ _ _ (by simp) (by decide)))
      obtain ⟨τX, τM, k1, k2, k3, k4, k5⟩ := J_nums (T := T) hL hi ck rfl (nmb k) 0 (p1 + 1) 1000 1000 (g_put (g_put (g_put σ1 1 2 (nI (p1 + 1))) 48 i (nI k)) 47 2 (nI (i + 1))) (g_put (g_put τ1 0 3 (nI (p1 + 1))) 6 (5 * (64 + i)) (nI k)) (by omega) (by have := nmb_le k ck; omega) (by omega) (by omega) (XT_gk hX F2 (by simp) (by simp)) (MT_gj hM G2 (by simp) (by simp)) (by rw [gp_o (by decide), gp_o (by decide), gp_s]) (by rw [gp_o (by decide), gp_s]) (by rw [gp_o (by decide), gp_k, if_neg (by decide)]; exact h01) (gp_s _ _ _ _) (fun q hq => by omega)
      have F3 : gk [47, 48, 49] [2, 3, 4] σX τX := gk_trans F2 (gk_mono k1 (by simp) (by simp))
      have G3 := gj_trans G2 k2
      have t3 : ∀ x, (x < 5 * (64 + i) ∨ 5 * (64 + i) + 5 ≤ x) → τM.1 6 x = σM.1 6 x := fun x hx => by rw [k4 x (by omega), gp_k, if_neg (by omega), gp_o (by decide)]; exact t6 x
      refine ⟨τX, τM, F3, G3, fun x hx => t3 x (by omega), ?_⟩
      rcases k5 with ⟨p', l1, l2, l3, l4, l5, l6, l7, l8⟩ | ⟨f, l1, l2, l3, l4, l5⟩
      · refine Or.inl ⟨p', by omega, l2, l3, l4, l5, l6, l7, by rw [k1.1 47 (by simp) (by decide), gp_s], fun i' hi' => ?_⟩
        by_cases e : i' = i
        · subst e
          exact ⟨k, ck, by rw [k1.1 48 (by simp) (by decide), gp_o (by decide), gp_s], by rw [k4 _ (Or.inl (by omega)), gp_s], l8⟩
        · obtain ⟨k', u1, u2, u3, u4⟩ := hr' i' (by omega)
          refine ⟨k', u1, ?_, ?_, fun q hq => ?_⟩
          · rw [k1.1 48 (by simp) (by decide), gp_o (by decide), gp_k, if_neg e, gp_o (by decide), f1.1 48 (by simp) (by decide)]; exact u2
          · rw [t3 _ (by omega)]; exact u3
          · rw [t3 _ (by omega), k3 _ (by omega), gp_o (by decide), gp_o (by decide), gp_o (by decide), f1.1 49 (by simp) (by decide)]; exact u4 q hq
      · exact Or.inr ⟨f, l1, l2, l3, l4, l5⟩
    · rw [if_neg ck, if_pos rfl]
      obtain ⟨τX, τM, k1, k2, k3, k4, k5, k6, k7⟩ := bad
      exact ⟨τX, τM, k1, k2, k3, Or.inr ⟨p1, s2, k4, k5, k6, k7⟩⟩
theorem J_script' {T : Nat → Nat} {L : Nat} (hL : L ≤ 280) : ∀ (q i p mX mM : Nat) (σX σM : gM), i + q = 16 → 0 < q → q + 1 < mX → q + 2 < mM → p ≤ L → XT L T σX → MT L T σM → σX.1 1 2 = nI p → σM.1 0 3 = nI p → σM.1 0 4 = -1 → σX.1 47 2 = nI i → SR i σX σM →
    ∃ τX τM f, gk [47, 48, 49] [2, 3, 4] σX τX ∧ gj [6, 7] [3, 4] σM τM ∧ (∀ x, x < 320 → τM.1 6 x = σM.1 6 x) ∧ (∀ x, x < 4 → τM.1 7 x = σM.1 7 x) ∧ fX10_scriptFault_L14 1000 mX (nI i) σX = some (f, τX) ∧ fX12_readScript_L4 1000 mM (nI i) 1 σM = some τM ∧ τM.1 0 4 = f ∧ (f ≠ -1 ∨ SP 4 τX τM) := by
  intro q
  induction q with
  | zero => intro i p mX mM σX σM _ h; omega
  | succ q ih =>
    intro i p mX mM σX σM hi _ hm1 hm2 hp hX hM ax am h0 hs hr'
    obtain ⟨mX, rfl⟩ : ∃ m', mX = m' + 1 := ⟨mX - 1, by omega⟩
    obtain ⟨mM, rfl⟩ : ∃ m', mM = m' + 1 + 1 := ⟨mM - 2, by omega⟩
    rw [show fX10_scriptFault_L14 1000 (mX + 1) (nI i) σX = fX10_scriptFault_b14 1000 (fX10_scriptFault_L14 1000 mX) (nI i) σX from rfl, show fX12_readScript_L4 1000 (mM + 1 + 1) (nI i) 1 σM = fX12_readScript_b4 1000 (fX12_readScript_L4 1000 (mM + 1)) (nI i) 1 σM from rfl]
    obtain ⟨τX, τM, FX, FM, F6, h⟩ := J_step hL hp (show i < 16 by omega) hX hM ax am h0 hs hr'
    unfold fX10_scriptFault_b14 fX12_readScript_b4
    rw [if_neg (show ¬ (16 : Int32) ≤ nI i by rw [show (16 : Int32) = nI 16 from rfl, nLE _ _ (by omega) (by omega)]; omega), if_neg n10]
    have FM' : gj [6, 7] [3, 4] σM τM := gj_mono FM (by simp) (by simp)
    have F7 : ∀ x, τM.1 7 x = σM.1 7 x := fun x => by rw [FM.1 7 (by simp) (by decide)]
    rcases h with ⟨p', h1, h2, h3, h4, h5, h6, h7, h8, h9⟩ | ⟨f, h1, h2, h3, h4, h5⟩
    · rw [h3, b_I, if_neg n10, h4, b_V, if_pos h7]
      have hX1 := XT_gk hX FX (by simp) (by simp)
      have hM1 := MT_gj hM FM (by simp) (by simp)
      obtain ⟨σ2, e2, a2, f2⟩ := X_skip hX1 hL h5 h2
      obtain ⟨τ2, d2, c2, g2⟩ := M_look hM1 hL h6 h2
      have s1 := sk_ge T L p'
      have s2 := sk_le (T := T) h2
      have s3 := sk_nb T L p'
      rw [e2, b_V, d2, b_I]
      generalize sk T L p' = p2 at *
      have hX2 := XT_gk hX1 f2 (by simp) (by simp)
      have hM2 := MT_gj hM1 g2 (by simp) (by simp)
      have h02 : τ2.1 0 4 = -1 := by rw [g2.2.1 4 (by simp)]; exact h7
      rw [X_sign hX2 hL a2 s2, b_I, X_sign hX2 hL a2 s2, b_I, show nI i + 1 = nI (i + 1) from nI_add i 1]
      have e59 : (sx T L p2 = 59) = (p2 < L ∧ T p2 = 59) := sx_n (t := 59) hX2 (by omega) (by omega)
      have r59 : (hr T L p2 = 59) = (p2 < L ∧ T p2 = 59) := hr_n (t := 59) hM2 (by omega)
      have F2 : gk [47, 48, 49] [2, 3, 4] σX σ2 := gk_trans FX (gk_mono f2 (by simp) (by simp))
      have G2 : gj [6, 7] [3, 4] σM τ2 := gj_trans FM' (gj_mono g2 (by simp) (by simp))
      have t6 : ∀ x, x < 320 → τ2.1 6 x = σM.1 6 x := fun x hx => by rw [g2.1 6 (by simp) (by decide)]; exact F6 x hx
      have t7 : ∀ x, τ2.1 7 x = σM.1 7 x := fun x => by rw [g2.1 7 (by simp) (by decide)]; exact F7 x
      have hs2 : σ2.1 47 2 = nI (i + 1) := by rw [f2.1 47 (by simp) (by decide)]; exact h8
      have hr2 : SR (i + 1) σ2 τ2 := by
        unfold SR at h9 ⊢
        rw [f2.1 48 (by simp) (by decide), f2.1 49 (by simp) (by decide), g2.1 6 (by simp) (by decide)]
        exact h9
      unfold fX12_readScript_b39
      by_cases c59 : p2 < L ∧ T p2 = 59
      · rw [if_neg (show ¬ sx T L p2 = 0 by rw [sx_0 hX2 s2]; omega), if_pos (show sx T L p2 = 59 by rw [e59]; exact c59), if_pos (show hr T L p2 = 59 by rw [r59]; exact c59), b_L, a2, show nI p2 + 1 = nI (p2 + 1) from nI_add p2 1, if_neg n10]
        have F3 : gk [47, 48, 49] [2, 3, 4] σX (g_put σ2 1 2 (nI (p2 + 1))) := gk_trans F2 (gk_put1 _ _ (by simp))
        by_cases c16 : i + 1 = 16
        · rw [if_pos (show nI (i + 1) = 16 by rw [c16]; rfl), M_fails h02 c2, b_V]
          refine ⟨g_put σ2 1 2 (nI (p2 + 1)), _, nI p2, F3, gj_trans G2 (gj_put0 _ _ (by simp)), fun x hx => by rw [gp_o (by decide)]; exact t6 x hx, fun x hx => by rw [gp_o (by decide)]; exact t7 x, ?_, rfl, gp_s _ _ _ _, Or.inl (nM1 (by omega))⟩
          obtain ⟨mX, rfl⟩ : ∃ m', mX = m' + 1 := ⟨mX - 1, by omega⟩
          show fX10_scriptFault_b14 1000 (fX10_scriptFault_L14 1000 mX) (nI (i + 1)) _ = _
          unfold fX10_scriptFault_b14
          rw [if_pos (show (16 : Int32) ≤ nI (i + 1) by rw [c16]; decide), gp_s, show nI (p2 + 1) - 1 = nI p2 from pk_sub (a := p2 + 1) (b := 1) (by omega)]
        · unfold fX12_readScript_b55
          rw [if_neg (show ¬ nI (i + 1) = 16 by rw [show (16 : Int32) = nI 16 from rfl, nEQ _ _ (by omega) (by omega)]; exact c16), if_neg n10, b_L, c2, show nI p2 + 1 = nI (p2 + 1) from nI_add p2 1]
          have G3 : gj [6, 7] [3, 4] σM (g_put τ2 0 3 (nI (p2 + 1))) := gj_trans G2 (gj_put0 _ _ (by simp))
          obtain ⟨υX, υM, f, k1, k2, k3, k4, k5, k6, k7, k8⟩ := ih (i + 1) (p2 + 1) mX (mM + 1) (g_put σ2 1 2 (nI (p2 + 1))) (g_put τ2 0 3 (nI (p2 + 1))) (by omega) (by omega) (by omega) (by omega) (by omega) (XT_gk hX F3 (by simp) (by simp)) (MT_gj hM G3 (by simp) (by simp)) (gp_s _ _ _ _) (gp_s _ _ _ _) (by rw [gp_k, if_neg (by decide)]; exact h02) (by rw [gp_o (by decide)]; exact hs2) (by
            unfold SR at hr2 ⊢
            intro i' hi'
            obtain ⟨k, u1, u2, u3, u4⟩ := hr2 i' hi'
            exact ⟨k, u1, by rw [gp_o (by decide)]; exact u2, by rw [gp_o (by decide)]; exact u3, fun q hq => by rw [gp_o (by decide), gp_o (by decide)]; exact u4 q hq⟩)
          exact ⟨υX, υM, f, gk_trans F3 k1, gj_trans G3 k2, fun x hx => by rw [k3 x hx, gp_o (by decide)]; exact t6 x hx, fun x hx => by rw [k4 x hx, gp_o (by decide)]; exact t7 x, k5, k6, k7, k8⟩
      · unfold fX12_readScript_b55
        rw [if_neg (show ¬ sx T L p2 = 59 by rw [e59]; exact c59), if_neg (show ¬ hr T L p2 = 59 by rw [r59]; exact c59), if_pos rfl, if_pos rfl]
        rw [show fX12_readScript_L4 1000 (mM + 1) (nI (i + 1)) 0 τ2 = fX12_readScript_b4 1000 (fX12_readScript_L4 1000 mM) (nI (i + 1)) 0 τ2 from rfl]
        unfold fX12_readScript_b4
        rw [if_pos rfl, b_L]
        have G3 : gj [7] [3] τ2 (g_put τ2 7 4 (nI (i + 1))) := gj_put _ _ _ (by simp) (by decide)
        have hM3 := MT_gj hM2 G3 (by simp) (by simp)
        obtain ⟨τ4, d4, c4, g4⟩ := M_look (p := p2) hM3 hL (by rw [gp_o (by decide)]; exact c2) s2
        rw [sk_id s3] at d4 c4
        have h04 : τ4.1 0 4 = -1 := by rw [g4.2.1 4 (by simp), gp_o (by decide)]; exact h02
        have G4 : gj [6, 7] [3, 4] σM τ4 := gj_trans G2 (gj_trans (gj_mono G3 (by simp) (by simp)) (gj_mono g4 (by simp) (by simp)))
        have w6 : ∀ x, τ4.1 6 x = τ2.1 6 x := fun x => by rw [g4.1 6 (by simp) (by decide), gp_o (by decide)]
        have w7 : ∀ x, τ4.1 7 x = if x = 4 then nI (i + 1) else τ2.1 7 x := fun x => by rw [g4.1 7 (by simp) (by decide), gp_k]
        have hM4 := MT_gj hM3 g4 (by simp) (by simp)
        rw [d4, b_I]
        by_cases cE : p2 = L
        · rw [if_pos (show sx T L p2 = 0 by rw [sx_0 hX2 s2]; exact cE), if_pos (show hr T L p2 = -1 by rw [hr_e hM4 s2]; exact cE)]
          refine ⟨σ2, τ4, -1, F2, G4, fun x hx => by rw [w6]; exact t6 x hx, fun x hx => by rw [w7, if_neg (by omega)]; exact t7 x, rfl, rfl, h04, Or.inr ⟨i + 1, by omega, by omega, hs2, by rw [w7, if_pos rfl], fun i' hi' => ?_⟩⟩
          obtain ⟨k, u1, u2, u3, u4⟩ := hr2 i' hi'
          exact ⟨k, u1, u2, by rw [w6]; exact u3, fun q hq => by rw [w6]; exact u4 q hq⟩
        · rw [if_neg (show ¬ sx T L p2 = 0 by rw [sx_0 hX2 s2]; exact cE), if_neg (show ¬ hr T L p2 = -1 by rw [hr_e hM4 s2]; exact cE), M_fails h04 c4, b_V]
          exact ⟨σ2, _, _, F2, gj_trans G4 (gj_put0 _ _ (by simp)), fun x hx => by rw [gp_o (by decide), w6]; exact t6 x hx, fun x hx => by rw [gp_o (by decide), w7, if_neg (by omega)]; exact t7 x, rfl, rfl, by rw [gp_s, a2], Or.inl (by rw [a2]; exact nM1 (by omega))⟩
    · rw [h2, b_I, if_pos rfl, h3, b_V, if_neg (by rw [h5]; exact nM1 (by omega))]
      exact ⟨τX, τM, _, FX, FM', F6, fun x _ => F7 x, rfl, rfl, by rw [h5, h4], Or.inl (by rw [h4]; exact nM1 (by omega))⟩
/-- the text of a script, from its start -/
theorem J_scriptFault {T : Nat → Nat} {L : Nat} {σX σM : gM} (hL : L ≤ 280) (hX : XT L T σX) (hM : MT L T σM) :
    ∃ τX τM f, gk [47, 48, 49] [2, 3, 4] σX τX ∧ gj [6, 7] [3, 4] σM τM ∧ (∀ x, x < 320 → τM.1 6 x = σM.1 6 x) ∧ (∀ x, x < 4 → τM.1 7 x = σM.1 7 x) ∧ fX10_scriptFault 1000 σX = some (f, τX) ∧ g_let (g_put σM 0 3 0) (fun σ22 => g_let (g_put σ22 0 4 (-1)) (fun σ24 => fX12_readScript 1000 σ24)) = some τM ∧ τM.1 0 4 = f ∧ (f ≠ -1 ∨ SP 4 τX τM) := by
  unfold fX10_scriptFault fX12_readScript fX7_clear
  rw [b_L, b_L, b_V, b_L, b_L]
  have F1 : gk [47, 48, 49] [2, 3, 4] σX (g_put (g_put σX 1 2 0) 47 2 0) := gk_trans (gk_put1 _ _ (by simp)) (gk_put _ _ _ (by simp) (by decide))
  have G1 : gj [6, 7] [3, 4] σM (g_put (g_put σM 0 3 0) 0 4 (-1)) := gj_trans (gj_put0 _ _ (by simp)) (gj_put0 _ _ (by simp))
  obtain ⟨τX, τM, f, k1, k2, k3, k4, k5, k6, k7, k8⟩ := J_script' (T := T) hL 16 0 0 1000 1000 (g_put (g_put σX 1 2 0) 47 2 0) (g_put (g_put σM 0 3 0) 0 4 (-1)) (by omega) (by omega) (by omega) (by omega) (by omega) (XT_gk hX F1 (by simp) (by simp)) (MT_gj hM G1 (by simp) (by simp)) (by rw [gp_o (by decide), gp_s]; rfl) (by rw [gp_k, if_neg (by decide), gp_s]; rfl) (gp_s _ _ _ _) (gp_s _ _ _ _) (fun i' hi' => by omega)
  exact ⟨τX, τM, f, gk_trans F1 k1, gj_trans G1 k2, fun x hx => by rw [k3 x hx, gp_o (by decide), gp_o (by decide)], fun x hx => by rw [k4 x hx, gp_o (by decide), gp_o (by decide)], k5, k6, k7, k8⟩
