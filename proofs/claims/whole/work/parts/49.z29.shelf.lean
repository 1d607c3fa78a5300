/-! reading of a shelf: the whole text -/
theorem RX_put {T : Nat → Nat} {L p n hd x : Nat} {R V : Nat → Nat} {σ : gM} (h : RX T L p n hd R V σ) : RX T L x n hd R V (g_put σ 1 2 (nI x)) := by
  obtain ⟨h1, h2, h3, h4, h5, h6⟩ := h
  refine ⟨XT_gk (A := []) (J := [2]) h1 (gk_put1 _ _ (by simp)) (by simp) (by simp), gp_s _ _ _ _, ?_, ?_, ?_, ?_⟩
  · rw [gp_k, if_neg (by decide)]; exact h3
  · rw [gp_k, if_neg (by decide)]; exact h4
  · intro w hw; rw [gp_o (by decide)]; exact h5 w hw
  · intro w hw; rw [gp_o (by decide)]; exact h6 w hw
theorem RM_gj {T : Nat → Nat} {L p n x : Nat} {R V : Nat → Nat} {σ τ : gM} (h : RM T L p n R V σ) (f : gj [] [3] σ τ) (e : τ.1 0 3 = nI x) : RM T L x n R V τ := by
  obtain ⟨h1, h2, h3, h4, h5, h6⟩ := h
  refine ⟨MT_gj h1 f (by simp) (by simp), e, ?_, ?_, ?_, ?_⟩
  · rw [f.2.1 4 (by simp)]; exact h3
  · rw [f.2.1 11 (by simp)]; exact h4
  · intro w hw; rw [f.1 2 (by simp) (by decide)]; exact h5 w hw
  · intro w hw; rw [f.1 4 (by simp) (by decide)]; exact h6 w hw
theorem J_shelf {T : Nat → Nat} {L : Nat} (hL : L ≤ 280) : ∀ (q p n hd : Nat) (R V : Nat → Nat) (g mX mM : Nat) (σX σM : gM), p ≤ L → L - p < q → g ≤ p → q < mX → q < mM → RB n hd R V → RX T L p n hd R V σX → RM T L p n R V σM →
    ∃ τX τM f, gk [3, 4] [2, 3, 4, 7, 8] σX τX ∧ gj [2, 4] [3, 4, 11] σM τM ∧ fX10_shelfFault_L24 1000 mX (nI g) σX = some (f, τX) ∧ g_bI (fX12_clause 1000 (nI hd) σM) (fun r σ => fX12_readShelf_L46 1000 mM r σ) = some τM ∧ τM.1 0 4 = f ∧ (f ≠ -1 ∨ ∃ p' n' hd' R' V', RB n' hd' R' V' ∧ RX T L p' n' hd' R' V' τX ∧ RM T L p' n' R' V' τM) := by
  intro q
  induction q with
  | zero => intro p n hd R V g mX mM σX σM hp hq; omega
  | succ q ih =>
    intro p n hd R V g mX mM σX σM hp hq hg hmX hmM hb hX hM
    obtain ⟨mX, rfl⟩ : ∃ m', mX = m' + 1 := ⟨mX - 1, by omega⟩
    obtain ⟨mM, rfl⟩ : ∃ m', mM = m' + 1 := ⟨mM - 1, by omega⟩
    obtain ⟨τX, τM, FX, FM, h⟩ := J_clause hL hp hb hX hM
    rw [show fX10_shelfFault_L24 1000 (mX + 1) (nI g) σX = fX10_shelfFault_b24 1000 (fX10_shelfFault_L24 1000 mX) (nI g) σX from rfl]
    unfold fX10_shelfFault_b24
    have ng : ¬ (280 : Int32) < nI g := by rw [show (280 : Int32) = nI 280 from rfl, nLT _ _ (by omega) (by omega)]; omega
    rw [if_neg ng]
    have eb : ∀ r σ, fX12_readShelf_L46 1000 (mM + 1) r σ = fX12_readShelf_b46 1000 (fX12_readShelf_L46 1000 mM) r σ := fun _ _ => rfl
    rcases h with ⟨f, r, h1, h2, h3, h4, h5⟩ | ⟨f, r, h1, h2, h3, h4, h5, h6, h7, h8, h9⟩ | ⟨p', n', hd', R', V', h1, h2, h3, h4, h5, h6, h7, h8, h9⟩
    · rw [h2, b_I, if_pos rfl, h4, b_I, eb]
      unfold fX12_readShelf_b46 fX12_readShelf_b82
      have nf : ¬ nI f = -1 := nM1 (by omega)
      rw [h5, if_neg nf, if_neg nf]
      exact ⟨τX, τM, _, FX, FM, rfl, rfl, by rw [h5, h3], Or.inl (by rw [h3]; exact nf)⟩
    · have nf : ¬ nI f = -1 := nM1 (by omega)
      rw [h5, b_I, if_pos rfl, h7, b_I, eb]
      unfold fX12_readShelf_b46 fX12_readShelf_b82
      obtain ⟨τ1, d1, c1, g1⟩ := M_look h4 hL h9 (by omega)
      rw [sk_id h2] at d1 c1
      have hU1 := MT_gj h4 g1 (by simp) (by simp)
      have e4 : τ1.1 0 4 = -1 := by rw [g1.2.1 4 (by simp)]; exact h8
      obtain ⟨τ2, d2, c2, g2⟩ := M_look hU1 hL c1 (by omega)
      rw [sk_id h2] at d2 c2
      have e4' : τ2.1 0 4 = -1 := by rw [g2.2.1 4 (by simp)]; exact e4
      have nn : ¬ hr T L f = 59 := by
        rw [show (59 : Int32) = nI 59 from rfl, hr_n hU1 (by omega)]
        exact fun e => h3 e.2
      have ne : ¬ hr T L f = -1 := by
        rw [hr_e hU1 (by omega)]; omega
      rw [if_pos h8, d1, b_I, if_neg nn, if_pos e4, d2, b_I, if_neg ne, M_fails e4' c2, b_V]
      exact ⟨τX, _, _, FX, gj_trans FM (gj_trans (gj_mono g1 (by simp) (by simp)) (gj_trans (gj_mono g2 (by simp) (by simp)) (gj_put0 _ _ (by simp)))), rfl, rfl, by rw [gp_s, h6], Or.inl (by rw [h6]; exact nf)⟩
    · rw [h8, b_I, if_neg n10, h9, b_I, eb, X_sign h6.1 hL h6.2.1 h2, b_I]
      unfold fX12_readShelf_b46 fX12_readShelf_b82
      obtain ⟨τ1, d1, c1, g1⟩ := M_look h7.1 hL h7.2.1 h2
      rw [sk_id h3] at d1 c1
      have hU1 := MT_gj h7.1 g1 (by simp) (by simp)
      have e4 : τ1.1 0 4 = -1 := by rw [g1.2.1 4 (by simp)]; exact h7.2.2.1
      rw [if_pos h7.2.2.1, d1, b_I]
      by_cases c : p' = L
      · have nn : ¬ hr T L p' = 59 := by
          rw [show (59 : Int32) = nI 59 from rfl, hr_n hU1 (by omega)]; omega
        obtain ⟨τ2, d2, c2, g2⟩ := M_look hU1 hL c1 h2
        rw [sk_id h3] at d2 c2
        rw [if_pos (show sx T L p' = 0 by rw [sx_0 h6.1 h2]; exact c), if_neg nn, if_pos e4, d2, b_I, if_pos (show hr T L p' = -1 by rw [hr_e hU1 h2]; exact c)]
        have g12 := gj_trans g1 g2
        exact ⟨τX, τ2, _, FX, gj_trans FM (gj_mono g12 (by simp) (by simp)), rfl, rfl, by rw [g2.2.1 4 (by simp)]; exact e4, Or.inr ⟨p', n', hd', R', V', h5, h6, RM_gj h7 g12 c2⟩⟩
      · have t59 := h4 (by omega)
        rw [if_neg (show ¬ sx T L p' = 0 by rw [sx_0 h6.1 h2]; exact c), if_pos (show hr T L p' = 59 by rw [show (59 : Int32) = nI 59 from rfl, hr_n hU1 (by omega)]; exact ⟨by omega, t59⟩), b_L, b_L, h6.2.1, c1, show nI p' + 1 = nI (p' + 1) from nI_add p' 1, show nI g + 1 = nI (g + 1) from nI_add g 1]
        obtain ⟨υX, υM, f, k1, k2, k3, k4, k5, k6⟩ := ih (p' + 1) n' hd' R' V' (g + 1) mX mM (g_put τX 1 2 (nI (p' + 1))) (g_put τ1 0 3 (nI (p' + 1))) (by omega) (by omega) (by omega) (by omega) (by omega) h5 (RX_put h6) (RM_gj h7 (gj_trans g1 (gj_put0 _ _ (by simp))) (gp_s _ _ _ _))
        exact ⟨υX, υM, f, gk_trans FX (gk_trans (gk_put1 _ _ (by simp)) k1), gj_trans FM (gj_trans (gj_mono g1 (by simp) (by simp)) (gj_trans (gj_put0 _ _ (by simp)) k2)), k3, k4, k5, k6⟩
/-- the text of a shelf, from its start -/
theorem J_shelfFault {T : Nat → Nat} {L : Nat} {σX σM : gM} (hL : L ≤ 280) (hX : XT L T σX) (hM : MT L T σM) :
    ∃ τX τM f, gk [3, 4] [2, 3, 4, 7, 8] σX τX ∧ gj [2, 4] [3, 4, 11] σM τM ∧ fX10_shelfFault 1000 σX = some (f, τX) ∧ g_let (g_put σM 0 3 0) (fun σ22 => g_let (g_put σ22 0 4 (-1)) (fun σ24 => fX12_readShelf 1000 σ24)) = some τM ∧ τM.1 0 4 = f ∧ (f ≠ -1 ∨ ∃ p' n' hd' R' V', RB n' hd' R' V' ∧ RX T L p' n' hd' R' V' τX ∧ RM T L p' n' R' V' τM) := by
  unfold fX10_shelfFault fX12_readShelf
  rw [b_L, b_L, b_L]
  obtain ⟨σ1, e1, f1, o1, w1⟩ := X_useDef (a := 0) (b := 6) (by decide) (by decide) (g_put (g_put (g_put σX 1 2 0) 1 7 0) 1 8 0)
  have F0 : gk [3, 4] [2, 3, 4, 7, 8] σX (g_put (g_put (g_put σX 1 2 0) 1 7 0) 1 8 0) := gk_trans (gk_put1 _ _ (by simp)) (gk_trans (gk_put1 _ _ (by simp)) (gk_put1 _ _ (by simp)))
  have F1 : gk [3, 4] [2, 3, 4, 7, 8] σX σ1 := gk_trans F0 (gk_mono f1 (by simp) (by simp))
  rw [show fX10_useDefaults 1000 0 6 (g_put (g_put (g_put σX 1 2 0) 1 7 0) 1 8 0) = some σ1 from e1, b_V]
  simp only [b_L]
  have G1 : gj [2, 4] [3, 4, 11] σM (g_put (g_put (g_put (g_put (g_put (g_put (g_put (g_put σM 0 3 0) 0 4 (-1)) 2 0 3) 2 1 4) 2 2 2) 2 3 0) 2 4 1) 0 11 0) :=
    gj_trans (gj_put0 _ _ (by simp)) (gj_trans (gj_put0 _ _ (by simp)) (gj_trans (gj_put _ _ _ (by simp) (by decide)) (gj_trans (gj_put _ _ _ (by simp) (by decide)) (gj_trans (gj_put _ _ _ (by simp) (by decide)) (gj_trans (gj_put _ _ _ (by simp) (by decide)) (gj_trans (gj_put _ _ _ (by simp) (by decide)) (gj_put0 _ _ (by simp))))))))
  obtain ⟨τX, τM, f, k1, k2, k3, k4, k5, k6⟩ := J_shelf hL 281 0 0 0 dfl dfl 0 1000 1000 σ1 _ (by omega) (by omega) (by omega) (by omega) (by omega) ⟨by omega, by omega, by decide, fun i hi => by omega⟩ ⟨XT_gk hX F1 (by simp) (by simp), by rw [f1.2.1 2 (by simp), gp_k, if_neg (by decide), gp_k, if_neg (by decide), gp_s]; rfl, by rw [f1.2.1 7 (by simp), gp_k, if_neg (by decide), gp_s]; rfl, by rw [f1.2.1 8 (by simp), gp_s]; rfl, fun w hw => w1 w (by omega) (by omega), fun i hi => by omega⟩ (⟨MT_gj hM G1 (by simp) (by simp), by rw [gp_k, if_neg (by decide), gp_o (by decide), gp_o (by decide), gp_o (by decide), gp_o (by decide), gp_o (by decide), gp_k, if_neg (by decide), gp_s]; rfl, by rw [gp_k, if_neg (by decide), gp_o (by decide), gp_o (by decide), gp_o (by decide), gp_o (by decide), gp_o (by decide), gp_s], gp_s _ _ _ _, fun w hw => by
    rw [gp_o (by decide), gp_k, gp_k, gp_k, gp_k, gp_k]
    rcases (show w = 0 ∨ w = 1 ∨ w = 2 ∨ w = 3 ∨ w = 4 by omega) with rfl | rfl | rfl | rfl | rfl <;> simp <;> rfl, fun i hi => by omega⟩)
  exact ⟨τX, τM, f, gk_trans F1 k1, gj_trans G1 k2, k3, k4, k5, k6⟩
